theorem l11_6_1 {s : Nat × (Nat → Int32)} {S : zS} {m0 : zM} {d : Nat} {Q : Option zV → zM → Prop} (g0 : Nat) (y1 y4 : Int) (BE : Int) (hE : BE ≤ 1000000000) (hd : 13 ≤ d) (hy1 : 0 ≤ y1 ∧ y1 ≤ 0) (hy4 : 16 ≤ y4 ∧ y4 ≤ 16)
    (K22 : ∀ (m' : zM) (B' : Int), J S m0 B' m' → B' ≤ BE → X (EE s) d 11 22 [] [] m' Q) :
    ∀ (n : Nat) (y3 : Int) (m : zM) (B : Int), J S m0 B m → B + 0 * (n : Int) ≤ BE → (0 ≤ y3 ∧ y3 ≤ 16) → 16 - y3 < (n : Int) → X (EE s) d 11 6 [(0, zr g0 22), (1, zl y1), (3, zi y3), (4, zi y4)] [] m Q := by
  intro n
  induction n with
  | zero =>
    intro y3 m B hJ hB  hy3 hn
    exfalso
    omega
  | succ n ih =>
    intro y3 m B hJ hB  hy3 hn
    refine X.iload_n 7 i11_6 rfl rfl rfl ?_
    refine X.iload 9 i11_7 rfl rfl rfl ?_
    refine X.icmpge 22 12 i11_9 rfl rfl rfl (fun h504 => ?_) (fun h504 => ?_)
    · refine X.cut [] i11_22 rfl ?_
      exact K22  m (B) (hJ.up (by omega)) (by omega)  
    · refine X.aload_n 13 i11_12 rfl rfl rfl ?_
      refine X.iload_n 14 i11_13 rfl rfl rfl ?_
      refine X.lload_n 15 i11_14 rfl rfl rfl ?_
      refine X.last' 16 i11_15 rfl rfl (by decide) rfl (by omega) (fun hrm505 m505 hm505 => ?_)
      have hJ506 := w22_0 hJ hm505 (by omega) hrm505
      refine X.iinc 19 [(0, zr g0 22), (1, zl y1), (3, zi (y3 + 1)), (4, zi y4)] i11_16 rfl rfl rfl (by omega) rfl ?_
      refine X.goto 6 i11_19 rfl rfl ?_
      exact ih (y3 + 1) m505 (B) (hJ506.up (by omega)) (by omega)  (by omega) (by omega)
-- java/util/Arrays.fill
theorem c11_1 {s : Nat × (Nat → Int32)} {S : zS} {m0 m : zM} {B : Int} {d : Nat} {Q : Option zV → zM → Prop} (g0 : Nat) (a1 : Int) (hd : 13 ≤ d) (hJ : J S m0 B m) (hB : B + 0 ≤ 1000000000) (ha1 : 0 ≤ a1 ∧ a1 ≤ 0) (hQ : ∀ m', J S m0 (B) m' → Q none m') : X (EE s) d 11 0 [(0, zr g0 22), (1, zl a1)] [] m Q := by
  refine X.iconst 1 i11_0 rfl rfl (by decide) ?_
  refine X.istore_n 2 [(0, zr g0 22), (1, zl a1), (3, zi 0)] i11_1 rfl rfl rfl ?_
  refine X.aload_n 3 i11_2 rfl rfl rfl ?_
  refine X.alen 4 i11_3 rfl rfl (by decide) rfl ?_
  show X (EE s) d 11 4 [(0, zr g0 22), (1, zl a1), (3, zi 0)] [zi 16] m _
  refine X.istore 6 [(0, zr g0 22), (1, zl a1), (3, zi 0), (4, zi 16)] i11_4 rfl rfl rfl ?_
  refine l11_6_1 (s := s) (S := S) (m0 := m0) (d := d) g0 a1 16 (BE := B + 0) (by omega) (by omega) (by omega) (by omega) (fun  m501 B502 hJ503 hBB502 => ?_) ((16 - 0 : Int).toNat + 1) 0 m (B) (hJ.up (by omega)) (by omega)  (by omega) (by omega)
  refine X.retv i11_22 rfl t11 ?_
  exact hQ  m501  (hJ503.up (by omega)) 
-- WorkMeter$Wave.tellShape
theorem c18_1 {s : Nat × (Nat → Int32)} {S : zS} {m0 m : zM} {B : Int} {d : Nat} {Q : Option zV → zM → Prop} (g0 : Nat) (a1 a2 : Int) (hd : 14 ≤ d) (hJ : J S m0 B m) (hB : B + 0 ≤ 1000000000) (ha1 : (-2147483648) ≤ a1 ∧ a1 ≤ 2147483647) (ha2 : (-2147483648) ≤ a2 ∧ a2 ≤ 2147483647) (hs0 : S.1 g0 19 3) (hs1 : S.1 g0 19 4) (hs2 : S.1 g0 19 5) (hQ : ∀ (v : Int) m', (0 ≤ v ∧ v ≤ 1) → J S m0 (B) m' → ((v = 1 ∧ 1 ≤ a1 ∧ a1 ≤ 3 ∧ 4 ≤ a2 ∧ a2 ≤ 16 ∧ a2 % 4 = 0 ∧ m' g0 19 3 = a1 ∧ m' g0 19 4 = a2 ∧ m' g0 19 5 = 0) ∨ (v = 0 ∧ ¬ (1 ≤ a1 ∧ a1 ≤ 3 ∧ 4 ≤ a2 ∧ a2 ≤ 16 ∧ a2 % 4 = 0) ∧ m' g0 19 3 = m g0 19 3 ∧ m' g0 19 4 = m g0 19 4 ∧ m' g0 19 5 = m g0 19 5)) → Q (some (zi v)) m') : X (EE s) d 18 0 [(0, zr g0 19), (1, zi a1), (2, zi a2)] [] m Q := by
  refine X.iload_n 1 i18_0 rfl rfl rfl ?_
  refine X.iconst 2 i18_1 rfl rfl (by decide) ?_
  refine X.icmplt 27 5 i18_2 rfl rfl rfl (fun h501 => ?_) (fun h501 => ?_)
  · refine X.cut [] i18_27 rfl ?_
    refine X.iconst 28 i18_27 rfl rfl (by decide) ?_
    refine X.retz i18_28 rfl t18 (by omega) ?_
    exact hQ 0 m (by first | trivial | omega) (hJ.up (by omega)) (by first | exact (.inl ⟨by omega, by omega, by omega, by omega, by omega, by omega, by omega, by omega, by omega⟩) | exact (.inr ⟨by omega, by omega, by omega, by omega, by omega⟩))
  · refine X.iload_n 6 i18_5 rfl rfl rfl ?_
    refine X.iconst 7 i18_6 rfl rfl (by decide) ?_
    refine X.icmpgt 27 10 i18_7 rfl rfl rfl (fun h502 => ?_) (fun h502 => ?_)
    · refine X.cut [] i18_27 rfl ?_
      refine X.iconst 28 i18_27 rfl rfl (by decide) ?_
      refine X.retz i18_28 rfl t18 (by omega) ?_
      exact hQ 0 m (by first | trivial | omega) (hJ.up (by omega)) (by first | exact (.inl ⟨by omega, by omega, by omega, by omega, by omega, by omega, by omega, by omega, by omega⟩) | exact (.inr ⟨by omega, by omega, by omega, by omega, by omega⟩))
    · refine X.iload_n 11 i18_10 rfl rfl rfl ?_
      refine X.iconst 12 i18_11 rfl rfl (by decide) ?_
      refine X.icmplt 27 15 i18_12 rfl rfl rfl (fun h503 => ?_) (fun h503 => ?_)
      · refine X.cut [] i18_27 rfl ?_
        refine X.iconst 28 i18_27 rfl rfl (by decide) ?_
        refine X.retz i18_28 rfl t18 (by omega) ?_
        exact hQ 0 m (by first | trivial | omega) (hJ.up (by omega)) (by first | exact (.inl ⟨by omega, by omega, by omega, by omega, by omega, by omega, by omega, by omega, by omega⟩) | exact (.inr ⟨by omega, by omega, by omega, by omega, by omega⟩))
      · refine X.iload_n 16 i18_15 rfl rfl rfl ?_
        refine X.bipush 18 i18_16 rfl rfl (by decide) ?_
        refine X.icmpgt 27 21 i18_18 rfl rfl rfl (fun h504 => ?_) (fun h504 => ?_)
        · refine X.cut [] i18_27 rfl ?_
          refine X.iconst 28 i18_27 rfl rfl (by decide) ?_
          refine X.retz i18_28 rfl t18 (by omega) ?_
          exact hQ 0 m (by first | trivial | omega) (hJ.up (by omega)) (by first | exact (.inl ⟨by omega, by omega, by omega, by omega, by omega, by omega, by omega, by omega, by omega⟩) | exact (.inr ⟨by omega, by omega, by omega, by omega, by omega⟩))
        · refine X.iload_n 22 i18_21 rfl rfl rfl ?_
          refine X.iconst 23 i18_22 rfl rfl (by decide) ?_
          refine X.irem 24 i18_23 rfl rfl (by omega) ?_
          refine X.ifeq 29 27 i18_24 rfl rfl rfl (fun h505 => ?_) (fun h505 => ?_)
          · refine X.aload_n 30 i18_29 rfl rfl rfl ?_
            refine X.iload_n 31 i18_30 rfl rfl rfl ?_
            refine X.putI' 34 3 i18_31 rfl rfl (by decide) rfl rfl rfl (fun hrm506 m506 hm506 => ?_)
            have hJ507 := w19_3 hJ hm506 (by omega) hs0
            have wt508 : m506 g0 19 3 = a1 := by rw [hm506]; exact z_upd_same _ _ _ _ _
            have wt509 : m506 g0 19 4 = (m g0 19 4) := by rw [hm506]; exact z_upd_o _ _ rfl
            have wt510 : m506 g0 19 5 = (m g0 19 5) := by rw [hm506]; exact z_upd_o _ _ rfl
            refine X.aload_n 35 i18_34 rfl rfl rfl ?_
            refine X.iload_n 36 i18_35 rfl rfl rfl ?_
            refine X.putI' 39 4 i18_36 rfl rfl (by decide) rfl rfl rfl (fun hrm511 m511 hm511 => ?_)
            have hJ512 := w19_4 hJ507 hm511 (by omega) hs1
            have wt513 : m511 g0 19 3 = a1 := Eq.trans (by rw [hm511]; exact z_upd_o _ _ rfl) wt508
            have wt514 : m511 g0 19 4 = a2 := by rw [hm511]; exact z_upd_same _ _ _ _ _
            have wt515 : m511 g0 19 5 = (m g0 19 5) := Eq.trans (by rw [hm511]; exact z_upd_o _ _ rfl) wt510
            clear wt508 wt509 wt510
            refine X.aload_n 40 i18_39 rfl rfl rfl ?_
            refine X.iconst 41 i18_40 rfl rfl (by decide) ?_
            refine X.putI' 44 5 i18_41 rfl rfl (by decide) rfl rfl rfl (fun hrm516 m516 hm516 => ?_)
            have hJ517 := w19_5 hJ512 hm516 (by omega) hs2
            have wt518 : m516 g0 19 3 = a1 := Eq.trans (by rw [hm516]; exact z_upd_o _ _ rfl) wt513
            have wt519 : m516 g0 19 4 = a2 := Eq.trans (by rw [hm516]; exact z_upd_o _ _ rfl) wt514
            have wt520 : m516 g0 19 5 = 0 := by rw [hm516]; exact z_upd_same _ _ _ _ _
            clear wt513 wt514 wt515
            have em516 : m516 g0 19 5 = 0 := by rw [hm516]; exact z_upd_same _ _ _ _ _
            refine X.aload_n 45 i18_44 rfl rfl rfl ?_
            refine X.lconst (y := 0) 46 i18_45 rfl rfl rfl ?_
            refine X.putL' 49 6 i18_46 rfl rfl (by decide) rfl rfl rfl (fun hrm521 m521 hm521 => ?_)
            have hJ522 := w19_6 hJ517 hm521 hrm521
            have wt523 : m521 g0 19 3 = a1 := Eq.trans (by rw [hm521]; exact z_upd_o _ _ rfl) wt518
            have wt524 : m521 g0 19 4 = a2 := Eq.trans (by rw [hm521]; exact z_upd_o _ _ rfl) wt519
            have wt525 : m521 g0 19 5 = 0 := Eq.trans (by rw [hm521]; exact z_upd_o _ _ rfl) wt520
            clear wt518 wt519 wt520
            refine X.aload_n 50 i18_49 rfl rfl rfl ?_
            refine X.getR 53 i18_50 rfl rfl (by decide) rfl rfl ?_
            refine X.lconst (y := 0) 54 i18_53 rfl rfl rfl ?_
            refine X.calls 57 [zr g0 22, zl 0] [] [(0, zr g0 22), (1, zl 0)] i18_54 (by decide) rfl rfl (by omega) rfl rfl t11 (Nat.le_of_ble_eq_true rfl) (Nat.le_of_ble_eq_true rfl) rfl ?_
            refine c11_1 (S := zfr [] S) (m0 := m521) (B := B) g0 0 (by omega) (hJ522.ow.up (by omega)) (by omega) (by omega) (fun m526 hJ527 => ?_)
            have hJ529 := hJ522.trans hJ527 zi_n
            have wt530 : m526 g0 19 3 = a1 := Eq.trans (hJ527.eq rfl rfl) wt523
            have wt531 : m526 g0 19 4 = a2 := Eq.trans (hJ527.eq rfl rfl) wt524
            have wt532 : m526 g0 19 5 = 0 := Eq.trans (hJ527.eq rfl rfl) wt525
            clear wt523 wt524 wt525
            show X (EE s) d 18 57 [(0, zr g0 19), (1, zi a1), (2, zi a2)] [] m526 _
            refine X.iconst 58 i18_57 rfl rfl (by decide) ?_
            refine X.retz i18_58 rfl t18 (by omega) ?_
            exact hQ 1 m526 (by first | trivial | omega) (hJ529.up (by omega)) (by first | exact (.inl ⟨by omega, by omega, by omega, by omega, by omega, by omega, by omega, by omega, by omega⟩) | exact (.inr ⟨by omega, by omega, by omega, by omega, by omega⟩))
          · refine X.cut [] i18_27 rfl ?_
            refine X.iconst 28 i18_27 rfl rfl (by decide) ?_
            refine X.retz i18_28 rfl t18 (by omega) ?_
            exact hQ 0 m (by first | trivial | omega) (hJ.up (by omega)) (by first | exact (.inl ⟨by omega, by omega, by omega, by omega, by omega, by omega, by omega, by omega, by omega⟩) | exact (.inr ⟨by omega, by omega, by omega, by omega, by omega⟩))
-- WorkMeter.phases
theorem c16_1 {s : Nat × (Nat → Int32)} {S : zS} {m0 m : zM} {B : Int} {d : Nat} {Q : Option zV → zM → Prop} (a1 a2 : Int) (hd : 15 ≤ d) (hJ : J S m0 B m) (hB : B + 0 ≤ 1000000000) (ha1 : (-2147483648) ≤ a1 ∧ a1 ≤ 2147483647) (ha2 : (-2147483648) ≤ a2 ∧ a2 ≤ 2147483647) (hs0 : S.1 0 19 3) (hs1 : S.1 0 19 4) (hs2 : S.1 0 19 5) (hQ : ∀ (v : Int) m', (0 ≤ v ∧ v ≤ 1) → J S m0 (B) m' → ((v = 1 ∧ m 0 39 0 = 0 ∧ 1 ≤ a1 ∧ a1 ≤ 3 ∧ 4 ≤ a2 ∧ a2 ≤ 16 ∧ a2 % 4 = 0 ∧ m' 0 19 3 = a1 ∧ m' 0 19 4 = a2 ∧ m' 0 19 5 = 0) ∨ (v = 0 ∧ ¬ (m 0 39 0 = 0 ∧ 1 ≤ a1 ∧ a1 ≤ 3 ∧ 4 ≤ a2 ∧ a2 ≤ 16 ∧ a2 % 4 = 0) ∧ m' 0 19 3 = m 0 19 3 ∧ m' 0 19 4 = m 0 19 4 ∧ m' 0 19 5 = m 0 19 5)) → Q (some (zi v)) m') : X (EE s) d 16 0 [(0, zr 4 40), (1, zi a1), (2, zi a2)] [] m Q := by
  refine X.aload_n 1 i16_0 rfl rfl rfl ?_
  refine X.getF 4 i16_1 rfl rfl (by decide) rfl rfl ?_
  refine X.getR 7 i16_4 rfl rfl (by decide) rfl rfl ?_
  refine X.callv 10 [] [] [(0, zr 0 39)] i16_7 rfl (by decide) rfl rfl (by omega) rfl rfl (by decide) rfl t17 (Nat.le_of_ble_eq_true rfl) (Nat.le_of_ble_eq_true rfl) rfl ?_
  refine X.aload_n 1 i17_0 rfl rfl rfl ?_
  refine X.getZ 4 0 i17_1 rfl rfl (by decide) rfl rfl rfl (fun h501 => ?_)
  refine X.ifeq 17 7 i17_4 rfl rfl rfl (fun h502 => ?_) (fun h502 => ?_)
  · refine X.aload_n 18 i17_17 rfl rfl rfl ?_
    refine X.getZ 21 0 i17_18 rfl rfl (by decide) rfl rfl rfl (fun h503 => ?_)
    refine X.retz i17_21 rfl t17 (by omega) ?_
    show X (EE s) d 16 10 [(0, zr 4 40), (1, zi a1), (2, zi a2)] [zi (m 0 39 0)] m _
    refine X.ifeq 15 13 i16_10 rfl rfl rfl (fun h504 => ?_) (fun h504 => ?_)
    · refine X.aload_n 16 i16_15 rfl rfl rfl ?_
      refine X.getF 19 i16_16 rfl rfl (by decide) rfl rfl ?_
      refine X.getR 22 i16_19 rfl rfl (by decide) rfl rfl ?_
      refine X.iload_n 23 i16_22 rfl rfl rfl ?_
      refine X.iload_n 24 i16_23 rfl rfl rfl ?_
      refine X.callv 27 [zi a1, zi a2] [] [(0, zr 0 19), (1, zi a1), (2, zi a2)] i16_24 rfl (by decide) rfl rfl (by omega) rfl rfl (by decide) rfl t18 (Nat.le_of_ble_eq_true rfl) (Nat.le_of_ble_eq_true rfl) rfl ?_
      refine c18_1 (S := zfr [(0, 19, 3), (0, 19, 4), (0, 19, 5)] S) (m0 := m) (B := B) 0 a1 a2 (by omega) (hJ.ow.up (by omega)) (by omega) (by omega) (by omega) zm_z (zm_s zm_z) (zm_s (zm_s zm_z)) (fun v507 m505 hv507 hJ506 hqv5070 => ?_)
      have hJ508 := hJ.trans hJ506 (zi_c hs0 (zi_c hs1 (zi_c hs2 zi_n)))
      have wt509 : m505 0 39 0 = (m 0 39 0) := hJ506.eq rfl rfl
      show X (EE s) d 16 27 [(0, zr 4 40), (1, zi a1), (2, zi a2)] [zi v507] m505 _
      refine X.retz i16_27 rfl t16 (by omega) ?_
      exact hQ v507 m505 (by first | trivial | omega) (hJ508.up (by omega)) (by rcases hqv5070 with hqv5070 | hqv5070 <;> (first | exact (.inl ⟨by omega, by omega, by omega, by omega, by omega, by omega, by omega, by omega, by omega, by omega⟩) | exact (.inr ⟨by omega, by omega, by omega, by omega, by omega⟩)))
    · refine X.iconst 14 i16_13 rfl rfl (by decide) ?_
      refine X.retz i16_14 rfl t16 (by omega) ?_
      exact hQ 0 m (by first | trivial | omega) (hJ.up (by omega)) (by first | exact (.inl ⟨by omega, by omega, by omega, by omega, by omega, by omega, by omega, by omega, by omega, by omega⟩) | exact (.inr ⟨by omega, by omega, by omega, by omega, by omega⟩))
  · refine X.aload_n 8 i17_7 rfl rfl rfl ?_
    refine X.dup 9 i17_8 rfl rfl rfl ?_
    refine X.getIr 12 3 i17_9 rfl rfl (by decide) rfl rfl rfl (fun h510 => ?_)
    refine X.iconst 13 i17_12 rfl rfl (by decide) ?_
    refine X.iiF 14 .iadd (fun x y => x + y) i17_13 rfl rfl rfl (fun _ _ => rfl) (fun z511 hz511 => ?_)
    refine X.putI' 17 3 i17_14 rfl rfl (by decide) rfl rfl rfl (fun hrm512 m512 hm512 => ?_)
    have hJ513 := w39_3 hJ hm512 hrm512
    have wt514 : m512 0 19 3 = (m 0 19 3) := by rw [hm512]; exact z_upd_o _ _ rfl
    have wt515 : m512 0 19 4 = (m 0 19 4) := by rw [hm512]; exact z_upd_o _ _ rfl
    have wt516 : m512 0 19 5 = (m 0 19 5) := by rw [hm512]; exact z_upd_o _ _ rfl
    have wt517 : m512 0 39 0 = (m 0 39 0) := by rw [hm512]; exact z_upd_o _ _ rfl
    refine X.aload_n 18 i17_17 rfl rfl rfl ?_
    refine X.getZ 21 0 i17_18 rfl rfl (by decide) rfl rfl rfl (fun h518 => ?_)
    refine X.retz i17_21 rfl t17 (by omega) ?_
    show X (EE s) d 16 10 [(0, zr 4 40), (1, zi a1), (2, zi a2)] [zi (m512 0 39 0)] m512 _
    refine X.ifeq 15 13 i16_10 rfl rfl rfl (fun h519 => ?_) (fun h519 => ?_)
    · refine X.aload_n 16 i16_15 rfl rfl rfl ?_
      refine X.getF 19 i16_16 rfl rfl (by decide) rfl rfl ?_
      refine X.getR 22 i16_19 rfl rfl (by decide) rfl rfl ?_
      refine X.iload_n 23 i16_22 rfl rfl rfl ?_
      refine X.iload_n 24 i16_23 rfl rfl rfl ?_
      refine X.callv 27 [zi a1, zi a2] [] [(0, zr 0 19), (1, zi a1), (2, zi a2)] i16_24 rfl (by decide) rfl rfl (by omega) rfl rfl (by decide) rfl t18 (Nat.le_of_ble_eq_true rfl) (Nat.le_of_ble_eq_true rfl) rfl ?_
      refine c18_1 (S := zfr [(0, 19, 3), (0, 19, 4), (0, 19, 5)] S) (m0 := m512) (B := B) 0 a1 a2 (by omega) (hJ513.ow.up (by omega)) (by omega) (by omega) (by omega) zm_z (zm_s zm_z) (zm_s (zm_s zm_z)) (fun v522 m520 hv522 hJ521 hqv5220 => ?_)
      have hJ523 := hJ513.trans hJ521 (zi_c hs0 (zi_c hs1 (zi_c hs2 zi_n)))
      have wt524 : m520 0 39 0 = (m 0 39 0) := Eq.trans (hJ521.eq rfl rfl) wt517
      show X (EE s) d 16 27 [(0, zr 4 40), (1, zi a1), (2, zi a2)] [zi v522] m520 _
      refine X.retz i16_27 rfl t16 (by omega) ?_
      exact hQ v522 m520 (by first | trivial | omega) (hJ523.up (by omega)) (by rcases hqv5220 with hqv5220 | hqv5220 <;> (first | exact (.inl ⟨by omega, by omega, by omega, by omega, by omega, by omega, by omega, by omega, by omega, by omega⟩) | exact (.inr ⟨by omega, by omega, by omega, by omega, by omega⟩)))
    · refine X.iconst 14 i16_13 rfl rfl (by decide) ?_
      refine X.retz i16_14 rfl t16 (by omega) ?_
      exact hQ 0 m512 (by first | trivial | omega) (hJ513.up (by omega)) (by first | exact (.inl ⟨by omega, by omega, by omega, by omega, by omega, by omega, by omega, by omega, by omega, by omega⟩) | exact (.inr ⟨by omega, by omega, by omega, by omega, by omega⟩))
theorem l202_67_1 {s : Nat × (Nat → Int32)} {S : zS} {m0 : zM} {d : Nat} {Q : Option zV → zM → Prop} (BE : Int) (hE : BE ≤ 1000000000) (hd : 13 ≤ d)
    (K87 : ∀ (m' : zM) (B' : Int), J S m0 B' m' → B' ≤ BE → X (EE s) d 202 87 [] [] m' Q) :
    ∀ (n : Nat) (y3 : Int) (m : zM) (B : Int), J S m0 B m → B + 0 * (n : Int) ≤ BE → (95 ≤ y3 ∧ y3 ≤ 191) → 191 - y3 < (n : Int) → X (EE s) d 202 67 [(0, zr 4 44), (3, zi y3)] [] m Q := by
  intro n
  induction n with
  | zero =>
    intro y3 m B hJ hB  hy3 hn
    exfalso
    omega
  | succ n ih =>
    intro y3 m B hJ hB  hy3 hn
    refine X.iload_n 68 i202_67 rfl rfl rfl ?_
    refine X.sipush 71 i202_68 rfl rfl (by decide) ?_
    refine X.icmpge 87 74 i202_71 rfl rfl rfl (fun h508 => ?_) (fun h508 => ?_)
    · refine X.cut [] i202_87 rfl ?_
      exact K87  m (B) (hJ.up (by omega)) (by omega)  
    · refine X.aload_n 75 i202_74 rfl rfl rfl ?_
      refine X.getF 78 i202_75 rfl rfl (by decide) rfl rfl ?_
      refine X.iload_n 79 i202_78 rfl rfl rfl ?_
      refine X.lconst (y := 0) 80 i202_79 rfl rfl rfl ?_
      refine X.last' 81 i202_80 rfl rfl (by decide) rfl (by omega) (fun hrm509 m509 hm509 => ?_)
      have hJ510 := w45_19 hJ hm509 (by omega) hrm509
      have wt511 : m509 4 45 1 = (m 4 45 1) := by rw [hm509]; exact z_upd_i _ _ _ _ (by omega)
      have wt512 : m509 4 45 2 = (m 4 45 2) := by rw [hm509]; exact z_upd_i _ _ _ _ (by omega)
      have wt513 : m509 4 45 3 = (m 4 45 3) := by rw [hm509]; exact z_upd_i _ _ _ _ (by omega)
      have wt514 : m509 4 45 1614 = (m 4 45 1614) := by rw [hm509]; exact z_upd_i _ _ _ _ (by omega)
      refine X.iinc 84 [(0, zr 4 44), (3, zi (y3 + 1))] i202_81 rfl rfl rfl (by omega) rfl ?_
      refine X.goto 67 i202_84 rfl rfl ?_
      exact ih (y3 + 1) m509 (B) (hJ510.up (by omega)) (by omega)  (by omega) (by omega)
-- WorkMeterModel.phases
theorem c202_1 {s : Nat × (Nat → Int32)} {S : zS} {m0 m : zM} {B : Int} {d : Nat} {Q : Option zV → zM → Prop} (a1 a2 : Int) (hd : 13 ≤ d) (hJ : J S m0 B m) (hB : B + 0 ≤ 1000000000) (ha1 : (-2147483648) ≤ a1 ∧ a1 ≤ 2147483647) (ha2 : (-2147483648) ≤ a2 ∧ a2 ≤ 2147483647) (hs0 : S.1 4 45 1) (hs1 : S.1 4 45 2) (hs2 : S.1 4 45 3) (hQ : ∀ (v : Int) m', (0 ≤ v ∧ v ≤ 1) → J S m0 (B) m' → ((v = 1 ∧ m 4 45 1614 = 0 ∧ 1 ≤ a1 ∧ a1 ≤ 3 ∧ 4 ≤ a2 ∧ a2 ≤ 16 ∧ a2 % 4 = 0 ∧ m' 4 45 1 = a1 ∧ m' 4 45 2 = a2 ∧ m' 4 45 3 = 0) ∨ (v = 0 ∧ ¬ (m 4 45 1614 = 0 ∧ 1 ≤ a1 ∧ a1 ≤ 3 ∧ 4 ≤ a2 ∧ a2 ≤ 16 ∧ a2 % 4 = 0) ∧ m' 4 45 1 = m 4 45 1 ∧ m' 4 45 2 = m 4 45 2 ∧ m' 4 45 3 = m 4 45 3)) → Q (some (zi v)) m') : X (EE s) d 202 0 [(0, zr 4 44), (1, zi a1), (2, zi a2)] [] m Q := by
  refine X.aload_n 1 i202_0 rfl rfl rfl ?_
  refine X.callv 4 [] [] [(0, zr 4 44)] i202_1 rfl (by decide) rfl rfl (by omega) rfl rfl (by decide) rfl t203 (Nat.le_of_ble_eq_true rfl) (Nat.le_of_ble_eq_true rfl) rfl ?_
  refine X.aload_n 1 i203_0 rfl rfl rfl ?_
  refine X.getF 4 i203_1 rfl rfl (by decide) rfl rfl ?_
  refine X.sipush 7 i203_4 rfl rfl (by decide) ?_
  refine X.dup2 8 i203_7 rfl rfl ?_
  refine X.lald 9 i203_8 rfl rfl (by decide) rfl (by omega) ?_
  refine X.aload_n 10 i203_9 rfl rfl rfl ?_
  refine X.getF 13 i203_10 rfl rfl (by decide) rfl rfl ?_
  refine X.sipush 16 i203_13 rfl rfl (by decide) ?_
  refine X.lald 17 i203_16 rfl rfl (by decide) rfl (by omega) ?_
  have h501 := r45_1614 hJ 4
  refine X.llF 18 .ladd (fun x y => x + y) i203_17 rfl rfl rfl (fun _ _ => rfl) (fun z502 hz502 => ?_)
  refine X.last' 19 i203_18 rfl rfl (by decide) rfl (by omega) (fun hrm503 m503 hm503 => ?_)
  have hJ504 := w45_1618 hJ hm503 hrm503
  have wt505 : m503 4 45 1 = (m 4 45 1) := by rw [hm503]; exact z_upd_o _ _ rfl
  have wt506 : m503 4 45 2 = (m 4 45 2) := by rw [hm503]; exact z_upd_o _ _ rfl
  have wt507 : m503 4 45 3 = (m 4 45 3) := by rw [hm503]; exact z_upd_o _ _ rfl
  have wt508 : m503 4 45 1614 = (m 4 45 1614) := by rw [hm503]; exact z_upd_o _ _ rfl
  refine X.aload_n 20 i203_19 rfl rfl rfl ?_
  refine X.getF 23 i203_20 rfl rfl (by decide) rfl rfl ?_
  refine X.sipush 26 i203_23 rfl rfl (by decide) ?_
  refine X.lald 27 i203_26 rfl rfl (by decide) rfl (by omega) ?_
  have h509 := r45_1614 hJ504 4
  refine X.lconst (y := 1) 28 i203_27 rfl rfl rfl ?_
  refine X.lcmp 29 i203_28 rfl rfl (fun z510 hz510 => ?_)
  refine X.ifne 36 32 i203_29 rfl rfl rfl (fun h511 => ?_) (fun h511 => ?_)
  · have h511c : (m503 4 45 1614) ≠ 1 := by omega
    clear h511 hz510
    refine X.cut [] i203_36 rfl ?_
    refine X.iconst 37 i203_36 rfl rfl (by decide) ?_
    refine X.retz i203_37 rfl t203 (by omega) ?_
    show X (EE s) d 202 4 [(0, zr 4 44), (1, zi a1), (2, zi a2)] [zi 0] m503 _
    refine X.ifne 39 7 i202_4 rfl rfl rfl (fun h512 => (by exfalso; omega)) (fun h512 => ?_)
    refine X.iload_n 8 i202_7 rfl rfl rfl ?_
    refine X.i2l 9 i202_8 rfl rfl ?_
    refine X.lconst (y := 1) 10 i202_9 rfl rfl rfl ?_
    refine X.ldc2 13 i202_10 rfl rfl (by decide) ?_
    refine X.calls 16 [zl a1, zl 1, zl 3] [] [(0, zl a1), (2, zl 1), (4, zl 3)] i202_13 (by decide) rfl rfl (by omega) rfl rfl t204 (Nat.le_of_ble_eq_true rfl) (Nat.le_of_ble_eq_true rfl) rfl ?_
    refine X.lload_n 1 i204_0 rfl rfl rfl ?_
    refine X.lload_n 2 i204_1 rfl rfl rfl ?_
    refine X.lcmp 3 i204_2 rfl rfl (fun z513 hz513 => ?_)
    refine X.iflt 17 6 i204_3 rfl rfl rfl (fun h514 => ?_) (fun h514 => ?_)
    · have h514c : a1 < 1 := by omega
      clear h514 hz513
      refine X.cut [] i204_17 rfl ?_
      refine X.iconst 18 i204_17 rfl rfl (by decide) ?_
      refine X.retz i204_18 rfl t204 (by omega) ?_
      show X (EE s) d 202 16 [(0, zr 4 44), (1, zi a1), (2, zi a2)] [zi 0] m503 _
      refine X.ifeq 39 19 i202_16 rfl rfl rfl (fun h515 => ?_) (fun h515 => (by exfalso; omega))
      refine X.cut [] i202_39 rfl ?_
      refine X.iconst 40 i202_39 rfl rfl (by decide) ?_
      refine X.retz i202_40 rfl t202 (by omega) ?_
      exact hQ 0 m503 (by first | trivial | omega) (hJ504.up (by omega)) (by first | exact (.inl ⟨by omega, by omega, by omega, by omega, by omega, by omega, by omega, by omega, by omega, by omega⟩) | exact (.inr ⟨by omega, by omega, by omega, by omega, by omega⟩))
    · have h514c : a1 ≥ 1 := by omega
      clear h514 hz513
      refine X.lload_n 7 i204_6 rfl rfl rfl ?_
      refine X.lload 9 i204_7 rfl rfl rfl ?_
      refine X.lcmp 10 i204_9 rfl rfl (fun z516 hz516 => ?_)
      refine X.ifgt 17 13 i204_10 rfl rfl rfl (fun h517 => ?_) (fun h517 => ?_)
      · have h517c : a1 > 3 := by omega
        clear h517 hz516
        refine X.cut [] i204_17 rfl ?_
        refine X.iconst 18 i204_17 rfl rfl (by decide) ?_
        refine X.retz i204_18 rfl t204 (by omega) ?_
        show X (EE s) d 202 16 [(0, zr 4 44), (1, zi a1), (2, zi a2)] [zi 0] m503 _
        refine X.ifeq 39 19 i202_16 rfl rfl rfl (fun h518 => ?_) (fun h518 => (by exfalso; omega))
        refine X.cut [] i202_39 rfl ?_
        refine X.iconst 40 i202_39 rfl rfl (by decide) ?_
        refine X.retz i202_40 rfl t202 (by omega) ?_
        exact hQ 0 m503 (by first | trivial | omega) (hJ504.up (by omega)) (by first | exact (.inl ⟨by omega, by omega, by omega, by omega, by omega, by omega, by omega, by omega, by omega, by omega⟩) | exact (.inr ⟨by omega, by omega, by omega, by omega, by omega⟩))
      · have h517c : a1 ≤ 3 := by omega
        clear h517 hz516
        refine X.iconst 14 i204_13 rfl rfl (by decide) ?_
        refine X.goto 18 i204_14 rfl rfl ?_
        refine X.cut [] i204_18 rfl ?_
        refine X.retz i204_18 rfl t204 (by omega) ?_
        show X (EE s) d 202 16 [(0, zr 4 44), (1, zi a1), (2, zi a2)] [zi 1] m503 _
        refine X.ifeq 39 19 i202_16 rfl rfl rfl (fun h519 => (by exfalso; omega)) (fun h519 => ?_)
        refine X.iload_n 20 i202_19 rfl rfl rfl ?_
        refine X.i2l 21 i202_20 rfl rfl ?_
        refine X.ldc2 24 i202_21 rfl rfl (by decide) ?_
        refine X.ldc2 27 i202_24 rfl rfl (by decide) ?_
        refine X.calls 30 [zl a2, zl 4, zl 16] [] [(0, zl a2), (2, zl 4), (4, zl 16)] i202_27 (by decide) rfl rfl (by omega) rfl rfl t204 (Nat.le_of_ble_eq_true rfl) (Nat.le_of_ble_eq_true rfl) rfl ?_
        refine X.lload_n 1 i204_0 rfl rfl rfl ?_
        refine X.lload_n 2 i204_1 rfl rfl rfl ?_
        refine X.lcmp 3 i204_2 rfl rfl (fun z520 hz520 => ?_)
        refine X.iflt 17 6 i204_3 rfl rfl rfl (fun h521 => ?_) (fun h521 => ?_)
        · have h521c : a2 < 4 := by omega
          clear h521 hz520
          refine X.cut [] i204_17 rfl ?_
          refine X.iconst 18 i204_17 rfl rfl (by decide) ?_
          refine X.retz i204_18 rfl t204 (by omega) ?_
          show X (EE s) d 202 30 [(0, zr 4 44), (1, zi a1), (2, zi a2)] [zi 0] m503 _
          refine X.ifeq 39 33 i202_30 rfl rfl rfl (fun h522 => ?_) (fun h522 => (by exfalso; omega))
          refine X.cut [] i202_39 rfl ?_
          refine X.iconst 40 i202_39 rfl rfl (by decide) ?_
          refine X.retz i202_40 rfl t202 (by omega) ?_
          exact hQ 0 m503 (by first | trivial | omega) (hJ504.up (by omega)) (by first | exact (.inl ⟨by omega, by omega, by omega, by omega, by omega, by omega, by omega, by omega, by omega, by omega⟩) | exact (.inr ⟨by omega, by omega, by omega, by omega, by omega⟩))
        · have h521c : a2 ≥ 4 := by omega
          clear h521 hz520
          refine X.lload_n 7 i204_6 rfl rfl rfl ?_
          refine X.lload 9 i204_7 rfl rfl rfl ?_
          refine X.lcmp 10 i204_9 rfl rfl (fun z523 hz523 => ?_)
          refine X.ifgt 17 13 i204_10 rfl rfl rfl (fun h524 => ?_) (fun h524 => ?_)
          · have h524c : a2 > 16 := by omega
            clear h524 hz523
            refine X.cut [] i204_17 rfl ?_
            refine X.iconst 18 i204_17 rfl rfl (by decide) ?_
            refine X.retz i204_18 rfl t204 (by omega) ?_
            show X (EE s) d 202 30 [(0, zr 4 44), (1, zi a1), (2, zi a2)] [zi 0] m503 _
            refine X.ifeq 39 33 i202_30 rfl rfl rfl (fun h525 => ?_) (fun h525 => (by exfalso; omega))
            refine X.cut [] i202_39 rfl ?_
            refine X.iconst 40 i202_39 rfl rfl (by decide) ?_
            refine X.retz i202_40 rfl t202 (by omega) ?_
            exact hQ 0 m503 (by first | trivial | omega) (hJ504.up (by omega)) (by first | exact (.inl ⟨by omega, by omega, by omega, by omega, by omega, by omega, by omega, by omega, by omega, by omega⟩) | exact (.inr ⟨by omega, by omega, by omega, by omega, by omega⟩))
          · have h524c : a2 ≤ 16 := by omega
            clear h524 hz523
            refine X.iconst 14 i204_13 rfl rfl (by decide) ?_
            refine X.goto 18 i204_14 rfl rfl ?_
            refine X.cut [] i204_18 rfl ?_
            refine X.retz i204_18 rfl t204 (by omega) ?_
            show X (EE s) d 202 30 [(0, zr 4 44), (1, zi a1), (2, zi a2)] [zi 1] m503 _
            refine X.ifeq 39 33 i202_30 rfl rfl rfl (fun h526 => (by exfalso; omega)) (fun h526 => ?_)
            refine X.iload_n 34 i202_33 rfl rfl rfl ?_
            refine X.iconst 35 i202_34 rfl rfl (by decide) ?_
            refine X.irem 36 i202_35 rfl rfl (by omega) ?_
            refine X.ifeq 41 39 i202_36 rfl rfl rfl (fun h527 => ?_) (fun h527 => ?_)
            · refine X.aload_n 42 i202_41 rfl rfl rfl ?_
              refine X.getF 45 i202_42 rfl rfl (by decide) rfl rfl ?_
              refine X.iconst 46 i202_45 rfl rfl (by decide) ?_
              refine X.iload_n 47 i202_46 rfl rfl rfl ?_
              refine X.i2l 48 i202_47 rfl rfl ?_
              refine X.last' 49 i202_48 rfl rfl (by decide) rfl (by omega) (fun hrm528 m528 hm528 => ?_)
              have hJ529 := w45_1 hJ504 hm528 (by omega) hs0
              have wt530 : m528 4 45 1 = a1 := by rw [hm528]; exact z_upd_same _ _ _ _ _
              have wt531 : m528 4 45 2 = (m 4 45 2) := Eq.trans (by rw [hm528]; exact z_upd_o _ _ rfl) wt506
              have wt532 : m528 4 45 3 = (m 4 45 3) := Eq.trans (by rw [hm528]; exact z_upd_o _ _ rfl) wt507
              have wt533 : m528 4 45 1614 = (m 4 45 1614) := Eq.trans (by rw [hm528]; exact z_upd_o _ _ rfl) wt508
              clear wt505 wt506 wt507
              refine X.aload_n 50 i202_49 rfl rfl rfl ?_
              refine X.getF 53 i202_50 rfl rfl (by decide) rfl rfl ?_
              refine X.iconst 54 i202_53 rfl rfl (by decide) ?_
              refine X.iload_n 55 i202_54 rfl rfl rfl ?_
              refine X.i2l 56 i202_55 rfl rfl ?_
              refine X.last' 57 i202_56 rfl rfl (by decide) rfl (by omega) (fun hrm534 m534 hm534 => ?_)
              have hJ535 := w45_2 hJ529 hm534 (by omega) hs1
              have wt536 : m534 4 45 1 = a1 := Eq.trans (by rw [hm534]; exact z_upd_o _ _ rfl) wt530
              have wt537 : m534 4 45 2 = a2 := by rw [hm534]; exact z_upd_same _ _ _ _ _
              have wt538 : m534 4 45 3 = (m 4 45 3) := Eq.trans (by rw [hm534]; exact z_upd_o _ _ rfl) wt532
              have wt539 : m534 4 45 1614 = (m 4 45 1614) := Eq.trans (by rw [hm534]; exact z_upd_o _ _ rfl) wt533
              clear wt530 wt531 wt532 wt533
              refine X.aload_n 58 i202_57 rfl rfl rfl ?_
              refine X.getF 61 i202_58 rfl rfl (by decide) rfl rfl ?_
              refine X.iconst 62 i202_61 rfl rfl (by decide) ?_
              refine X.lconst (y := 0) 63 i202_62 rfl rfl rfl ?_
              refine X.last' 64 i202_63 rfl rfl (by decide) rfl (by omega) (fun hrm540 m540 hm540 => ?_)
              have hJ541 := w45_3 hJ535 hm540 (by omega) hs2
              have wt542 : m540 4 45 1 = a1 := Eq.trans (by rw [hm540]; exact z_upd_o _ _ rfl) wt536
              have wt543 : m540 4 45 2 = a2 := Eq.trans (by rw [hm540]; exact z_upd_o _ _ rfl) wt537
              have wt544 : m540 4 45 3 = 0 := by rw [hm540]; exact z_upd_same _ _ _ _ _
              have wt545 : m540 4 45 1614 = (m 4 45 1614) := Eq.trans (by rw [hm540]; exact z_upd_o _ _ rfl) wt539
              clear wt536 wt537 wt538 wt539
              refine X.bipush 66 i202_64 rfl rfl (by decide) ?_
              refine X.istore_n 67 [(0, zr 4 44), (1, zi a1), (2, zi a2), (3, zi 95)] i202_66 rfl rfl rfl ?_
              refine X.cut [(0, zr 4 44), (3, zi 95)] i202_67 rfl ?_
              refine l202_67_1 (s := s) (S := (zfr [] S)) (m0 := m540) (d := d)   (BE := B + 0) (by omega) (by omega) (fun  m546 B547 hJ548 hBB547 => ?_) ((191 - 95 : Int).toNat + 1) 95 m540 (B) (hJ541.ow.up (by omega)) (by omega)  (by omega) (by omega)
              have hJ549 := hJ541.trans hJ548 zi_n
              have wt550 : m546 4 45 1 = a1 := Eq.trans (hJ548.eq rfl rfl) wt542
              have wt551 : m546 4 45 2 = a2 := Eq.trans (hJ548.eq rfl rfl) wt543
              have wt552 : m546 4 45 3 = 0 := Eq.trans (hJ548.eq rfl rfl) wt544
              have wt553 : m546 4 45 1614 = (m 4 45 1614) := Eq.trans (hJ548.eq rfl rfl) wt545
              refine X.iconst 88 i202_87 rfl rfl (by decide) ?_
              refine X.retz i202_88 rfl t202 (by omega) ?_
              exact hQ 1 m546 (by first | trivial | omega) (hJ549.up (by omega)) (by first | exact (.inl ⟨by omega, by omega, by omega, by omega, by omega, by omega, by omega, by omega, by omega, by omega⟩) | exact (.inr ⟨by omega, by omega, by omega, by omega, by omega⟩))
            · refine X.cut [] i202_39 rfl ?_
              refine X.iconst 40 i202_39 rfl rfl (by decide) ?_
              refine X.retz i202_40 rfl t202 (by omega) ?_
              exact hQ 0 m503 (by first | trivial | omega) (hJ504.up (by omega)) (by first | exact (.inl ⟨by omega, by omega, by omega, by omega, by omega, by omega, by omega, by omega, by omega, by omega⟩) | exact (.inr ⟨by omega, by omega, by omega, by omega, by omega⟩))
  · have h511c : (m503 4 45 1614) = 1 := by omega
    clear h511 hz510
    refine X.iconst 33 i203_32 rfl rfl (by decide) ?_
    refine X.goto 37 i203_33 rfl rfl ?_
    refine X.cut [] i203_37 rfl ?_
    refine X.retz i203_37 rfl t203 (by omega) ?_
    show X (EE s) d 202 4 [(0, zr 4 44), (1, zi a1), (2, zi a2)] [zi 1] m503 _
    refine X.ifne 39 7 i202_4 rfl rfl rfl (fun h554 => ?_) (fun h554 => (by exfalso; omega))
    refine X.cut [] i202_39 rfl ?_
    refine X.iconst 40 i202_39 rfl rfl (by decide) ?_
    refine X.retz i202_40 rfl t202 (by omega) ?_
    exact hQ 0 m503 (by first | trivial | omega) (hJ504.up (by omega)) (by first | exact (.inl ⟨by omega, by omega, by omega, by omega, by omega, by omega, by omega, by omega, by omega, by omega⟩) | exact (.inr ⟨by omega, by omega, by omega, by omega, by omega⟩))
theorem l21_37_1 {s : Nat × (Nat → Int32)} {S : zS} {m0 : zM} {d : Nat} {Q : Option zV → zM → Prop} (g0 : Nat) (y1 y2 y3 : Int) (BE : Int) (hE : BE ≤ 1000000000) (hd : 13 ≤ d) (hy1 : 1 ≤ y1 ∧ y1 ≤ 4) (hy2 : 0 ≤ y2 ∧ y2 ≤ 15) (hy3 : 0 ≤ y3 ∧ y3 ≤ 15)
    (K158 : ∀ (m' : zM) (B' : Int), J S m0 B' m' → B' ≤ BE → X (EE s) d 21 158 [(0, zr g0 19), (1, zi y1), (2, zi y2)] [] m' Q) :
    ∀ (n : Nat) (y4 : Int) (m : zM) (B : Int), J S m0 B m → B + 0 * (n : Int) ≤ BE → (0 ≤ y4 ∧ y4 ≤ 3) → 3 - y4 < (n : Int) → X (EE s) d 21 37 [(0, zr g0 19), (1, zi y1), (2, zi y2), (3, zi y3), (4, zi y4)] [] m Q := by
  intro n
  induction n with
  | zero =>
    intro y4 m B hJ hB  hy4 hn
    exfalso
    omega
  | succ n ih =>
    intro y4 m B hJ hB  hy4 hn
    refine X.iload 39 i21_37 rfl rfl rfl ?_
    refine X.aload_n 40 i21_39 rfl rfl rfl ?_
    refine X.getI 43 3 i21_40 rfl rfl (by decide) rfl rfl rfl ?_
    have h541 := r19_3 hJ g0
    refine X.icmpge 158 46 i21_43 rfl rfl rfl (fun h542 => ?_) (fun h542 => ?_)
    · refine X.cut [(0, zr g0 19), (1, zi y1), (2, zi y2)] i21_158 rfl ?_
      exact K158  m (B) (hJ.up (by omega)) (by omega)  
    · refine X.iload_n 47 i21_46 rfl rfl rfl ?_
      refine X.aload_n 48 i21_47 rfl rfl rfl ?_
      refine X.getI 51 3 i21_48 rfl rfl (by decide) rfl rfl rfl ?_
      have hz543 := z_mulr (a := 0) (b := 15) (c := 1) (e := 3) (x := y2) (y := (m g0 19 3)) (by omega) (by omega)
      refine X.imul 52 i21_51 rfl rfl (z_in3 hz543 (by decide) (by decide)) ?_
      obtain ⟨z543, ez543⟩ : ∃ z, z = (y2 * (m g0 19 3)) := ⟨_, rfl⟩
      rw [← ez543] at hz543 ⊢
      have gz543 : 0 ≤ z543 ∧ z543 ≤ 45 := z_in3 hz543 (by decide) (by decide)
      clear hz543
      refine X.iload 54 i21_52 rfl rfl rfl ?_
      refine X.iadd 55 i21_54 rfl rfl (by omega) ?_
      refine X.istore 57 [(0, zr g0 19), (1, zi y1), (2, zi y2), (3, zi y3), (4, zi y4), (5, zi (z543 + y4))] i21_55 rfl rfl rfl ?_
      refine X.aload_n 58 i21_57 rfl rfl rfl ?_
      refine X.iconst 59 i21_58 rfl rfl (by decide) ?_
      refine X.iload 61 i21_59 rfl rfl rfl ?_
      refine X.aload_n 62 i21_61 rfl rfl rfl ?_
      refine X.getR 65 i21_62 rfl rfl (by decide) rfl rfl ?_
      refine X.iload 67 i21_65 rfl rfl rfl ?_
      refine X.iald 68 i21_67 rfl rfl (by decide) rfl (by omega) ?_
      have h544 := r20_0 hJ g0 (i := (z543 + y4)) (by omega)
      refine X.aload_n 69 i21_68 rfl rfl rfl ?_
      refine X.getR 72 i21_69 rfl rfl (by decide) rfl rfl ?_
      refine X.iload 74 i21_72 rfl rfl rfl ?_
      refine X.iald 75 i21_74 rfl rfl (by decide) rfl (by omega) ?_
      have h545 := r21_0 hJ g0 (i := (z543 + y4)) (by omega)
      have hz546 := z_mulr (a := (-500)) (b := 500) (c := (-500)) (e := 500) (x := (m g0 20 (z543 + y4))) (y := (m g0 21 (z543 + y4))) (by omega) (by omega)
      refine X.imul 76 i21_75 rfl rfl (z_in3 hz546 (by decide) (by decide)) ?_
      obtain ⟨z546, ez546⟩ : ∃ z, z = ((m g0 20 (z543 + y4)) * (m g0 21 (z543 + y4))) := ⟨_, rfl⟩
      rw [← ez546] at hz546 ⊢
      have gz546 : (-250000) ≤ z546 ∧ z546 ≤ 250000 := z_in3 hz546 (by decide) (by decide)
      clear hz546
      refine X.callv 79 [zi 0, zi y4, zi z546] [] [(0, zr g0 19), (1, zi 0), (2, zi y4), (3, zi z546)] i21_76 rfl (by decide) rfl rfl (by omega) rfl rfl (by decide) rfl t22 (Nat.le_of_ble_eq_true rfl) (Nat.le_of_ble_eq_true rfl) rfl ?_
      refine X.aload_n 1 i22_0 rfl rfl rfl ?_
      refine X.getR 4 i22_1 rfl rfl (by decide) rfl rfl ?_
      refine X.iload_n 5 i22_4 rfl rfl rfl ?_
      refine X.iconst 6 i22_5 rfl rfl (by decide) ?_
      refine X.imul 7 i22_6 rfl rfl (by omega) ?_
      refine X.iload_n 8 i22_7 rfl rfl rfl ?_
      refine X.iadd 9 i22_8 rfl rfl (by omega) ?_
      refine X.dup2 10 i22_9 rfl rfl ?_
      refine X.lald 11 i22_10 rfl rfl (by decide) rfl (by omega) ?_
      refine X.iload_n 12 i22_11 rfl rfl rfl ?_
      refine X.i2l 13 i22_12 rfl rfl ?_
      refine X.llF 14 .ladd (fun x y => x + y) i22_13 rfl rfl rfl (fun _ _ => rfl) (fun z547 hz547 => ?_)
      refine X.last' 15 i22_14 rfl rfl (by decide) rfl (by omega) (fun hrm548 m548 hm548 => ?_)
      have hJ549 := w22_0 hJ hm548 (by omega) hrm548
      refine X.aload_n 16 i22_15 rfl rfl rfl ?_
      refine X.getR 19 i22_16 rfl rfl (by decide) rfl rfl ?_
      refine X.iload_n 20 i22_19 rfl rfl rfl ?_
      refine X.iconst 21 i22_20 rfl rfl (by decide) ?_
      refine X.imul 22 i22_21 rfl rfl (by omega) ?_
      refine X.iconst 23 i22_22 rfl rfl (by decide) ?_
      refine X.iadd 24 i22_23 rfl rfl (by omega) ?_
      refine X.dup2 25 i22_24 rfl rfl ?_
      refine X.lald 26 i22_25 rfl rfl (by decide) rfl (by omega) ?_
      refine X.iload_n 27 i22_26 rfl rfl rfl ?_
      refine X.i2l 28 i22_27 rfl rfl ?_
      refine X.llF 29 .ladd (fun x y => x + y) i22_28 rfl rfl rfl (fun _ _ => rfl) (fun z550 hz550 => ?_)
      refine X.last' 30 i22_29 rfl rfl (by decide) rfl (by omega) (fun hrm551 m551 hm551 => ?_)
      have hJ552 := w22_0 hJ549 hm551 (by omega) hrm551
      refine X.retv i22_30 rfl t22 ?_
      show X (EE s) d 21 79 [(0, zr g0 19), (1, zi y1), (2, zi y2), (3, zi y3), (4, zi y4), (5, zi (z543 + y4))] [] m551 _
      refine X.aload_n 80 i21_79 rfl rfl rfl ?_
      refine X.iconst 81 i21_80 rfl rfl (by decide) ?_
      refine X.iload 83 i21_81 rfl rfl rfl ?_
      refine X.aload_n 84 i21_83 rfl rfl rfl ?_
      refine X.getR 87 i21_84 rfl rfl (by decide) rfl rfl ?_
      refine X.iload 89 i21_87 rfl rfl rfl ?_
      refine X.iald 90 i21_89 rfl rfl (by decide) rfl (by omega) ?_
      have h553 := r20_0 hJ552 g0 (i := (z543 + y4)) (by omega)
      refine X.aload_n 91 i21_90 rfl rfl rfl ?_
      refine X.getR 94 i21_91 rfl rfl (by decide) rfl rfl ?_
      refine X.iload_n 95 i21_94 rfl rfl rfl ?_
      refine X.aload_n 96 i21_95 rfl rfl rfl ?_
      refine X.getI 99 3 i21_96 rfl rfl (by decide) rfl rfl rfl ?_
      have h554 := r19_3 hJ552 g0
      have hz555 := z_mulr (a := 0) (b := 15) (c := 1) (e := 3) (x := y3) (y := (m551 g0 19 3)) (by omega) (by omega)
      refine X.imul 100 i21_99 rfl rfl (z_in3 hz555 (by decide) (by decide)) ?_
      obtain ⟨z555, ez555⟩ : ∃ z, z = (y3 * (m551 g0 19 3)) := ⟨_, rfl⟩
      rw [← ez555] at hz555 ⊢
      have gz555 : 0 ≤ z555 ∧ z555 ≤ 45 := z_in3 hz555 (by decide) (by decide)
      clear hz555
      refine X.iload 102 i21_100 rfl rfl rfl ?_
      refine X.iadd 103 i21_102 rfl rfl (by omega) ?_
      refine X.iald 104 i21_103 rfl rfl (by decide) rfl (by omega) ?_
      have h556 := r21_0 hJ552 g0 (i := (z555 + y4)) (by omega)
      have hz557 := z_mulr (a := (-500)) (b := 500) (c := (-500)) (e := 500) (x := (m551 g0 20 (z543 + y4))) (y := (m551 g0 21 (z555 + y4))) (by omega) (by omega)
      refine X.imul 105 i21_104 rfl rfl (z_in3 hz557 (by decide) (by decide)) ?_
      obtain ⟨z557, ez557⟩ : ∃ z, z = ((m551 g0 20 (z543 + y4)) * (m551 g0 21 (z555 + y4))) := ⟨_, rfl⟩
      rw [← ez557] at hz557 ⊢
      have gz557 : (-250000) ≤ z557 ∧ z557 ≤ 250000 := z_in3 hz557 (by decide) (by decide)
      clear hz557
      refine X.callv 108 [zi 1, zi y4, zi z557] [] [(0, zr g0 19), (1, zi 1), (2, zi y4), (3, zi z557)] i21_105 rfl (by decide) rfl rfl (by omega) rfl rfl (by decide) rfl t22 (Nat.le_of_ble_eq_true rfl) (Nat.le_of_ble_eq_true rfl) rfl ?_
      refine X.aload_n 1 i22_0 rfl rfl rfl ?_
      refine X.getR 4 i22_1 rfl rfl (by decide) rfl rfl ?_
      refine X.iload_n 5 i22_4 rfl rfl rfl ?_
      refine X.iconst 6 i22_5 rfl rfl (by decide) ?_
      refine X.imul 7 i22_6 rfl rfl (by omega) ?_
      refine X.iload_n 8 i22_7 rfl rfl rfl ?_
      refine X.iadd 9 i22_8 rfl rfl (by omega) ?_
      refine X.dup2 10 i22_9 rfl rfl ?_
      refine X.lald 11 i22_10 rfl rfl (by decide) rfl (by omega) ?_
      refine X.iload_n 12 i22_11 rfl rfl rfl ?_
      refine X.i2l 13 i22_12 rfl rfl ?_
      refine X.llF 14 .ladd (fun x y => x + y) i22_13 rfl rfl rfl (fun _ _ => rfl) (fun z558 hz558 => ?_)
      refine X.last' 15 i22_14 rfl rfl (by decide) rfl (by omega) (fun hrm559 m559 hm559 => ?_)
      have hJ560 := w22_0 hJ552 hm559 (by omega) hrm559
      refine X.aload_n 16 i22_15 rfl rfl rfl ?_
      refine X.getR 19 i22_16 rfl rfl (by decide) rfl rfl ?_
      refine X.iload_n 20 i22_19 rfl rfl rfl ?_
      refine X.iconst 21 i22_20 rfl rfl (by decide) ?_
      refine X.imul 22 i22_21 rfl rfl (by omega) ?_
      refine X.iconst 23 i22_22 rfl rfl (by decide) ?_
      refine X.iadd 24 i22_23 rfl rfl (by omega) ?_
      refine X.dup2 25 i22_24 rfl rfl ?_
      refine X.lald 26 i22_25 rfl rfl (by decide) rfl (by omega) ?_
      refine X.iload_n 27 i22_26 rfl rfl rfl ?_
      refine X.i2l 28 i22_27 rfl rfl ?_
      refine X.llF 29 .ladd (fun x y => x + y) i22_28 rfl rfl rfl (fun _ _ => rfl) (fun z561 hz561 => ?_)
      refine X.last' 30 i22_29 rfl rfl (by decide) rfl (by omega) (fun hrm562 m562 hm562 => ?_)
      have hJ563 := w22_0 hJ560 hm562 (by omega) hrm562
      refine X.retv i22_30 rfl t22 ?_
      show X (EE s) d 21 108 [(0, zr g0 19), (1, zi y1), (2, zi y2), (3, zi y3), (4, zi y4), (5, zi (z543 + y4))] [] m562 _
      refine X.aload_n 109 i21_108 rfl rfl rfl ?_
      refine X.iconst 110 i21_109 rfl rfl (by decide) ?_
      refine X.iload 112 i21_110 rfl rfl rfl ?_
      refine X.aload_n 113 i21_112 rfl rfl rfl ?_
      refine X.getR 116 i21_113 rfl rfl (by decide) rfl rfl ?_
      refine X.iload 118 i21_116 rfl rfl rfl ?_
      refine X.iald 119 i21_118 rfl rfl (by decide) rfl (by omega) ?_
      have h564 := r20_0 hJ563 g0 (i := (z543 + y4)) (by omega)
      refine X.aload_n 120 i21_119 rfl rfl rfl ?_
      refine X.getR 123 i21_120 rfl rfl (by decide) rfl rfl ?_
      refine X.iload 125 i21_123 rfl rfl rfl ?_
      refine X.iald 126 i21_125 rfl rfl (by decide) rfl (by omega) ?_
      have hz565 := z_mulr (a := (-500)) (b := 500) (c := (-500)) (e := 500) (x := (m562 g0 20 (z543 + y4))) (y := (m562 g0 20 (z543 + y4))) (by omega) (by omega)
      refine X.imul 127 i21_126 rfl rfl (z_in3 hz565 (by decide) (by decide)) ?_
      obtain ⟨z565, ez565⟩ : ∃ z, z = ((m562 g0 20 (z543 + y4)) * (m562 g0 20 (z543 + y4))) := ⟨_, rfl⟩
      rw [← ez565] at hz565 ⊢
      have gz565 : (-250000) ≤ z565 ∧ z565 ≤ 250000 := z_in3 hz565 (by decide) (by decide)
      clear hz565
      refine X.callv 130 [zi 2, zi y4, zi z565] [] [(0, zr g0 19), (1, zi 2), (2, zi y4), (3, zi z565)] i21_127 rfl (by decide) rfl rfl (by omega) rfl rfl (by decide) rfl t22 (Nat.le_of_ble_eq_true rfl) (Nat.le_of_ble_eq_true rfl) rfl ?_
      refine X.aload_n 1 i22_0 rfl rfl rfl ?_
      refine X.getR 4 i22_1 rfl rfl (by decide) rfl rfl ?_
      refine X.iload_n 5 i22_4 rfl rfl rfl ?_
      refine X.iconst 6 i22_5 rfl rfl (by decide) ?_
      refine X.imul 7 i22_6 rfl rfl (by omega) ?_
      refine X.iload_n 8 i22_7 rfl rfl rfl ?_
      refine X.iadd 9 i22_8 rfl rfl (by omega) ?_
      refine X.dup2 10 i22_9 rfl rfl ?_
      refine X.lald 11 i22_10 rfl rfl (by decide) rfl (by omega) ?_
      refine X.iload_n 12 i22_11 rfl rfl rfl ?_
      refine X.i2l 13 i22_12 rfl rfl ?_
      refine X.llF 14 .ladd (fun x y => x + y) i22_13 rfl rfl rfl (fun _ _ => rfl) (fun z566 hz566 => ?_)
      refine X.last' 15 i22_14 rfl rfl (by decide) rfl (by omega) (fun hrm567 m567 hm567 => ?_)
      have hJ568 := w22_0 hJ563 hm567 (by omega) hrm567
      refine X.aload_n 16 i22_15 rfl rfl rfl ?_
      refine X.getR 19 i22_16 rfl rfl (by decide) rfl rfl ?_
      refine X.iload_n 20 i22_19 rfl rfl rfl ?_
      refine X.iconst 21 i22_20 rfl rfl (by decide) ?_
      refine X.imul 22 i22_21 rfl rfl (by omega) ?_
      refine X.iconst 23 i22_22 rfl rfl (by decide) ?_
      refine X.iadd 24 i22_23 rfl rfl (by omega) ?_
      refine X.dup2 25 i22_24 rfl rfl ?_
      refine X.lald 26 i22_25 rfl rfl (by decide) rfl (by omega) ?_
      refine X.iload_n 27 i22_26 rfl rfl rfl ?_
      refine X.i2l 28 i22_27 rfl rfl ?_
      refine X.llF 29 .ladd (fun x y => x + y) i22_28 rfl rfl rfl (fun _ _ => rfl) (fun z569 hz569 => ?_)
      refine X.last' 30 i22_29 rfl rfl (by decide) rfl (by omega) (fun hrm570 m570 hm570 => ?_)
      have hJ571 := w22_0 hJ568 hm570 (by omega) hrm570
      refine X.retv i22_30 rfl t22 ?_
      show X (EE s) d 21 130 [(0, zr g0 19), (1, zi y1), (2, zi y2), (3, zi y3), (4, zi y4), (5, zi (z543 + y4))] [] m570 _
      refine X.aload_n 131 i21_130 rfl rfl rfl ?_
      refine X.iconst 132 i21_131 rfl rfl (by decide) ?_
      refine X.iload 134 i21_132 rfl rfl rfl ?_
      refine X.aload_n 135 i21_134 rfl rfl rfl ?_
      refine X.getR 138 i21_135 rfl rfl (by decide) rfl rfl ?_
      refine X.iload 140 i21_138 rfl rfl rfl ?_
      refine X.iald 141 i21_140 rfl rfl (by decide) rfl (by omega) ?_
      have h572 := r21_0 hJ571 g0 (i := (z543 + y4)) (by omega)
      refine X.aload_n 142 i21_141 rfl rfl rfl ?_
      refine X.getR 145 i21_142 rfl rfl (by decide) rfl rfl ?_
      refine X.iload 147 i21_145 rfl rfl rfl ?_
      refine X.iald 148 i21_147 rfl rfl (by decide) rfl (by omega) ?_
      have hz573 := z_mulr (a := (-500)) (b := 500) (c := (-500)) (e := 500) (x := (m570 g0 21 (z543 + y4))) (y := (m570 g0 21 (z543 + y4))) (by omega) (by omega)
      refine X.imul 149 i21_148 rfl rfl (z_in3 hz573 (by decide) (by decide)) ?_
      obtain ⟨z573, ez573⟩ : ∃ z, z = ((m570 g0 21 (z543 + y4)) * (m570 g0 21 (z543 + y4))) := ⟨_, rfl⟩
      rw [← ez573] at hz573 ⊢
      have gz573 : (-250000) ≤ z573 ∧ z573 ≤ 250000 := z_in3 hz573 (by decide) (by decide)
      clear hz573
      refine X.callv 152 [zi 3, zi y4, zi z573] [] [(0, zr g0 19), (1, zi 3), (2, zi y4), (3, zi z573)] i21_149 rfl (by decide) rfl rfl (by omega) rfl rfl (by decide) rfl t22 (Nat.le_of_ble_eq_true rfl) (Nat.le_of_ble_eq_true rfl) rfl ?_
      refine X.aload_n 1 i22_0 rfl rfl rfl ?_
      refine X.getR 4 i22_1 rfl rfl (by decide) rfl rfl ?_
      refine X.iload_n 5 i22_4 rfl rfl rfl ?_
      refine X.iconst 6 i22_5 rfl rfl (by decide) ?_
      refine X.imul 7 i22_6 rfl rfl (by omega) ?_
      refine X.iload_n 8 i22_7 rfl rfl rfl ?_
      refine X.iadd 9 i22_8 rfl rfl (by omega) ?_
      refine X.dup2 10 i22_9 rfl rfl ?_
      refine X.lald 11 i22_10 rfl rfl (by decide) rfl (by omega) ?_
      refine X.iload_n 12 i22_11 rfl rfl rfl ?_
      refine X.i2l 13 i22_12 rfl rfl ?_
      refine X.llF 14 .ladd (fun x y => x + y) i22_13 rfl rfl rfl (fun _ _ => rfl) (fun z574 hz574 => ?_)
      refine X.last' 15 i22_14 rfl rfl (by decide) rfl (by omega) (fun hrm575 m575 hm575 => ?_)
      have hJ576 := w22_0 hJ571 hm575 (by omega) hrm575
      refine X.aload_n 16 i22_15 rfl rfl rfl ?_
      refine X.getR 19 i22_16 rfl rfl (by decide) rfl rfl ?_
      refine X.iload_n 20 i22_19 rfl rfl rfl ?_
      refine X.iconst 21 i22_20 rfl rfl (by decide) ?_
      refine X.imul 22 i22_21 rfl rfl (by omega) ?_
      refine X.iconst 23 i22_22 rfl rfl (by decide) ?_
      refine X.iadd 24 i22_23 rfl rfl (by omega) ?_
      refine X.dup2 25 i22_24 rfl rfl ?_
      refine X.lald 26 i22_25 rfl rfl (by decide) rfl (by omega) ?_
      refine X.iload_n 27 i22_26 rfl rfl rfl ?_
      refine X.i2l 28 i22_27 rfl rfl ?_
      refine X.llF 29 .ladd (fun x y => x + y) i22_28 rfl rfl rfl (fun _ _ => rfl) (fun z577 hz577 => ?_)
      refine X.last' 30 i22_29 rfl rfl (by decide) rfl (by omega) (fun hrm578 m578 hm578 => ?_)
      have hJ579 := w22_0 hJ576 hm578 (by omega) hrm578
      refine X.retv i22_30 rfl t22 ?_
      show X (EE s) d 21 152 [(0, zr g0 19), (1, zi y1), (2, zi y2), (3, zi y3), (4, zi y4), (5, zi (z543 + y4))] [] m578 _
      refine X.iinc 155 [(0, zr g0 19), (1, zi y1), (2, zi y2), (3, zi y3), (4, zi (y4 + 1)), (5, zi (z543 + y4))] i21_152 rfl rfl rfl (by omega) rfl ?_
      refine X.goto 37 i21_155 rfl rfl ?_
      refine X.cut [(0, zr g0 19), (1, zi y1), (2, zi y2), (3, zi y3), (4, zi (y4 + 1))] i21_37 rfl ?_
      exact ih (y4 + 1) m578 (B) (hJ579.up (by omega)) (by omega)  (by omega) (by omega)
theorem l21_17_1 {s : Nat × (Nat → Int32)} {S : zS} {m0 : zM} {d : Nat} {Q : Option zV → zM → Prop} (g0 : Nat) (y1 : Int) (BE : Int) (hE : BE ≤ 1000000000) (hd : 13 ≤ d) (hy1 : 1 ≤ y1 ∧ y1 ≤ 4)
    (K164 : ∀ (m' : zM) (B' : Int), J S m0 B' m' → B' ≤ BE → X (EE s) d 21 164 [(0, zr g0 19)] [] m' Q) :
    ∀ (n : Nat) (y2 : Int) (m : zM) (B : Int), J S m0 B m → B + 0 * (n : Int) ≤ BE → (0 ≤ y2 ∧ y2 ≤ 16) → 16 - y2 < (n : Int) → X (EE s) d 21 17 [(0, zr g0 19), (1, zi y1), (2, zi y2)] [] m Q := by
  intro n
  induction n with
  | zero =>
    intro y2 m B hJ hB  hy2 hn
    exfalso
    omega
  | succ n ih =>
    intro y2 m B hJ hB  hy2 hn
    refine X.iload_n 18 i21_17 rfl rfl rfl ?_
    refine X.aload_n 19 i21_18 rfl rfl rfl ?_
    refine X.getI 22 4 i21_19 rfl rfl (by decide) rfl rfl rfl ?_
    have h508 := r19_4 hJ g0
    refine X.icmpge 164 25 i21_22 rfl rfl rfl (fun h509 => ?_) (fun h509 => ?_)
    · refine X.cut [(0, zr g0 19)] i21_164 rfl ?_
      exact K164  m (B) (hJ.up (by omega)) (by omega)  
    · refine X.iload_n 26 i21_25 rfl rfl rfl ?_
      refine X.iload_n 27 i21_26 rfl rfl rfl ?_
      refine X.iadd 28 i21_27 rfl rfl (by omega) ?_
      refine X.aload_n 29 i21_28 rfl rfl rfl ?_
      refine X.getI 32 4 i21_29 rfl rfl (by decide) rfl rfl rfl ?_
      refine X.irem 33 i21_32 rfl rfl (by omega) ?_
      have hz510 := z_modb (x := (y2 + y1)) (y := (m g0 19 4)) (by omega) (by omega)
      obtain ⟨z510, ez510⟩ : ∃ z, z = ((y2 + y1) % (m g0 19 4)) := ⟨_, rfl⟩
      rw [← ez510] at hz510 ⊢
      clear ez510
      refine X.istore_n 34 [(0, zr g0 19), (1, zi y1), (2, zi y2), (3, zi z510)] i21_33 rfl rfl rfl ?_
      refine X.iconst 35 i21_34 rfl rfl (by decide) ?_
      refine X.istore 37 [(0, zr g0 19), (1, zi y1), (2, zi y2), (3, zi z510), (4, zi 0)] i21_35 rfl rfl rfl ?_
      refine l21_37_1 (s := s) (S := S) (m0 := m0) (d := d) g0 y1 y2 z510 (BE := B + 0) (by omega) (by omega) (by omega) (by omega) (by omega) (fun  m511 B512 hJ513 hBB512 => ?_) ((3 - 0 : Int).toNat + 1) 0 m (B) (hJ.up (by omega)) (by omega)  (by omega) (by omega)
      refine X.iinc 161 [(0, zr g0 19), (1, zi y1), (2, zi (y2 + 1))] i21_158 rfl rfl rfl (by omega) rfl ?_
      refine X.goto 17 i21_161 rfl rfl ?_
      exact ih (y2 + 1) m511 (B512) (hJ513.up (by omega)) (by omega)  (by omega) (by omega)
theorem l24_6_1 {s : Nat × (Nat → Int32)} {S : zS} {m0 m : zM} {B : Int} {d : Nat} {Q : Option zV → zM → Prop} (y0 : Int) (hd : 13 ≤ d) (hJ : J S m0 B m) (hB9 : B ≤ 1000000000)
    (K38 : ∀ (x2 : Int) , (True) → X (EE s) d 24 38 [(2, zl x2)] [] m Q) :
    ∀ (n : Nat) (y2 y4 : Int) , ((-1) ≤ y4 ∧ y4 ≤ 25) → y4 - (-1) < (n : Int) → X (EE s) d 24 6 [(0, zl y0), (2, zl y2), (4, zi y4)] [] m Q := by
  intro n
  induction n with
  | zero =>
    intro y2 y4 hy4 hn
    exfalso
    omega
  | succ n ih =>
    intro y2 y4 hy4 hn
    refine X.iload 8 i24_6 rfl rfl rfl ?_
    refine X.iflt 38 11 i24_8 rfl rfl rfl (fun h512 => ?_) (fun h512 => ?_)
    · refine X.cut [(2, zl y2)] i24_38 rfl ?_
      exact K38 y2 (by first | trivial | omega)
    · refine X.lload_n 12 i24_11 rfl rfl rfl ?_
      refine X.lconst (y := 1) 13 i24_12 rfl rfl rfl ?_
      refine X.iload 15 i24_13 rfl rfl rfl ?_
      refine X.lshlF 16 i24_15 rfl rfl (fun z513 hz513 => ?_)
      refine X.llF 17 .ladd (fun x y => x + y) i24_16 rfl rfl rfl (fun _ _ => rfl) (fun z514 hz514 => ?_)
      refine X.lstore 19 [(0, zl y0), (2, zl y2), (4, zi y4), (5, zl z514)] i24_17 rfl rfl rfl ?_
      refine X.lload 21 i24_19 rfl rfl rfl ?_
      refine X.lload 23 i24_21 rfl rfl rfl ?_
      refine X.llF 24 .lmul (fun x y => x * y) i24_23 rfl rfl rfl (fun _ _ => rfl) (fun z515 hz515 => ?_)
      refine X.lload_n 25 i24_24 rfl rfl rfl ?_
      refine X.lcmp 26 i24_25 rfl rfl (fun z516 hz516 => ?_)
      refine X.ifgt 32 29 i24_26 rfl rfl rfl (fun h517 => ?_) (fun h517 => ?_)
      · have h517c : z515 > y0 := by omega
        clear h517 hz516
        refine X.cut [(0, zl y0), (2, zl y2), (4, zi y4)] i24_32 rfl ?_
        refine X.iinc 35 [(0, zl y0), (2, zl y2), (4, zi (y4 + (-1)))] i24_32 rfl rfl rfl (by omega) rfl ?_
        refine X.goto 6 i24_35 rfl rfl ?_
        exact ih y2 (y4 + (-1)) (by omega) (by omega)
      · have h517c : z515 ≤ y0 := by omega
        clear h517 hz516
        refine X.lload 31 i24_29 rfl rfl rfl ?_
        refine X.lstore_n 32 [(0, zl y0), (2, zl z514), (4, zi y4), (5, zl z514)] i24_31 rfl rfl rfl ?_
        refine X.cut [(0, zl y0), (2, zl z514), (4, zi y4)] i24_32 rfl ?_
        refine X.iinc 35 [(0, zl y0), (2, zl z514), (4, zi (y4 + (-1)))] i24_32 rfl rfl rfl (by omega) rfl ?_
        refine X.goto 6 i24_35 rfl rfl ?_
        exact ih z514 (y4 + (-1)) (by omega) (by omega)
-- WorkMeter$Wave.wholeRoot
theorem c24_1 {s : Nat × (Nat → Int32)} {S : zS} {m0 m : zM} {B : Int} {d : Nat} {Q : Option zV → zM → Prop} (a0 : Int) (hd : 13 ≤ d) (hJ : J S m0 B m) (hB : B + 0 ≤ 1000000000) (hQ : ∀ (v : Int), (True) → Q (some (zl v)) m) : X (EE s) d 24 0 [(0, zl a0)] [] m Q := by
  refine X.lconst (y := 0) 1 i24_0 rfl rfl rfl ?_
  refine X.lstore_n 2 [(0, zl a0), (2, zl 0)] i24_1 rfl rfl rfl ?_
  refine X.bipush 4 i24_2 rfl rfl (by decide) ?_
  refine X.istore 6 [(0, zl a0), (2, zl 0), (4, zi 25)] i24_4 rfl rfl rfl ?_
  refine l24_6_1 (s := s) (S := S) (m0 := m0) (m := m) (B := B) (d := d)  a0 (by omega) (hJ.up (by omega)) (by omega) (fun y501 hby501 => ?_) ((25 - (-1) : Int).toNat + 1) 0 25 (by omega) (by omega)
  refine X.lload_n 39 i24_38 rfl rfl rfl ?_
  refine X.retl i24_39 rfl t24 ?_
  exact hQ y501 (by first | trivial | omega) 
-- WorkMeter$Wave.apparentOf
theorem c23_1 {s : Nat × (Nat → Int32)} {S : zS} {m0 m : zM} {B : Int} {d : Nat} {Q : Option zV → zM → Prop} (g0 : Nat) (a1 : Int) (hd : 14 ≤ d) (hJ : J S m0 B m) (hB : B + 0 ≤ 1000000000) (ha1 : 3 ≤ a1 ∧ a1 ≤ 3) (hQ : ∀ (v : Int), (True) → Q (some (zl v)) m) : X (EE s) d 23 0 [(0, zr g0 19), (1, zi a1)] [] m Q := by
  refine X.aload_n 1 i23_0 rfl rfl rfl ?_
  refine X.getR 4 i23_1 rfl rfl (by decide) rfl rfl ?_
  refine X.iconst 5 i23_4 rfl rfl (by decide) ?_
  refine X.iload_n 6 i23_5 rfl rfl rfl ?_
  refine X.iadd 7 i23_6 rfl rfl (by omega) ?_
  refine X.lald 8 i23_7 rfl rfl (by decide) rfl (by omega) ?_
  refine X.lstore_n 9 [(0, zr g0 19), (1, zi a1), (2, zl (m g0 22 (0 + a1)))] i23_8 rfl rfl rfl ?_
  refine X.aload_n 10 i23_9 rfl rfl rfl ?_
  refine X.getR 13 i23_10 rfl rfl (by decide) rfl rfl ?_
  refine X.iconst 14 i23_13 rfl rfl (by decide) ?_
  refine X.iload_n 15 i23_14 rfl rfl rfl ?_
  refine X.iadd 16 i23_15 rfl rfl (by omega) ?_
  refine X.lald 17 i23_16 rfl rfl (by decide) rfl (by omega) ?_
  refine X.lstore 19 [(0, zr g0 19), (1, zi a1), (2, zl (m g0 22 (0 + a1))), (4, zl (m g0 22 (4 + a1)))] i23_17 rfl rfl rfl ?_
  refine X.lload_n 20 i23_19 rfl rfl rfl ?_
  refine X.lload_n 21 i23_20 rfl rfl rfl ?_
  refine X.llF 22 .lmul (fun x y => x * y) i23_21 rfl rfl rfl (fun _ _ => rfl) (fun z501 hz501 => ?_)
  refine X.lload 24 i23_22 rfl rfl rfl ?_
  refine X.lload 26 i23_24 rfl rfl rfl ?_
  refine X.llF 27 .lmul (fun x y => x * y) i23_26 rfl rfl rfl (fun _ _ => rfl) (fun z502 hz502 => ?_)
  refine X.llF 28 .ladd (fun x y => x + y) i23_27 rfl rfl rfl (fun _ _ => rfl) (fun z503 hz503 => ?_)
  refine X.calls 31 [zl z503] [] [(0, zl z503)] i23_28 (by decide) rfl rfl (by omega) rfl rfl t24 (Nat.le_of_ble_eq_true rfl) (Nat.le_of_ble_eq_true rfl) rfl ?_
  refine c24_1 (B := B)  z503 (by omega) (hJ.up (by omega)) (by omega)  (fun v506 hv506 => ?_)
  show X (EE s) d 23 31 [(0, zr g0 19), (1, zi a1), (2, zl (m g0 22 (0 + a1))), (4, zl (m g0 22 (4 + a1)))] [zl v506] m _
  refine X.retl i23_31 rfl t23 ?_
  exact hQ v506 (by first | trivial | omega) 
-- WorkMeter$Wave.sumUp
theorem c21_1 {s : Nat × (Nat → Int32)} {S : zS} {m0 m : zM} {B : Int} {d : Nat} {Q : Option zV → zM → Prop} (g0 : Nat) (hd : 15 ≤ d) (hJ : J S m0 B m) (hB : B + 0 ≤ 1000000000) (hQ : ∀ m', J S m0 (B) m' → Q none m') : X (EE s) d 21 0 [(0, zr g0 19)] [] m Q := by
  refine X.aload_n 1 i21_0 rfl rfl rfl ?_
  refine X.getR 4 i21_1 rfl rfl (by decide) rfl rfl ?_
  refine X.lconst (y := 0) 5 i21_4 rfl rfl rfl ?_
  refine X.calls 8 [zr g0 22, zl 0] [] [(0, zr g0 22), (1, zl 0)] i21_5 (by decide) rfl rfl (by omega) rfl rfl t11 (Nat.le_of_ble_eq_true rfl) (Nat.le_of_ble_eq_true rfl) rfl ?_
  refine c11_1 (B := B) g0 0 (by omega) (hJ.up (by omega)) (by omega) (by omega) (fun m501 hJ502 => ?_)
  show X (EE s) d 21 8 [(0, zr g0 19)] [] m501 _
  refine X.aload_n 9 i21_8 rfl rfl rfl ?_
  refine X.getI 12 4 i21_9 rfl rfl (by decide) rfl rfl rfl ?_
  have h504 := r19_4 hJ502 g0
  refine X.iconst 13 i21_12 rfl rfl (by decide) ?_
  refine X.idiv 14 i21_13 rfl rfl (by omega) ?_
  refine X.istore_n 15 [(0, zr g0 19), (1, zi ((m501 g0 19 4) / 4))] i21_14 rfl rfl rfl ?_
  refine X.iconst 16 i21_15 rfl rfl (by decide) ?_
  refine X.istore_n 17 [(0, zr g0 19), (1, zi ((m501 g0 19 4) / 4)), (2, zi 0)] i21_16 rfl rfl rfl ?_
  refine l21_17_1 (s := s) (S := S) (m0 := m0) (d := d) g0 ((m501 g0 19 4) / 4) (BE := B + 0) (by omega) (by omega) (by omega) (fun  m505 B506 hJ507 hBB506 => ?_) ((16 - 0 : Int).toNat + 1) 0 m501 (B) (hJ502.up (by omega)) (by omega)  (by omega) (by omega)
  refine X.aload_n 165 i21_164 rfl rfl rfl ?_
  refine X.aload_n 166 i21_165 rfl rfl rfl ?_
  refine X.iconst 167 i21_166 rfl rfl (by decide) ?_
  refine X.callv 170 [zi 3] [zr g0 19] [(0, zr g0 19), (1, zi 3)] i21_167 rfl (by decide) rfl rfl (by omega) rfl rfl (by decide) rfl t23 (Nat.le_of_ble_eq_true rfl) (Nat.le_of_ble_eq_true rfl) rfl ?_
  refine c23_1 (B := B506) g0 3 (by omega) (hJ507.up (by omega)) (by omega) (by omega) (fun v510 hv510 => ?_)
  show X (EE s) d 21 170 [(0, zr g0 19)] [zl v510, zr g0 19] m505 _
  refine X.putL' 173 6 i21_170 rfl rfl (by decide) rfl rfl rfl (fun hrm511 m511 hm511 => ?_)
  have hJ512 := w19_6 hJ507 hm511 hrm511
  refine X.retv i21_173 rfl t21 ?_
  exact hQ  m511  (hJ512.up (by omega)) 
-- WorkMeter$Wave.takeSample
theorem c20_1 {s : Nat × (Nat → Int32)} {S : zS} {m0 m : zM} {B : Int} {d : Nat} {Q : Option zV → zM → Prop} (g0 : Nat) (a1 a2 : Int) (hd : 16 ≤ d) (hJ : J S m0 B m) (hB : B + 0 ≤ 1000000000) (ha1 : (-500) ≤ a1 ∧ a1 ≤ 500) (ha2 : (-500) ≤ a2 ∧ a2 ≤ 500) (hs0 : S.1 g0 19 5) (hQ : ∀ (v : Int) m', (0 ≤ v ∧ v ≤ 1) → J S m0 (B) m' → ((v = 0 ∧ m g0 19 5 + 1 < m g0 19 3 * m g0 19 4 ∧ m' g0 19 5 = m g0 19 5 + 1) ∨ (v = 1 ∧ m g0 19 3 * m g0 19 4 ≤ m g0 19 5 + 1 ∧ m' g0 19 5 = 0)) → Q (some (zi v)) m') : X (EE s) d 20 0 [(0, zr g0 19), (1, zi a1), (2, zi a2)] [] m Q := by
  refine X.aload_n 1 i20_0 rfl rfl rfl ?_
  refine X.getR 4 i20_1 rfl rfl (by decide) rfl rfl ?_
  refine X.aload_n 5 i20_4 rfl rfl rfl ?_
  refine X.getI 8 5 i20_5 rfl rfl (by decide) rfl rfl rfl ?_
  have h501 := r19_5 hJ g0
  refine X.iload_n 9 i20_8 rfl rfl rfl ?_
  refine X.iast' 10 i20_9 rfl rfl (by decide) rfl (by omega) (fun hrm502 m502 hm502 => ?_)
  have hJ503 := w20_0 hJ hm502 (by omega) (by omega)
  have wt504 : m502 g0 19 5 = (m g0 19 5) := by rw [hm502]; exact z_upd_o _ _ rfl
  have wt505 : m502 g0 19 3 = (m g0 19 3) := by rw [hm502]; exact z_upd_o _ _ rfl
  have wt506 : m502 g0 19 4 = (m g0 19 4) := by rw [hm502]; exact z_upd_o _ _ rfl
  refine X.aload_n 11 i20_10 rfl rfl rfl ?_
  refine X.getR 14 i20_11 rfl rfl (by decide) rfl rfl ?_
  refine X.aload_n 15 i20_14 rfl rfl rfl ?_
  refine X.getI 18 5 i20_15 rfl rfl (by decide) rfl rfl rfl ?_
  have h507 := r19_5 hJ503 g0
  refine X.iload_n 19 i20_18 rfl rfl rfl ?_
  refine X.iast' 20 i20_19 rfl rfl (by decide) rfl (by omega) (fun hrm508 m508 hm508 => ?_)
  have hJ509 := w21_0 hJ503 hm508 (by omega) (by omega)
  have wt510 : m508 g0 19 5 = (m g0 19 5) := Eq.trans (by rw [hm508]; exact z_upd_o _ _ rfl) wt504
  have wt511 : m508 g0 19 3 = (m g0 19 3) := Eq.trans (by rw [hm508]; exact z_upd_o _ _ rfl) wt505
  have wt512 : m508 g0 19 4 = (m g0 19 4) := Eq.trans (by rw [hm508]; exact z_upd_o _ _ rfl) wt506
  clear wt505 wt506
  refine X.aload_n 21 i20_20 rfl rfl rfl ?_
  refine X.dup 22 i20_21 rfl rfl rfl ?_
  refine X.getI 25 5 i20_22 rfl rfl (by decide) rfl rfl rfl ?_
  have h513 := r19_5 hJ509 g0
  refine X.iconst 26 i20_25 rfl rfl (by decide) ?_
  refine X.iadd 27 i20_26 rfl rfl (by omega) ?_
  refine X.putI' 30 5 i20_27 rfl rfl (by decide) rfl rfl rfl (fun hrm514 m514 hm514 => ?_)
  have em514 : m514 g0 19 5 = ((m508 g0 19 5) + 1) := by rw [hm514]; exact z_upd_same _ _ _ _ _
  have qm5143 : m514 g0 19 3 = m508 g0 19 3 := by rw [hm514]; exact z_upd_o _ _ rfl
  have qqm5143 := r19_3 hJ509 g0
  have qm5144 : m514 g0 19 4 = m508 g0 19 4 := by rw [hm514]; exact z_upd_o _ _ rfl
  have qqm5144 := r19_4 hJ509 g0
  have wt516 : m514 g0 19 5 = ((m508 g0 19 5) + 1) := by rw [hm514]; exact z_upd_same _ _ _ _ _
  have wt517 : m514 g0 19 3 = (m g0 19 3) := Eq.trans (by rw [hm514]; exact z_upd_o _ _ rfl) wt511
  have wt518 : m514 g0 19 4 = (m g0 19 4) := Eq.trans (by rw [hm514]; exact z_upd_o _ _ rfl) wt512
  clear wt511 wt512
  refine X.aload_n 31 i20_30 rfl rfl rfl ?_
  refine X.getI 34 5 i20_31 rfl rfl (by decide) rfl rfl rfl ?_
  refine X.aload_n 35 i20_34 rfl rfl rfl ?_
  refine X.getI 38 3 i20_35 rfl rfl (by decide) rfl rfl rfl ?_
  refine X.aload_n 39 i20_38 rfl rfl rfl ?_
  refine X.getI 42 4 i20_39 rfl rfl (by decide) rfl rfl rfl ?_
  have hz519 := z_mulr (a := 1) (b := 3) (c := 4) (e := 16) (x := (m514 g0 19 3)) (y := (m514 g0 19 4)) (by omega) (by omega)
  refine X.imul 43 i20_42 rfl rfl (z_in3 hz519 (by decide) (by decide)) ?_
  obtain ⟨z519, ez519⟩ : ∃ z, z = ((m514 g0 19 3) * (m514 g0 19 4)) := ⟨_, rfl⟩
  rw [← ez519] at hz519 ⊢
  have gz519 : 4 ≤ z519 ∧ z519 ≤ 48 := z_in3 hz519 (by decide) (by decide)
  clear hz519
  have ppz519 : z519 = (m g0 19 3) * (m g0 19 4) := by rw [ez519, wt517, wt518]
  refine X.icmpge 48 46 i20_43 rfl rfl rfl (fun h520 => ?_) (fun h520 => ?_)
  · refine X.cut [(0, zr g0 19)] i20_48 rfl ?_
    refine X.aload_n 49 i20_48 rfl rfl rfl ?_
    refine X.iconst 50 i20_49 rfl rfl (by decide) ?_
    refine X.putI' 53 5 i20_50 rfl rfl (by decide) rfl rfl rfl (fun hrm521 m521 hm521 => ?_)
    have hJ522 := w19_5 (x := 0) hJ509 (show m521 = z_upd m508 g0 19 5 0 by rw [hm521, hm514]; exact z_upd_upd _ _ _ _ _ _) (by omega) hs0
    have wt523 : m521 g0 19 5 = 0 := by rw [hm521]; exact z_upd_same _ _ _ _ _
    have wt524 : m521 g0 19 3 = (m g0 19 3) := Eq.trans (by rw [hm521]; exact z_upd_o _ _ rfl) wt517
    have wt525 : m521 g0 19 4 = (m g0 19 4) := Eq.trans (by rw [hm521]; exact z_upd_o _ _ rfl) wt518
    refine X.aload_n 54 i20_53 rfl rfl rfl ?_
    refine X.callv 57 [] [] [(0, zr g0 19)] i20_54 rfl (by decide) rfl rfl (by omega) rfl rfl (by decide) rfl t21 (Nat.le_of_ble_eq_true rfl) (Nat.le_of_ble_eq_true rfl) rfl ?_
    refine c21_1 (S := zfr [] S) (m0 := m521) (B := B) g0  (by omega) (hJ522.ow.up (by omega)) (by omega)  (fun m526 hJ527 => ?_)
    have hJ529 := hJ522.trans hJ527 zi_n
    have wt530 : m526 g0 19 5 = 0 := Eq.trans (hJ527.eq rfl rfl) wt523
    have wt531 : m526 g0 19 3 = (m g0 19 3) := Eq.trans (hJ527.eq rfl rfl) wt524
    have wt532 : m526 g0 19 4 = (m g0 19 4) := Eq.trans (hJ527.eq rfl rfl) wt525
    clear wt523 wt524 wt525
    show X (EE s) d 20 57 [(0, zr g0 19)] [] m526 _
    refine X.iconst 58 i20_57 rfl rfl (by decide) ?_
    refine X.retz i20_58 rfl t20 (by omega) ?_
    exact hQ 1 m526 (by first | trivial | omega) (hJ529.up (by omega)) (by first | exact (.inl ⟨by omega, by omega, by omega⟩) | exact (.inr ⟨by omega, by omega, by omega⟩))
  · refine X.iconst 47 i20_46 rfl rfl (by decide) ?_
    have hJ533 := w19_5 hJ509 hm514 (by omega) hs0
    refine X.retz i20_47 rfl t20 (by omega) ?_
    exact hQ 0 m514 (by first | trivial | omega) (hJ533.up (by omega)) (by first | exact (.inl ⟨by omega, by omega, by omega⟩) | exact (.inr ⟨by omega, by omega, by omega⟩))
theorem l29_2_1 {s : Nat × (Nat → Int32)} {S : zS} {m0 m : zM} {B : Int} {d : Nat} {Q : Option zV → zM → Prop} (g0 : Nat) (y1 : Int) (hd : 13 ≤ d) (hJ : J S m0 B m) (hB9 : B ≤ 1000000000) (hy1 : 0 ≤ y1 ∧ y1 ≤ 364)
    (K20 : ∀ (x2 : Int) , (0 ≤ x2 ∧ x2 ≤ 15) → (x2 < m g0 11 7) → X (EE s) d 29 20 [(0, zr g0 11), (1, zi y1), (2, zi x2)] [] m Q)
    (K28 : X (EE s) d 29 28 [] [] m Q) :
    ∀ (n : Nat) (y2 : Int) , (0 ≤ y2 ∧ y2 ≤ 16) → 16 - y2 < (n : Int) → X (EE s) d 29 2 [(0, zr g0 11), (1, zi y1), (2, zi y2)] [] m Q := by
  intro n
  induction n with
  | zero =>
    intro y2 hy2 hn
    exfalso
    omega
  | succ n ih =>
    intro y2 hy2 hn
    refine X.iload_n 3 i29_2 rfl rfl rfl ?_
    refine X.aload_n 4 i29_3 rfl rfl rfl ?_
    refine X.getI 7 7 i29_4 rfl rfl (by decide) rfl rfl rfl ?_
    have h506 := r11_7 hJ g0
    refine X.icmpge 28 10 i29_7 rfl rfl rfl (fun h507 => ?_) (fun h507 => ?_)
    · refine X.cut [] i29_28 rfl ?_
      exact K28  
    · refine X.aload_n 11 i29_10 rfl rfl rfl ?_
      refine X.getR 14 i29_11 rfl rfl (by decide) rfl rfl ?_
      refine X.iload_n 15 i29_14 rfl rfl rfl ?_
      refine X.iald 16 i29_15 rfl rfl (by decide) rfl (by omega) ?_
      have h508 := r17_0 hJ g0 (i := y2) (by omega)
      refine X.iload_n 17 i29_16 rfl rfl rfl ?_
      refine X.icmpne 22 20 i29_17 rfl rfl rfl (fun h509 => ?_) (fun h509 => ?_)
      · refine X.iinc 25 [(0, zr g0 11), (1, zi y1), (2, zi (y2 + 1))] i29_22 rfl rfl rfl (by omega) rfl ?_
        refine X.goto 2 i29_25 rfl rfl ?_
        exact ih (y2 + 1) (by omega) (by omega)
      · exact K20 y2 (by first | trivial | omega) (by omega)
-- WorkMeter$Calendar.specialPlace
theorem c29_1 {s : Nat × (Nat → Int32)} {S : zS} {m0 m : zM} {B : Int} {d : Nat} {Q : Option zV → zM → Prop} (g0 : Nat) (a1 : Int) (hd : 13 ≤ d) (hJ : J S m0 B m) (hB : B + 0 ≤ 1000000000) (ha1 : 0 ≤ a1 ∧ a1 ≤ 364) (hQ : ∀ (v : Int), ((-1) ≤ v ∧ v ≤ 15) → (v < m g0 11 7) → Q (some (zi v)) m) : X (EE s) d 29 0 [(0, zr g0 11), (1, zi a1)] [] m Q := by
  have f0 := r11_7 hJ g0
  refine X.iconst 1 i29_0 rfl rfl (by decide) ?_
  refine X.istore_n 2 [(0, zr g0 11), (1, zi a1), (2, zi 0)] i29_1 rfl rfl rfl ?_
  refine l29_2_1 (s := s) (S := S) (m0 := m0) (m := m) (B := B) (d := d) g0 a1 (by omega) (hJ.up (by omega)) (by omega) (by omega) (fun y501 hby501 hrlm5020 => ?_) ?_ ((16 - 0 : Int).toNat + 1) 0 (by omega) (by omega)
  · refine X.iload_n 21 i29_20 rfl rfl rfl ?_
    refine X.reti i29_21 rfl t29 ?_
    exact hQ y501 (by first | trivial | omega) (by omega)
  · refine X.iconst 29 i29_28 rfl rfl (by decide) ?_
    refine X.reti i29_29 rfl t29 ?_
    exact hQ (-1) (by first | trivial | omega) (by omega)
theorem l30_7_1 {s : Nat × (Nat → Int32)} {S : zS} {m0 m : zM} {B : Int} {d : Nat} {Q : Option zV → zM → Prop} (g0 : Nat) (y1 : Int) (hd : 13 ≤ d) (hJ : J S m0 B m) (hB9 : B ≤ 1000000000) (hy1 : 0 ≤ y1 ∧ y1 ≤ 364)
    (K87 : ∀ (x2 x3 : Int) , ((-1) ≤ x2 ∧ x2 ≤ 3) → (0 ≤ x3 ∧ x3 ≤ 3) → X (EE s) d 30 87 [(2, zi x2), (3, zi x3)] [] m Q) :
    ∀ (n : Nat) (y2 y3 y4 : Int) , ((-1) ≤ y2 ∧ y2 ≤ 3) → (0 ≤ y3 ∧ y3 ≤ 3) → (0 ≤ y4 ∧ y4 ≤ 4) → 4 - y4 < (n : Int) → X (EE s) d 30 7 [(0, zr g0 11), (1, zi y1), (2, zi y2), (3, zi y3), (4, zi y4)] [] m Q := by
  intro n
  induction n with
  | zero =>
    intro y2 y3 y4 hy2 hy3 hy4 hn
    exfalso
    omega
  | succ n ih =>
    intro y2 y3 y4 hy2 hy3 hy4 hn
    refine X.iload 9 i30_7 rfl rfl rfl ?_
    refine X.iconst 10 i30_9 rfl rfl (by decide) ?_
    refine X.icmpge 87 13 i30_10 rfl rfl rfl (fun h525 => ?_) (fun h525 => ?_)
    · refine X.cut [(2, zi y2), (3, zi y3)] i30_87 rfl ?_
      exact K87 y2 y3 (by first | trivial | omega) (by first | trivial | omega)
    · refine X.aload_n 14 i30_13 rfl rfl rfl ?_
      refine X.getR 17 i30_14 rfl rfl (by decide) rfl rfl ?_
      refine X.iload 19 i30_17 rfl rfl rfl ?_
      refine X.iald 20 i30_19 rfl rfl (by decide) rfl (by omega) ?_
      have h526 := r15_0 hJ g0 (i := y4) (by omega)
      refine X.iconst 21 i30_20 rfl rfl (by decide) ?_
      refine X.icmpne 27 24 i30_21 rfl rfl rfl (fun h527 => ?_) (fun h527 => ?_)
      · refine X.aload_n 28 i30_27 rfl rfl rfl ?_
        refine X.getR 31 i30_28 rfl rfl (by decide) rfl rfl ?_
        refine X.iload 33 i30_31 rfl rfl rfl ?_
        refine X.iald 34 i30_33 rfl rfl (by decide) rfl (by omega) ?_
        refine X.iload_n 35 i30_34 rfl rfl rfl ?_
        refine X.icmpgt 62 38 i30_35 rfl rfl rfl (fun h528 => ?_) (fun h528 => ?_)
        · refine X.aload_n 63 i30_62 rfl rfl rfl ?_
          refine X.getR 66 i30_63 rfl rfl (by decide) rfl rfl ?_
          refine X.iload 68 i30_66 rfl rfl rfl ?_
          refine X.iald 69 i30_68 rfl rfl (by decide) rfl (by omega) ?_
          refine X.aload_n 70 i30_69 rfl rfl rfl ?_
          refine X.getR 73 i30_70 rfl rfl (by decide) rfl rfl ?_
          refine X.iload_n 74 i30_73 rfl rfl rfl ?_
          refine X.iald 75 i30_74 rfl rfl (by decide) rfl (by omega) ?_
          have h529 := r15_0 hJ g0 (i := y3) (by omega)
          refine X.icmple 81 78 i30_75 rfl rfl rfl (fun h530 => ?_) (fun h530 => ?_)
          · refine X.iinc 84 [(0, zr g0 11), (1, zi y1), (2, zi y2), (3, zi y3), (4, zi (y4 + 1))] i30_81 rfl rfl rfl (by omega) rfl ?_
            refine X.goto 7 i30_84 rfl rfl ?_
            exact ih y2 y3 (y4 + 1) (by omega) (by omega) (by omega) (by omega)
          · refine X.iload 80 i30_78 rfl rfl rfl ?_
            refine X.istore_n 81 [(0, zr g0 11), (1, zi y1), (2, zi y2), (3, zi y4), (4, zi y4)] i30_80 rfl rfl rfl ?_
            refine X.iinc 84 [(0, zr g0 11), (1, zi y1), (2, zi y2), (3, zi y4), (4, zi (y4 + 1))] i30_81 rfl rfl rfl (by omega) rfl ?_
            refine X.goto 7 i30_84 rfl rfl ?_
            exact ih y2 y4 (y4 + 1) (by omega) (by omega) (by omega) (by omega)
        · refine X.iload_n 39 i30_38 rfl rfl rfl ?_
          refine X.iconst 40 i30_39 rfl rfl (by decide) ?_
          refine X.icmpeq 59 43 i30_40 rfl rfl rfl (fun h531 => ?_) (fun h531 => ?_)
          · refine X.cut [(0, zr g0 11), (1, zi y1), (3, zi y3), (4, zi y4)] i30_59 rfl ?_
            refine X.iload 61 i30_59 rfl rfl rfl ?_
            refine X.istore_n 62 [(0, zr g0 11), (1, zi y1), (2, zi y4), (3, zi y3), (4, zi y4)] i30_61 rfl rfl rfl ?_
            refine X.aload_n 63 i30_62 rfl rfl rfl ?_
            refine X.getR 66 i30_63 rfl rfl (by decide) rfl rfl ?_
            refine X.iload 68 i30_66 rfl rfl rfl ?_
            refine X.iald 69 i30_68 rfl rfl (by decide) rfl (by omega) ?_
            refine X.aload_n 70 i30_69 rfl rfl rfl ?_
            refine X.getR 73 i30_70 rfl rfl (by decide) rfl rfl ?_
            refine X.iload_n 74 i30_73 rfl rfl rfl ?_
            refine X.iald 75 i30_74 rfl rfl (by decide) rfl (by omega) ?_
            have h532 := r15_0 hJ g0 (i := y3) (by omega)
            refine X.icmple 81 78 i30_75 rfl rfl rfl (fun h533 => ?_) (fun h533 => ?_)
            · refine X.iinc 84 [(0, zr g0 11), (1, zi y1), (2, zi y4), (3, zi y3), (4, zi (y4 + 1))] i30_81 rfl rfl rfl (by omega) rfl ?_
              refine X.goto 7 i30_84 rfl rfl ?_
              exact ih y4 y3 (y4 + 1) (by omega) (by omega) (by omega) (by omega)
            · refine X.iload 80 i30_78 rfl rfl rfl ?_
              refine X.istore_n 81 [(0, zr g0 11), (1, zi y1), (2, zi y4), (3, zi y4), (4, zi y4)] i30_80 rfl rfl rfl ?_
              refine X.iinc 84 [(0, zr g0 11), (1, zi y1), (2, zi y4), (3, zi y4), (4, zi (y4 + 1))] i30_81 rfl rfl rfl (by omega) rfl ?_
              refine X.goto 7 i30_84 rfl rfl ?_
              exact ih y4 y4 (y4 + 1) (by omega) (by omega) (by omega) (by omega)
          · refine X.aload_n 44 i30_43 rfl rfl rfl ?_
            refine X.getR 47 i30_44 rfl rfl (by decide) rfl rfl ?_
            refine X.iload 49 i30_47 rfl rfl rfl ?_
            refine X.iald 50 i30_49 rfl rfl (by decide) rfl (by omega) ?_
            refine X.aload_n 51 i30_50 rfl rfl rfl ?_
            refine X.getR 54 i30_51 rfl rfl (by decide) rfl rfl ?_
            refine X.iload_n 55 i30_54 rfl rfl rfl ?_
            refine X.iald 56 i30_55 rfl rfl (by decide) rfl (by omega) ?_
            have h534 := r15_0 hJ g0 (i := y2) (by omega)
            refine X.icmple 62 59 i30_56 rfl rfl rfl (fun h535 => ?_) (fun h535 => ?_)
            · refine X.aload_n 63 i30_62 rfl rfl rfl ?_
              refine X.getR 66 i30_63 rfl rfl (by decide) rfl rfl ?_
              refine X.iload 68 i30_66 rfl rfl rfl ?_
              refine X.iald 69 i30_68 rfl rfl (by decide) rfl (by omega) ?_
              refine X.aload_n 70 i30_69 rfl rfl rfl ?_
              refine X.getR 73 i30_70 rfl rfl (by decide) rfl rfl ?_
              refine X.iload_n 74 i30_73 rfl rfl rfl ?_
              refine X.iald 75 i30_74 rfl rfl (by decide) rfl (by omega) ?_
              have h536 := r15_0 hJ g0 (i := y3) (by omega)
              refine X.icmple 81 78 i30_75 rfl rfl rfl (fun h537 => ?_) (fun h537 => ?_)
              · refine X.iinc 84 [(0, zr g0 11), (1, zi y1), (2, zi y2), (3, zi y3), (4, zi (y4 + 1))] i30_81 rfl rfl rfl (by omega) rfl ?_
                refine X.goto 7 i30_84 rfl rfl ?_
                exact ih y2 y3 (y4 + 1) (by omega) (by omega) (by omega) (by omega)
              · refine X.iload 80 i30_78 rfl rfl rfl ?_
                refine X.istore_n 81 [(0, zr g0 11), (1, zi y1), (2, zi y2), (3, zi y4), (4, zi y4)] i30_80 rfl rfl rfl ?_
                refine X.iinc 84 [(0, zr g0 11), (1, zi y1), (2, zi y2), (3, zi y4), (4, zi (y4 + 1))] i30_81 rfl rfl rfl (by omega) rfl ?_
                refine X.goto 7 i30_84 rfl rfl ?_
                exact ih y2 y4 (y4 + 1) (by omega) (by omega) (by omega) (by omega)
            · refine X.cut [(0, zr g0 11), (1, zi y1), (3, zi y3), (4, zi y4)] i30_59 rfl ?_
              refine X.iload 61 i30_59 rfl rfl rfl ?_
              refine X.istore_n 62 [(0, zr g0 11), (1, zi y1), (2, zi y4), (3, zi y3), (4, zi y4)] i30_61 rfl rfl rfl ?_
              refine X.aload_n 63 i30_62 rfl rfl rfl ?_
              refine X.getR 66 i30_63 rfl rfl (by decide) rfl rfl ?_
              refine X.iload 68 i30_66 rfl rfl rfl ?_
              refine X.iald 69 i30_68 rfl rfl (by decide) rfl (by omega) ?_
              refine X.aload_n 70 i30_69 rfl rfl rfl ?_
              refine X.getR 73 i30_70 rfl rfl (by decide) rfl rfl ?_
              refine X.iload_n 74 i30_73 rfl rfl rfl ?_
              refine X.iald 75 i30_74 rfl rfl (by decide) rfl (by omega) ?_
              have h538 := r15_0 hJ g0 (i := y3) (by omega)
              refine X.icmple 81 78 i30_75 rfl rfl rfl (fun h539 => ?_) (fun h539 => ?_)
              · refine X.iinc 84 [(0, zr g0 11), (1, zi y1), (2, zi y4), (3, zi y3), (4, zi (y4 + 1))] i30_81 rfl rfl rfl (by omega) rfl ?_
                refine X.goto 7 i30_84 rfl rfl ?_
                exact ih y4 y3 (y4 + 1) (by omega) (by omega) (by omega) (by omega)
              · refine X.iload 80 i30_78 rfl rfl rfl ?_
                refine X.istore_n 81 [(0, zr g0 11), (1, zi y1), (2, zi y4), (3, zi y4), (4, zi y4)] i30_80 rfl rfl rfl ?_
                refine X.iinc 84 [(0, zr g0 11), (1, zi y1), (2, zi y4), (3, zi y4), (4, zi (y4 + 1))] i30_81 rfl rfl rfl (by omega) rfl ?_
                refine X.goto 7 i30_84 rfl rfl ?_
                exact ih y4 y4 (y4 + 1) (by omega) (by omega) (by omega) (by omega)
      · refine X.goto 81 i30_24 rfl rfl ?_
        refine X.iinc 84 [(0, zr g0 11), (1, zi y1), (2, zi y2), (3, zi y3), (4, zi (y4 + 1))] i30_81 rfl rfl rfl (by omega) rfl ?_
        refine X.goto 7 i30_84 rfl rfl ?_
        exact ih y2 y3 (y4 + 1) (by omega) (by omega) (by omega) (by omega)
-- WorkMeter$Calendar.seasonOf
theorem c30_1 {s : Nat × (Nat → Int32)} {S : zS} {m0 m : zM} {B : Int} {d : Nat} {Q : Option zV → zM → Prop} (g0 : Nat) (a1 : Int) (hd : 13 ≤ d) (hJ : J S m0 B m) (hB : B + 0 ≤ 1000000000) (ha1 : 0 ≤ a1 ∧ a1 ≤ 364) (hQ : ∀ (v : Int), (0 ≤ v ∧ v ≤ 3) → Q (some (zi v)) m) : X (EE s) d 30 0 [(0, zr g0 11), (1, zi a1)] [] m Q := by
  refine X.iconst 1 i30_0 rfl rfl (by decide) ?_
  refine X.istore_n 2 [(0, zr g0 11), (1, zi a1), (2, zi (-1))] i30_1 rfl rfl rfl ?_
  refine X.iconst 3 i30_2 rfl rfl (by decide) ?_
  refine X.istore_n 4 [(0, zr g0 11), (1, zi a1), (2, zi (-1)), (3, zi 0)] i30_3 rfl rfl rfl ?_
  refine X.iconst 5 i30_4 rfl rfl (by decide) ?_
  refine X.istore 7 [(0, zr g0 11), (1, zi a1), (2, zi (-1)), (3, zi 0), (4, zi 0)] i30_5 rfl rfl rfl ?_
  refine l30_7_1 (s := s) (S := S) (m0 := m0) (m := m) (B := B) (d := d) g0 a1 (by omega) (hJ.up (by omega)) (by omega) (by omega) (fun y501 y502 hby501 hby502 => ?_) ((4 - 0 : Int).toNat + 1) (-1) 0 0 (by omega) (by omega) (by omega) (by omega)
  refine X.iload_n 88 i30_87 rfl rfl rfl ?_
  refine X.iconst 89 i30_88 rfl rfl (by decide) ?_
  refine X.icmpne 96 92 i30_89 rfl rfl rfl (fun h506 => ?_) (fun h506 => ?_)
  · refine X.cut [(2, zi y501)] i30_96 rfl ?_
    refine X.iload_n 97 i30_96 rfl rfl rfl ?_
    refine X.cut [] i30_97 rfl ?_
    refine X.reti i30_97 rfl t30 ?_
    exact hQ y501 (by first | trivial | omega) 
  · refine X.iload_n 93 i30_92 rfl rfl rfl ?_
    refine X.goto 97 i30_93 rfl rfl ?_
    refine X.cut [] i30_97 rfl ?_
    refine X.reti i30_97 rfl t30 ?_
    exact hQ y502 (by first | trivial | omega) 
-- WorkMeter$Calendar.tableFor
theorem c28_1 {s : Nat × (Nat → Int32)} {S : zS} {m0 m : zM} {B : Int} {d : Nat} {Q : Option zV → zM → Prop} (g0 : Nat) (a1 : Int) (hd : 14 ≤ d) (hJ : J S m0 B m) (hB : B + 0 ≤ 1000000000) (ha1 : 0 ≤ a1 ∧ a1 ≤ 23150) (hQ : ∀ (v : Int), (0 ≤ v ∧ v ≤ 7) → Q (some (zi v)) m) : X (EE s) d 28 0 [(0, zr g0 11), (1, zi a1)] [] m Q := by
  refine X.aload_n 1 i28_0 rfl rfl rfl ?_
  refine X.iload_n 2 i28_1 rfl rfl rfl ?_
  refine X.sipush 5 i28_2 rfl rfl (by decide) ?_
  refine X.irem 6 i28_5 rfl rfl (by omega) ?_
  refine X.callv 9 [zi (a1 % 365)] [] [(0, zr g0 11), (1, zi (a1 % 365))] i28_6 rfl (by decide) rfl rfl (by omega) rfl rfl (by decide) rfl t29 (Nat.le_of_ble_eq_true rfl) (Nat.le_of_ble_eq_true rfl) rfl ?_
  refine c29_1 (B := B) g0 (a1 % 365) (by omega) (hJ.up (by omega)) (by omega) (by omega) (fun v503 hv503 hqv5030 => ?_)
  show X (EE s) d 28 9 [(0, zr g0 11), (1, zi a1)] [zi v503] m _
  refine X.istore_n 10 [(0, zr g0 11), (1, zi a1), (2, zi v503)] i28_9 rfl rfl rfl ?_
  refine X.iload_n 11 i28_10 rfl rfl rfl ?_
  refine X.iconst 12 i28_11 rfl rfl (by decide) ?_
  refine X.icmpeq 22 15 i28_12 rfl rfl rfl (fun h504 => ?_) (fun h504 => ?_)
  · refine X.cut [(0, zr g0 11), (1, zi a1)] i28_22 rfl ?_
    refine X.aload_n 23 i28_22 rfl rfl rfl ?_
    refine X.getR 26 i28_23 rfl rfl (by decide) rfl rfl ?_
    refine X.aload_n 27 i28_26 rfl rfl rfl ?_
    refine X.iload_n 28 i28_27 rfl rfl rfl ?_
    refine X.sipush 31 i28_28 rfl rfl (by decide) ?_
    refine X.irem 32 i28_31 rfl rfl (by omega) ?_
    refine X.callv 35 [zi (a1 % 365)] [zr g0 16] [(0, zr g0 11), (1, zi (a1 % 365))] i28_32 rfl (by decide) rfl rfl (by omega) rfl rfl (by decide) rfl t30 (Nat.le_of_ble_eq_true rfl) (Nat.le_of_ble_eq_true rfl) rfl ?_
    refine c30_1 (B := B) g0 (a1 % 365) (by omega) (hJ.up (by omega)) (by omega) (by omega) (fun v507 hv507 => ?_)
    show X (EE s) d 28 35 [(0, zr g0 11), (1, zi a1)] [zi v507, zr g0 16] m _
    refine X.bipush 37 i28_35 rfl rfl (by decide) ?_
    refine X.imul 38 i28_37 rfl rfl (by omega) ?_
    refine X.iload_n 39 i28_38 rfl rfl rfl ?_
    refine X.bipush 41 i28_39 rfl rfl (by decide) ?_
    refine X.irem 42 i28_41 rfl rfl (by omega) ?_
    refine X.iadd 43 i28_42 rfl rfl (by omega) ?_
    refine X.iald 44 i28_43 rfl rfl (by decide) rfl (by omega) ?_
    have h508 := r16_0 hJ g0 (i := ((v507 * 7) + (a1 % 7))) (by omega)
    refine X.reti i28_44 rfl t28 ?_
    exact hQ (m g0 16 ((v507 * 7) + (a1 % 7))) (by first | trivial | omega) 
  · refine X.aload_n 16 i28_15 rfl rfl rfl ?_
    refine X.getR 19 i28_16 rfl rfl (by decide) rfl rfl ?_
    refine X.iload_n 20 i28_19 rfl rfl rfl ?_
    refine X.iald 21 i28_20 rfl rfl (by decide) rfl (by omega) ?_
    have h509 := r18_0 hJ g0 (i := v503) (by omega)
    refine X.reti i28_21 rfl t28 ?_
    exact hQ (m g0 18 v503) (by first | trivial | omega) 
-- WorkMeter$Calendar.tariffIn
theorem c31_1 {s : Nat × (Nat → Int32)} {S : zS} {m0 m : zM} {B : Int} {d : Nat} {Q : Option zV → zM → Prop} (g0 : Nat) (a1 a2 : Int) (hd : 14 ≤ d) (hJ : J S m0 B m) (hB : B + 0 ≤ 1000000000) (ha1 : 0 ≤ a1 ∧ a1 ≤ 7) (ha2 : 0 ≤ a2 ∧ a2 ≤ 86399) (hQ : ∀ (v : Int), (0 ≤ v ∧ v ≤ 3) → Q (some (zi v)) m) : X (EE s) d 31 0 [(0, zr g0 11), (1, zi a1), (2, zi a2)] [] m Q := by
  refine X.aload_n 1 i31_0 rfl rfl rfl ?_
  refine X.iload_n 2 i31_1 rfl rfl rfl ?_
  refine X.iload_n 3 i31_2 rfl rfl rfl ?_
  refine X.iconst 4 i31_3 rfl rfl (by decide) ?_
  refine X.iadd 5 i31_4 rfl rfl (by omega) ?_
  refine X.callv 8 [zi a1, zi (a2 + 1)] [] [(0, zr g0 11), (1, zi a1), (2, zi (a2 + 1))] i31_5 rfl (by decide) rfl rfl (by omega) rfl rfl (by decide) rfl t32 (Nat.le_of_ble_eq_true rfl) (Nat.le_of_ble_eq_true rfl) rfl ?_
  refine c_sb (B := B) g0 a1 (a2 + 1) (by omega) (hJ.up (by omega)) (by omega) (by omega) (fun v503 hv503 hqv5030 hqv5031 hqv5032 => ?_)
  show X (EE s) d 31 8 [(0, zr g0 11), (1, zi a1), (2, zi a2)] [zi v503] m _
  refine X.istore_n 9 [(0, zr g0 11), (1, zi a1), (2, zi a2), (3, zi v503)] i31_8 rfl rfl rfl ?_
  refine X.iload_n 10 i31_9 rfl rfl rfl ?_
  refine X.ifne 17 13 i31_10 rfl rfl rfl (fun h504 => ?_) (fun h504 => ?_)
  · refine X.cut [(0, zr g0 11), (1, zi a1), (3, zi v503)] i31_17 rfl ?_
    refine X.aload_n 18 i31_17 rfl rfl rfl ?_
    refine X.getR 21 i31_18 rfl rfl (by decide) rfl rfl ?_
    refine X.iload_n 22 i31_21 rfl rfl rfl ?_
    refine X.bipush 24 i31_22 rfl rfl (by decide) ?_
    refine X.imul 25 i31_24 rfl rfl (by omega) ?_
    refine X.iload_n 26 i31_25 rfl rfl rfl ?_
    refine X.iadd 27 i31_26 rfl rfl (by omega) ?_
    refine X.iconst 28 i31_27 rfl rfl (by decide) ?_
    refine X.isub 29 i31_28 rfl rfl (by omega) ?_
    refine X.iald 30 i31_29 rfl rfl (by decide) rfl (by omega) ?_
    have h505 := r14_0 hJ g0 (i := (((a1 * 6) + v503) - 1)) (by omega)
    refine X.cut [] i31_30 rfl ?_
    refine X.reti i31_30 rfl t31 ?_
    exact hQ (m g0 14 (((a1 * 6) + v503) - 1)) (by first | trivial | omega) 
  · refine X.iconst 14 i31_13 rfl rfl (by decide) ?_
    refine X.goto 30 i31_14 rfl rfl ?_
    refine X.cut [] i31_30 rfl ?_
    refine X.reti i31_30 rfl t31 ?_
    exact hQ 0 (by first | trivial | omega) 
theorem l34_16_1 {s : Nat × (Nat → Int32)} {S : zS} {m0 m : zM} {B : Int} {d : Nat} {Q : Option zV → zM → Prop} (g0 : Nat) (y1 : Int) (hd : 13 ≤ d) (hJ : J S m0 B m) (hB9 : B ≤ 1000000000) (hy1 : 0 ≤ y1 ∧ y1 ≤ 1000000)
    (K177 : ∀ (x2 x3 x4 x5 x6 : Int) , (0 ≤ x2 ∧ x2 ≤ 1) → (0 ≤ x3 ∧ x3 ≤ 1) → (0 ≤ x4 ∧ x4 ≤ 1) → (0 ≤ x5 ∧ x5 ≤ 1) → (0 ≤ x6 ∧ x6 ≤ 1) → X (EE s) d 34 177 [(2, zi x2), (3, zi x3), (4, zi x4), (5, zi x5), (6, zi x6)] [] m Q) :
    ∀ (n : Nat) (y2 y3 y4 y5 y6 y7 : Int) , (0 ≤ y2 ∧ y2 ≤ 1) → (0 ≤ y3 ∧ y3 ≤ 1) → (0 ≤ y4 ∧ y4 ≤ 1) → (0 ≤ y5 ∧ y5 ≤ 1) → (0 ≤ y6 ∧ y6 ≤ 1) → (0 ≤ y7 ∧ y7 ≤ 3) → 3 - y7 < (n : Int) → X (EE s) d 34 16 [(0, zr g0 19), (1, zi y1), (2, zi y2), (3, zi y3), (4, zi y4), (5, zi y5), (6, zi y6), (7, zi y7)] [] m Q := by
  intro n
  induction n with
  | zero =>
    intro y2 y3 y4 y5 y6 y7 hy2 hy3 hy4 hy5 hy6 hy7 hn
    exfalso
    omega
  | succ n ih =>
    intro y2 y3 y4 y5 y6 y7 hy2 hy3 hy4 hy5 hy6 hy7 hn
    refine X.iload 18 i34_16 rfl rfl rfl ?_
    refine X.aload_n 19 i34_18 rfl rfl rfl ?_
    refine X.getI 22 3 i34_19 rfl rfl (by decide) rfl rfl rfl ?_
    have h998 := r19_3 hJ g0
    refine X.icmpge 177 25 i34_22 rfl rfl rfl (fun h999 => ?_) (fun h999 => ?_)
    · refine X.cut [(2, zi y2), (3, zi y3), (4, zi y4), (5, zi y5), (6, zi y6)] i34_177 rfl ?_
      exact K177 y2 y3 y4 y5 y6 (by first | trivial | omega) (by first | trivial | omega) (by first | trivial | omega) (by first | trivial | omega) (by first | trivial | omega)
    · refine X.aload_n 26 i34_25 rfl rfl rfl ?_
      refine X.getR 29 i34_26 rfl rfl (by decide) rfl rfl ?_
      refine X.bipush 31 i34_29 rfl rfl (by decide) ?_
      refine X.iload 33 i34_31 rfl rfl rfl ?_
      refine X.iadd 34 i34_33 rfl rfl (by omega) ?_
      refine X.lald 35 i34_34 rfl rfl (by decide) rfl (by omega) ?_
      refine X.lstore 37 [(0, zr g0 19), (1, zi y1), (2, zi y2), (3, zi y3), (4, zi y4), (5, zi y5), (6, zi y6), (7, zi y7), (8, zl (m g0 22 (8 + y7)))] i34_35 rfl rfl rfl ?_
      refine X.aload_n 38 i34_37 rfl rfl rfl ?_
      refine X.getR 41 i34_38 rfl rfl (by decide) rfl rfl ?_
      refine X.iconst 42 i34_41 rfl rfl (by decide) ?_
      refine X.iload 44 i34_42 rfl rfl rfl ?_
      refine X.iadd 45 i34_44 rfl rfl (by omega) ?_
      refine X.lald 46 i34_45 rfl rfl (by decide) rfl (by omega) ?_
      refine X.lstore 48 [(0, zr g0 19), (1, zi y1), (2, zi y2), (3, zi y3), (4, zi y4), (5, zi y5), (6, zi y6), (7, zi y7), (8, zl (m g0 22 (8 + y7))), (10, zl (m g0 22 (0 + y7)))] i34_46 rfl rfl rfl ?_
      refine X.lload 50 i34_48 rfl rfl rfl ?_
      refine X.aload_n 51 i34_50 rfl rfl rfl ?_
      refine X.getI 54 4 i34_51 rfl rfl (by decide) rfl rfl rfl ?_
      have h1000 := r19_4 hJ g0
      refine X.i2l 55 i34_54 rfl rfl ?_
      refine X.iload_n 56 i34_55 rfl rfl rfl ?_
      refine X.i2l 57 i34_56 rfl rfl ?_
      have hz1001 := z_mulr (a := 4) (b := 16) (c := 0) (e := 1000000) (x := (m g0 19 4)) (y := y1) (by omega) (by omega)
      refine X.lmul 58 i34_57 rfl rfl (z_in3 hz1001 (by decide) (by decide)) ?_
      obtain ⟨z1001, ez1001⟩ : ∃ z, z = ((m g0 19 4) * y1) := ⟨_, rfl⟩
      rw [← ez1001] at hz1001 ⊢
      have gz1001 : 0 ≤ z1001 ∧ z1001 ≤ 16000000 := z_in3 hz1001 (by decide) (by decide)
      clear hz1001
      refine X.lcmp 59 i34_58 rfl rfl (fun z1002 hz1002 => ?_)
      refine X.ifge 66 62 i34_59 rfl rfl rfl (fun h1003 => ?_) (fun h1003 => ?_)
      · have h1003c : (m g0 22 (8 + y7)) ≥ z1001 := by omega
        clear h1003 hz1002
        refine X.iconst 67 i34_66 rfl rfl (by decide) ?_
        refine X.istore 69 [(0, zr g0 19), (1, zi y1), (2, zi y2), (3, zi y3), (4, zi y4), (5, zi y5), (6, zi y6), (7, zi y7), (8, zl (m g0 22 (8 + y7))), (10, zl (m g0 22 (0 + y7))), (12, zi 0)] i34_67 rfl rfl rfl ?_
        refine X.iload_n 70 i34_69 rfl rfl rfl ?_
        refine X.ifne 78 73 i34_70 rfl rfl rfl (fun h1004 => ?_) (fun h1004 => ?_)
        · refine X.cut [(0, zr g0 19), (1, zi y1), (3, zi y3), (4, zi y4), (5, zi y5), (6, zi y6), (7, zi y7), (8, zl (m g0 22 (8 + y7))), (10, zl (m g0 22 (0 + y7))), (12, zi 0)] i34_78 rfl ?_
          refine X.iconst 79 i34_78 rfl rfl (by decide) ?_
          refine X.goto 83 i34_79 rfl rfl ?_
          refine X.istore_n 84 [(0, zr g0 19), (1, zi y1), (2, zi 1), (3, zi y3), (4, zi y4), (5, zi y5), (6, zi y6), (7, zi y7), (8, zl (m g0 22 (8 + y7))), (10, zl (m g0 22 (0 + y7))), (12, zi 0)] i34_83 rfl rfl rfl ?_
          refine X.iload_n 85 i34_84 rfl rfl rfl ?_
          refine X.ifne 93 88 i34_85 rfl rfl rfl (fun h1005 => ?_) (fun h1005 => ?_)
          · refine X.cut [(0, zr g0 19), (1, zi y1), (2, zi 1), (4, zi y4), (5, zi y5), (6, zi y6), (7, zi y7), (8, zl (m g0 22 (8 + y7))), (10, zl (m g0 22 (0 + y7)))] i34_93 rfl ?_
            refine X.iconst 94 i34_93 rfl rfl (by decide) ?_
            refine X.goto 98 i34_94 rfl rfl ?_
            refine X.istore_n 99 [(0, zr g0 19), (1, zi y1), (2, zi 1), (3, zi 1), (4, zi y4), (5, zi y5), (6, zi y6), (7, zi y7), (8, zl (m g0 22 (8 + y7))), (10, zl (m g0 22 (0 + y7)))] i34_98 rfl rfl rfl ?_
            refine X.iload 101 i34_99 rfl rfl rfl ?_
            refine X.ifne 111 104 i34_101 rfl rfl rfl (fun h1006 => ?_) (fun h1006 => ?_)
            · refine X.cut [(0, zr g0 19), (1, zi y1), (2, zi 1), (3, zi 1), (5, zi y5), (6, zi y6), (7, zi y7), (8, zl (m g0 22 (8 + y7))), (10, zl (m g0 22 (0 + y7)))] i34_111 rfl ?_
              refine X.iconst 112 i34_111 rfl rfl (by decide) ?_
              refine X.goto 116 i34_112 rfl rfl ?_
              refine X.istore 118 [(0, zr g0 19), (1, zi y1), (2, zi 1), (3, zi 1), (4, zi 1), (5, zi y5), (6, zi y6), (7, zi y7), (8, zl (m g0 22 (8 + y7))), (10, zl (m g0 22 (0 + y7)))] i34_116 rfl rfl rfl ?_
              refine X.iload 120 i34_118 rfl rfl rfl ?_
              refine X.ifne 130 123 i34_120 rfl rfl rfl (fun h1007 => ?_) (fun h1007 => ?_)
              · refine X.cut [(0, zr g0 19), (1, zi y1), (2, zi 1), (3, zi 1), (4, zi 1), (6, zi y6), (7, zi y7), (8, zl (m g0 22 (8 + y7)))] i34_130 rfl ?_
                refine X.iconst 131 i34_130 rfl rfl (by decide) ?_
                refine X.goto 135 i34_131 rfl rfl ?_
                refine X.istore 137 [(0, zr g0 19), (1, zi y1), (2, zi 1), (3, zi 1), (4, zi 1), (5, zi 1), (6, zi y6), (7, zi y7), (8, zl (m g0 22 (8 + y7)))] i34_135 rfl rfl rfl ?_
                refine X.iload 139 i34_137 rfl rfl rfl ?_
                refine X.ifne 164 142 i34_139 rfl rfl rfl (fun h1008 => ?_) (fun h1008 => ?_)
                · refine X.cut [(0, zr g0 19), (1, zi y1), (2, zi 1), (3, zi 1), (4, zi 1), (5, zi 1), (7, zi y7)] i34_164 rfl ?_
                  refine X.iconst 165 i34_164 rfl rfl (by decide) ?_
                  refine X.goto 169 i34_165 rfl rfl ?_
                  refine X.istore 171 [(0, zr g0 19), (1, zi y1), (2, zi 1), (3, zi 1), (4, zi 1), (5, zi 1), (6, zi 1), (7, zi y7)] i34_169 rfl rfl rfl ?_
                  refine X.iinc 174 [(0, zr g0 19), (1, zi y1), (2, zi 1), (3, zi 1), (4, zi 1), (5, zi 1), (6, zi 1), (7, zi (y7 + 1))] i34_171 rfl rfl rfl (by omega) rfl ?_
                  refine X.goto 16 i34_174 rfl rfl ?_
                  exact ih 1 1 1 1 1 (y7 + 1) (by omega) (by omega) (by omega) (by omega) (by omega) (by omega) (by omega)
                · refine X.lload 144 i34_142 rfl rfl rfl ?_
                  refine X.lconst (y := 0) 145 i34_144 rfl rfl rfl ?_
                  refine X.lcmp 146 i34_145 rfl rfl (fun z1009 hz1009 => ?_)
                  refine X.ifne 168 149 i34_146 rfl rfl rfl (fun h1010 => ?_) (fun h1010 => ?_)
                  · have h1010c : (m g0 22 (8 + y7)) ≠ 0 := by omega
                    clear h1010 hz1009
                    refine X.cut [(0, zr g0 19), (1, zi y1), (2, zi 1), (3, zi 1), (4, zi 1), (5, zi 1), (7, zi y7)] i34_168 rfl ?_
                    refine X.iconst 169 i34_168 rfl rfl (by decide) ?_
                    refine X.istore 171 [(0, zr g0 19), (1, zi y1), (2, zi 1), (3, zi 1), (4, zi 1), (5, zi 1), (6, zi 0), (7, zi y7)] i34_169 rfl rfl rfl ?_
                    refine X.iinc 174 [(0, zr g0 19), (1, zi y1), (2, zi 1), (3, zi 1), (4, zi 1), (5, zi 1), (6, zi 0), (7, zi (y7 + 1))] i34_171 rfl rfl rfl (by omega) rfl ?_
                    refine X.goto 16 i34_174 rfl rfl ?_
                    exact ih 1 1 1 1 0 (y7 + 1) (by omega) (by omega) (by omega) (by omega) (by omega) (by omega) (by omega)
                  · have h1010c : (m g0 22 (8 + y7)) = 0 := by omega
                    clear h1010 hz1009
                    refine X.aload_n 150 i34_149 rfl rfl rfl ?_
                    refine X.getR 153 i34_150 rfl rfl (by decide) rfl rfl ?_
                    refine X.bipush 155 i34_153 rfl rfl (by decide) ?_
                    refine X.iload 157 i34_155 rfl rfl rfl ?_
                    refine X.iadd 158 i34_157 rfl rfl (by omega) ?_
                    refine X.lald 159 i34_158 rfl rfl (by decide) rfl (by omega) ?_
                    refine X.lconst (y := 0) 160 i34_159 rfl rfl rfl ?_
                    refine X.lcmp 161 i34_160 rfl rfl (fun z1011 hz1011 => ?_)
                    refine X.ifle 168 164 i34_161 rfl rfl rfl (fun h1012 => ?_) (fun h1012 => ?_)
                    · have h1012c : (m g0 22 (12 + y7)) ≤ 0 := by omega
                      clear h1012 hz1011
                      refine X.cut [(0, zr g0 19), (1, zi y1), (2, zi 1), (3, zi 1), (4, zi 1), (5, zi 1), (7, zi y7)] i34_168 rfl ?_
                      refine X.iconst 169 i34_168 rfl rfl (by decide) ?_
                      refine X.istore 171 [(0, zr g0 19), (1, zi y1), (2, zi 1), (3, zi 1), (4, zi 1), (5, zi 1), (6, zi 0), (7, zi y7)] i34_169 rfl rfl rfl ?_
                      refine X.iinc 174 [(0, zr g0 19), (1, zi y1), (2, zi 1), (3, zi 1), (4, zi 1), (5, zi 1), (6, zi 0), (7, zi (y7 + 1))] i34_171 rfl rfl rfl (by omega) rfl ?_
                      refine X.goto 16 i34_174 rfl rfl ?_
                      exact ih 1 1 1 1 0 (y7 + 1) (by omega) (by omega) (by omega) (by omega) (by omega) (by omega) (by omega)
                    · have h1012c : (m g0 22 (12 + y7)) > 0 := by omega
                      clear h1012 hz1011
                      refine X.cut [(0, zr g0 19), (1, zi y1), (2, zi 1), (3, zi 1), (4, zi 1), (5, zi 1), (7, zi y7)] i34_164 rfl ?_
                      refine X.iconst 165 i34_164 rfl rfl (by decide) ?_
                      refine X.goto 169 i34_165 rfl rfl ?_
                      refine X.istore 171 [(0, zr g0 19), (1, zi y1), (2, zi 1), (3, zi 1), (4, zi 1), (5, zi 1), (6, zi 1), (7, zi y7)] i34_169 rfl rfl rfl ?_
                      refine X.iinc 174 [(0, zr g0 19), (1, zi y1), (2, zi 1), (3, zi 1), (4, zi 1), (5, zi 1), (6, zi 1), (7, zi (y7 + 1))] i34_171 rfl rfl rfl (by omega) rfl ?_
                      refine X.goto 16 i34_174 rfl rfl ?_
                      exact ih 1 1 1 1 1 (y7 + 1) (by omega) (by omega) (by omega) (by omega) (by omega) (by omega) (by omega)
              · refine X.lload 125 i34_123 rfl rfl rfl ?_
                refine X.lconst (y := 0) 126 i34_125 rfl rfl rfl ?_
                refine X.lcmp 127 i34_126 rfl rfl (fun z1013 hz1013 => ?_)
                refine X.ifge 134 130 i34_127 rfl rfl rfl (fun h1014 => ?_) (fun h1014 => ?_)
                · have h1014c : (m g0 22 (0 + y7)) ≥ 0 := by omega
                  clear h1014 hz1013
                  refine X.cut [(0, zr g0 19), (1, zi y1), (2, zi 1), (3, zi 1), (4, zi 1), (6, zi y6), (7, zi y7), (8, zl (m g0 22 (8 + y7)))] i34_134 rfl ?_
                  refine X.iconst 135 i34_134 rfl rfl (by decide) ?_
                  refine X.istore 137 [(0, zr g0 19), (1, zi y1), (2, zi 1), (3, zi 1), (4, zi 1), (5, zi 0), (6, zi y6), (7, zi y7), (8, zl (m g0 22 (8 + y7)))] i34_135 rfl rfl rfl ?_
                  refine X.iload 139 i34_137 rfl rfl rfl ?_
                  refine X.ifne 164 142 i34_139 rfl rfl rfl (fun h1015 => ?_) (fun h1015 => ?_)
                  · refine X.cut [(0, zr g0 19), (1, zi y1), (2, zi 1), (3, zi 1), (4, zi 1), (5, zi 0), (7, zi y7)] i34_164 rfl ?_
                    refine X.iconst 165 i34_164 rfl rfl (by decide) ?_
                    refine X.goto 169 i34_165 rfl rfl ?_
                    refine X.istore 171 [(0, zr g0 19), (1, zi y1), (2, zi 1), (3, zi 1), (4, zi 1), (5, zi 0), (6, zi 1), (7, zi y7)] i34_169 rfl rfl rfl ?_
                    refine X.iinc 174 [(0, zr g0 19), (1, zi y1), (2, zi 1), (3, zi 1), (4, zi 1), (5, zi 0), (6, zi 1), (7, zi (y7 + 1))] i34_171 rfl rfl rfl (by omega) rfl ?_
                    refine X.goto 16 i34_174 rfl rfl ?_
                    exact ih 1 1 1 0 1 (y7 + 1) (by omega) (by omega) (by omega) (by omega) (by omega) (by omega) (by omega)
                  · refine X.lload 144 i34_142 rfl rfl rfl ?_
                    refine X.lconst (y := 0) 145 i34_144 rfl rfl rfl ?_
                    refine X.lcmp 146 i34_145 rfl rfl (fun z1016 hz1016 => ?_)
                    refine X.ifne 168 149 i34_146 rfl rfl rfl (fun h1017 => ?_) (fun h1017 => ?_)
                    · have h1017c : (m g0 22 (8 + y7)) ≠ 0 := by omega
                      clear h1017 hz1016
                      refine X.cut [(0, zr g0 19), (1, zi y1), (2, zi 1), (3, zi 1), (4, zi 1), (5, zi 0), (7, zi y7)] i34_168 rfl ?_
                      refine X.iconst 169 i34_168 rfl rfl (by decide) ?_
                      refine X.istore 171 [(0, zr g0 19), (1, zi y1), (2, zi 1), (3, zi 1), (4, zi 1), (5, zi 0), (6, zi 0), (7, zi y7)] i34_169 rfl rfl rfl ?_
                      refine X.iinc 174 [(0, zr g0 19), (1, zi y1), (2, zi 1), (3, zi 1), (4, zi 1), (5, zi 0), (6, zi 0), (7, zi (y7 + 1))] i34_171 rfl rfl rfl (by omega) rfl ?_
                      refine X.goto 16 i34_174 rfl rfl ?_
                      exact ih 1 1 1 0 0 (y7 + 1) (by omega) (by omega) (by omega) (by omega) (by omega) (by omega) (by omega)
                    · have h1017c : (m g0 22 (8 + y7)) = 0 := by omega
                      clear h1017 hz1016
                      refine X.aload_n 150 i34_149 rfl rfl rfl ?_
                      refine X.getR 153 i34_150 rfl rfl (by decide) rfl rfl ?_
                      refine X.bipush 155 i34_153 rfl rfl (by decide) ?_
                      refine X.iload 157 i34_155 rfl rfl rfl ?_
                      refine X.iadd 158 i34_157 rfl rfl (by omega) ?_
                      refine X.lald 159 i34_158 rfl rfl (by decide) rfl (by omega) ?_
                      refine X.lconst (y := 0) 160 i34_159 rfl rfl rfl ?_
                      refine X.lcmp 161 i34_160 rfl rfl (fun z1018 hz1018 => ?_)
                      refine X.ifle 168 164 i34_161 rfl rfl rfl (fun h1019 => ?_) (fun h1019 => ?_)
                      · have h1019c : (m g0 22 (12 + y7)) ≤ 0 := by omega
                        clear h1019 hz1018
                        refine X.cut [(0, zr g0 19), (1, zi y1), (2, zi 1), (3, zi 1), (4, zi 1), (5, zi 0), (7, zi y7)] i34_168 rfl ?_
                        refine X.iconst 169 i34_168 rfl rfl (by decide) ?_
                        refine X.istore 171 [(0, zr g0 19), (1, zi y1), (2, zi 1), (3, zi 1), (4, zi 1), (5, zi 0), (6, zi 0), (7, zi y7)] i34_169 rfl rfl rfl ?_
                        refine X.iinc 174 [(0, zr g0 19), (1, zi y1), (2, zi 1), (3, zi 1), (4, zi 1), (5, zi 0), (6, zi 0), (7, zi (y7 + 1))] i34_171 rfl rfl rfl (by omega) rfl ?_
                        refine X.goto 16 i34_174 rfl rfl ?_
                        exact ih 1 1 1 0 0 (y7 + 1) (by omega) (by omega) (by omega) (by omega) (by omega) (by omega) (by omega)
                      · have h1019c : (m g0 22 (12 + y7)) > 0 := by omega
                        clear h1019 hz1018
                        refine X.cut [(0, zr g0 19), (1, zi y1), (2, zi 1), (3, zi 1), (4, zi 1), (5, zi 0), (7, zi y7)] i34_164 rfl ?_
                        refine X.iconst 165 i34_164 rfl rfl (by decide) ?_
                        refine X.goto 169 i34_165 rfl rfl ?_
                        refine X.istore 171 [(0, zr g0 19), (1, zi y1), (2, zi 1), (3, zi 1), (4, zi 1), (5, zi 0), (6, zi 1), (7, zi y7)] i34_169 rfl rfl rfl ?_
                        refine X.iinc 174 [(0, zr g0 19), (1, zi y1), (2, zi 1), (3, zi 1), (4, zi 1), (5, zi 0), (6, zi 1), (7, zi (y7 + 1))] i34_171 rfl rfl rfl (by omega) rfl ?_
                        refine X.goto 16 i34_174 rfl rfl ?_
                        exact ih 1 1 1 0 1 (y7 + 1) (by omega) (by omega) (by omega) (by omega) (by omega) (by omega) (by omega)
                · have h1014c : (m g0 22 (0 + y7)) < 0 := by omega
                  clear h1014 hz1013
                  refine X.cut [(0, zr g0 19), (1, zi y1), (2, zi 1), (3, zi 1), (4, zi 1), (6, zi y6), (7, zi y7), (8, zl (m g0 22 (8 + y7)))] i34_130 rfl ?_
                  refine X.iconst 131 i34_130 rfl rfl (by decide) ?_
                  refine X.goto 135 i34_131 rfl rfl ?_
                  refine X.istore 137 [(0, zr g0 19), (1, zi y1), (2, zi 1), (3, zi 1), (4, zi 1), (5, zi 1), (6, zi y6), (7, zi y7), (8, zl (m g0 22 (8 + y7)))] i34_135 rfl rfl rfl ?_
                  refine X.iload 139 i34_137 rfl rfl rfl ?_
                  refine X.ifne 164 142 i34_139 rfl rfl rfl (fun h1020 => ?_) (fun h1020 => ?_)
                  · refine X.cut [(0, zr g0 19), (1, zi y1), (2, zi 1), (3, zi 1), (4, zi 1), (5, zi 1), (7, zi y7)] i34_164 rfl ?_
                    refine X.iconst 165 i34_164 rfl rfl (by decide) ?_
                    refine X.goto 169 i34_165 rfl rfl ?_
                    refine X.istore 171 [(0, zr g0 19), (1, zi y1), (2, zi 1), (3, zi 1), (4, zi 1), (5, zi 1), (6, zi 1), (7, zi y7)] i34_169 rfl rfl rfl ?_
                    refine X.iinc 174 [(0, zr g0 19), (1, zi y1), (2, zi 1), (3, zi 1), (4, zi 1), (5, zi 1), (6, zi 1), (7, zi (y7 + 1))] i34_171 rfl rfl rfl (by omega) rfl ?_
                    refine X.goto 16 i34_174 rfl rfl ?_
                    exact ih 1 1 1 1 1 (y7 + 1) (by omega) (by omega) (by omega) (by omega) (by omega) (by omega) (by omega)
                  · refine X.lload 144 i34_142 rfl rfl rfl ?_
                    refine X.lconst (y := 0) 145 i34_144 rfl rfl rfl ?_
                    refine X.lcmp 146 i34_145 rfl rfl (fun z1021 hz1021 => ?_)
                    refine X.ifne 168 149 i34_146 rfl rfl rfl (fun h1022 => ?_) (fun h1022 => ?_)
                    · have h1022c : (m g0 22 (8 + y7)) ≠ 0 := by omega
                      clear h1022 hz1021
                      refine X.cut [(0, zr g0 19), (1, zi y1), (2, zi 1), (3, zi 1), (4, zi 1), (5, zi 1), (7, zi y7)] i34_168 rfl ?_
                      refine X.iconst 169 i34_168 rfl rfl (by decide) ?_
                      refine X.istore 171 [(0, zr g0 19), (1, zi y1), (2, zi 1), (3, zi 1), (4, zi 1), (5, zi 1), (6, zi 0), (7, zi y7)] i34_169 rfl rfl rfl ?_
                      refine X.iinc 174 [(0, zr g0 19), (1, zi y1), (2, zi 1), (3, zi 1), (4, zi 1), (5, zi 1), (6, zi 0), (7, zi (y7 + 1))] i34_171 rfl rfl rfl (by omega) rfl ?_
                      refine X.goto 16 i34_174 rfl rfl ?_
                      exact ih 1 1 1 1 0 (y7 + 1) (by omega) (by omega) (by omega) (by omega) (by omega) (by omega) (by omega)
                    · have h1022c : (m g0 22 (8 + y7)) = 0 := by omega
                      clear h1022 hz1021
                      refine X.aload_n 150 i34_149 rfl rfl rfl ?_
                      refine X.getR 153 i34_150 rfl rfl (by decide) rfl rfl ?_
                      refine X.bipush 155 i34_153 rfl rfl (by decide) ?_
                      refine X.iload 157 i34_155 rfl rfl rfl ?_
                      refine X.iadd 158 i34_157 rfl rfl (by omega) ?_
                      refine X.lald 159 i34_158 rfl rfl (by decide) rfl (by omega) ?_
                      refine X.lconst (y := 0) 160 i34_159 rfl rfl rfl ?_
                      refine X.lcmp 161 i34_160 rfl rfl (fun z1023 hz1023 => ?_)
                      refine X.ifle 168 164 i34_161 rfl rfl rfl (fun h1024 => ?_) (fun h1024 => ?_)
                      · have h1024c : (m g0 22 (12 + y7)) ≤ 0 := by omega
                        clear h1024 hz1023
                        refine X.cut [(0, zr g0 19), (1, zi y1), (2, zi 1), (3, zi 1), (4, zi 1), (5, zi 1), (7, zi y7)] i34_168 rfl ?_
                        refine X.iconst 169 i34_168 rfl rfl (by decide) ?_
                        refine X.istore 171 [(0, zr g0 19), (1, zi y1), (2, zi 1), (3, zi 1), (4, zi 1), (5, zi 1), (6, zi 0), (7, zi y7)] i34_169 rfl rfl rfl ?_
                        refine X.iinc 174 [(0, zr g0 19), (1, zi y1), (2, zi 1), (3, zi 1), (4, zi 1), (5, zi 1), (6, zi 0), (7, zi (y7 + 1))] i34_171 rfl rfl rfl (by omega) rfl ?_
                        refine X.goto 16 i34_174 rfl rfl ?_
                        exact ih 1 1 1 1 0 (y7 + 1) (by omega) (by omega) (by omega) (by omega) (by omega) (by omega) (by omega)
                      · have h1024c : (m g0 22 (12 + y7)) > 0 := by omega
                        clear h1024 hz1023
                        refine X.cut [(0, zr g0 19), (1, zi y1), (2, zi 1), (3, zi 1), (4, zi 1), (5, zi 1), (7, zi y7)] i34_164 rfl ?_
                        refine X.iconst 165 i34_164 rfl rfl (by decide) ?_
                        refine X.goto 169 i34_165 rfl rfl ?_
                        refine X.istore 171 [(0, zr g0 19), (1, zi y1), (2, zi 1), (3, zi 1), (4, zi 1), (5, zi 1), (6, zi 1), (7, zi y7)] i34_169 rfl rfl rfl ?_
                        refine X.iinc 174 [(0, zr g0 19), (1, zi y1), (2, zi 1), (3, zi 1), (4, zi 1), (5, zi 1), (6, zi 1), (7, zi (y7 + 1))] i34_171 rfl rfl rfl (by omega) rfl ?_
                        refine X.goto 16 i34_174 rfl rfl ?_
                        exact ih 1 1 1 1 1 (y7 + 1) (by omega) (by omega) (by omega) (by omega) (by omega) (by omega) (by omega)
            · refine X.lload 106 i34_104 rfl rfl rfl ?_
              refine X.lconst (y := 0) 107 i34_106 rfl rfl rfl ?_
              refine X.lcmp 108 i34_107 rfl rfl (fun z1025 hz1025 => ?_)
              refine X.ifle 115 111 i34_108 rfl rfl rfl (fun h1026 => ?_) (fun h1026 => ?_)
              · have h1026c : (m g0 22 (0 + y7)) ≤ 0 := by omega
                clear h1026 hz1025
                refine X.cut [(0, zr g0 19), (1, zi y1), (2, zi 1), (3, zi 1), (5, zi y5), (6, zi y6), (7, zi y7), (8, zl (m g0 22 (8 + y7))), (10, zl (m g0 22 (0 + y7)))] i34_115 rfl ?_
                refine X.iconst 116 i34_115 rfl rfl (by decide) ?_
                refine X.istore 118 [(0, zr g0 19), (1, zi y1), (2, zi 1), (3, zi 1), (4, zi 0), (5, zi y5), (6, zi y6), (7, zi y7), (8, zl (m g0 22 (8 + y7))), (10, zl (m g0 22 (0 + y7)))] i34_116 rfl rfl rfl ?_
                refine X.iload 120 i34_118 rfl rfl rfl ?_
                refine X.ifne 130 123 i34_120 rfl rfl rfl (fun h1027 => ?_) (fun h1027 => ?_)
                · refine X.cut [(0, zr g0 19), (1, zi y1), (2, zi 1), (3, zi 1), (4, zi 0), (6, zi y6), (7, zi y7), (8, zl (m g0 22 (8 + y7)))] i34_130 rfl ?_
                  refine X.iconst 131 i34_130 rfl rfl (by decide) ?_
                  refine X.goto 135 i34_131 rfl rfl ?_
                  refine X.istore 137 [(0, zr g0 19), (1, zi y1), (2, zi 1), (3, zi 1), (4, zi 0), (5, zi 1), (6, zi y6), (7, zi y7), (8, zl (m g0 22 (8 + y7)))] i34_135 rfl rfl rfl ?_
                  refine X.iload 139 i34_137 rfl rfl rfl ?_
                  refine X.ifne 164 142 i34_139 rfl rfl rfl (fun h1028 => ?_) (fun h1028 => ?_)
                  · refine X.cut [(0, zr g0 19), (1, zi y1), (2, zi 1), (3, zi 1), (4, zi 0), (5, zi 1), (7, zi y7)] i34_164 rfl ?_
                    refine X.iconst 165 i34_164 rfl rfl (by decide) ?_
                    refine X.goto 169 i34_165 rfl rfl ?_
                    refine X.istore 171 [(0, zr g0 19), (1, zi y1), (2, zi 1), (3, zi 1), (4, zi 0), (5, zi 1), (6, zi 1), (7, zi y7)] i34_169 rfl rfl rfl ?_
                    refine X.iinc 174 [(0, zr g0 19), (1, zi y1), (2, zi 1), (3, zi 1), (4, zi 0), (5, zi 1), (6, zi 1), (7, zi (y7 + 1))] i34_171 rfl rfl rfl (by omega) rfl ?_
                    refine X.goto 16 i34_174 rfl rfl ?_
                    exact ih 1 1 0 1 1 (y7 + 1) (by omega) (by omega) (by omega) (by omega) (by omega) (by omega) (by omega)
                  · refine X.lload 144 i34_142 rfl rfl rfl ?_
                    refine X.lconst (y := 0) 145 i34_144 rfl rfl rfl ?_
                    refine X.lcmp 146 i34_145 rfl rfl (fun z1029 hz1029 => ?_)
                    refine X.ifne 168 149 i34_146 rfl rfl rfl (fun h1030 => ?_) (fun h1030 => ?_)
                    · have h1030c : (m g0 22 (8 + y7)) ≠ 0 := by omega
                      clear h1030 hz1029
                      refine X.cut [(0, zr g0 19), (1, zi y1), (2, zi 1), (3, zi 1), (4, zi 0), (5, zi 1), (7, zi y7)] i34_168 rfl ?_
                      refine X.iconst 169 i34_168 rfl rfl (by decide) ?_
                      refine X.istore 171 [(0, zr g0 19), (1, zi y1), (2, zi 1), (3, zi 1), (4, zi 0), (5, zi 1), (6, zi 0), (7, zi y7)] i34_169 rfl rfl rfl ?_
                      refine X.iinc 174 [(0, zr g0 19), (1, zi y1), (2, zi 1), (3, zi 1), (4, zi 0), (5, zi 1), (6, zi 0), (7, zi (y7 + 1))] i34_171 rfl rfl rfl (by omega) rfl ?_
                      refine X.goto 16 i34_174 rfl rfl ?_
                      exact ih 1 1 0 1 0 (y7 + 1) (by omega) (by omega) (by omega) (by omega) (by omega) (by omega) (by omega)
                    · have h1030c : (m g0 22 (8 + y7)) = 0 := by omega
                      clear h1030 hz1029
                      refine X.aload_n 150 i34_149 rfl rfl rfl ?_
                      refine X.getR 153 i34_150 rfl rfl (by decide) rfl rfl ?_
                      refine X.bipush 155 i34_153 rfl rfl (by decide) ?_
                      refine X.iload 157 i34_155 rfl rfl rfl ?_
                      refine X.iadd 158 i34_157 rfl rfl (by omega) ?_
                      refine X.lald 159 i34_158 rfl rfl (by decide) rfl (by omega) ?_
                      refine X.lconst (y := 0) 160 i34_159 rfl rfl rfl ?_
                      refine X.lcmp 161 i34_160 rfl rfl (fun z1031 hz1031 => ?_)
                      refine X.ifle 168 164 i34_161 rfl rfl rfl (fun h1032 => ?_) (fun h1032 => ?_)
                      · have h1032c : (m g0 22 (12 + y7)) ≤ 0 := by omega
                        clear h1032 hz1031
                        refine X.cut [(0, zr g0 19), (1, zi y1), (2, zi 1), (3, zi 1), (4, zi 0), (5, zi 1), (7, zi y7)] i34_168 rfl ?_
                        refine X.iconst 169 i34_168 rfl rfl (by decide) ?_
                        refine X.istore 171 [(0, zr g0 19), (1, zi y1), (2, zi 1), (3, zi 1), (4, zi 0), (5, zi 1), (6, zi 0), (7, zi y7)] i34_169 rfl rfl rfl ?_
                        refine X.iinc 174 [(0, zr g0 19), (1, zi y1), (2, zi 1), (3, zi 1), (4, zi 0), (5, zi 1), (6, zi 0), (7, zi (y7 + 1))] i34_171 rfl rfl rfl (by omega) rfl ?_
                        refine X.goto 16 i34_174 rfl rfl ?_
                        exact ih 1 1 0 1 0 (y7 + 1) (by omega) (by omega) (by omega) (by omega) (by omega) (by omega) (by omega)
                      · have h1032c : (m g0 22 (12 + y7)) > 0 := by omega
                        clear h1032 hz1031
                        refine X.cut [(0, zr g0 19), (1, zi y1), (2, zi 1), (3, zi 1), (4, zi 0), (5, zi 1), (7, zi y7)] i34_164 rfl ?_
                        refine X.iconst 165 i34_164 rfl rfl (by decide) ?_
                        refine X.goto 169 i34_165 rfl rfl ?_
                        refine X.istore 171 [(0, zr g0 19), (1, zi y1), (2, zi 1), (3, zi 1), (4, zi 0), (5, zi 1), (6, zi 1), (7, zi y7)] i34_169 rfl rfl rfl ?_
                        refine X.iinc 174 [(0, zr g0 19), (1, zi y1), (2, zi 1), (3, zi 1), (4, zi 0), (5, zi 1), (6, zi 1), (7, zi (y7 + 1))] i34_171 rfl rfl rfl (by omega) rfl ?_
                        refine X.goto 16 i34_174 rfl rfl ?_
                        exact ih 1 1 0 1 1 (y7 + 1) (by omega) (by omega) (by omega) (by omega) (by omega) (by omega) (by omega)
                · refine X.lload 125 i34_123 rfl rfl rfl ?_
                  refine X.lconst (y := 0) 126 i34_125 rfl rfl rfl ?_
                  refine X.lcmp 127 i34_126 rfl rfl (fun z1033 hz1033 => ?_)
                  refine X.ifge 134 130 i34_127 rfl rfl rfl (fun h1034 => ?_) (fun h1034 => ?_)
                  · have h1034c : (m g0 22 (0 + y7)) ≥ 0 := by omega
                    clear h1034 hz1033
                    refine X.cut [(0, zr g0 19), (1, zi y1), (2, zi 1), (3, zi 1), (4, zi 0), (6, zi y6), (7, zi y7), (8, zl (m g0 22 (8 + y7)))] i34_134 rfl ?_
                    refine X.iconst 135 i34_134 rfl rfl (by decide) ?_
                    refine X.istore 137 [(0, zr g0 19), (1, zi y1), (2, zi 1), (3, zi 1), (4, zi 0), (5, zi 0), (6, zi y6), (7, zi y7), (8, zl (m g0 22 (8 + y7)))] i34_135 rfl rfl rfl ?_
                    refine X.iload 139 i34_137 rfl rfl rfl ?_
                    refine X.ifne 164 142 i34_139 rfl rfl rfl (fun h1035 => ?_) (fun h1035 => ?_)
                    · refine X.cut [(0, zr g0 19), (1, zi y1), (2, zi 1), (3, zi 1), (4, zi 0), (5, zi 0), (7, zi y7)] i34_164 rfl ?_
                      refine X.iconst 165 i34_164 rfl rfl (by decide) ?_
                      refine X.goto 169 i34_165 rfl rfl ?_
                      refine X.istore 171 [(0, zr g0 19), (1, zi y1), (2, zi 1), (3, zi 1), (4, zi 0), (5, zi 0), (6, zi 1), (7, zi y7)] i34_169 rfl rfl rfl ?_
                      refine X.iinc 174 [(0, zr g0 19), (1, zi y1), (2, zi 1), (3, zi 1), (4, zi 0), (5, zi 0), (6, zi 1), (7, zi (y7 + 1))] i34_171 rfl rfl rfl (by omega) rfl ?_
                      refine X.goto 16 i34_174 rfl rfl ?_
                      exact ih 1 1 0 0 1 (y7 + 1) (by omega) (by omega) (by omega) (by omega) (by omega) (by omega) (by omega)
                    · refine X.lload 144 i34_142 rfl rfl rfl ?_
                      refine X.lconst (y := 0) 145 i34_144 rfl rfl rfl ?_
                      refine X.lcmp 146 i34_145 rfl rfl (fun z1036 hz1036 => ?_)
                      refine X.ifne 168 149 i34_146 rfl rfl rfl (fun h1037 => ?_) (fun h1037 => ?_)
                      · have h1037c : (m g0 22 (8 + y7)) ≠ 0 := by omega
                        clear h1037 hz1036
                        refine X.cut [(0, zr g0 19), (1, zi y1), (2, zi 1), (3, zi 1), (4, zi 0), (5, zi 0), (7, zi y7)] i34_168 rfl ?_
                        refine X.iconst 169 i34_168 rfl rfl (by decide) ?_
                        refine X.istore 171 [(0, zr g0 19), (1, zi y1), (2, zi 1), (3, zi 1), (4, zi 0), (5, zi 0), (6, zi 0), (7, zi y7)] i34_169 rfl rfl rfl ?_
                        refine X.iinc 174 [(0, zr g0 19), (1, zi y1), (2, zi 1), (3, zi 1), (4, zi 0), (5, zi 0), (6, zi 0), (7, zi (y7 + 1))] i34_171 rfl rfl rfl (by omega) rfl ?_
                        refine X.goto 16 i34_174 rfl rfl ?_
                        exact ih 1 1 0 0 0 (y7 + 1) (by omega) (by omega) (by omega) (by omega) (by omega) (by omega) (by omega)
                      · have h1037c : (m g0 22 (8 + y7)) = 0 := by omega
                        clear h1037 hz1036
                        refine X.aload_n 150 i34_149 rfl rfl rfl ?_
                        refine X.getR 153 i34_150 rfl rfl (by decide) rfl rfl ?_
                        refine X.bipush 155 i34_153 rfl rfl (by decide) ?_
                        refine X.iload 157 i34_155 rfl rfl rfl ?_
                        refine X.iadd 158 i34_157 rfl rfl (by omega) ?_
                        refine X.lald 159 i34_158 rfl rfl (by decide) rfl (by omega) ?_
                        refine X.lconst (y := 0) 160 i34_159 rfl rfl rfl ?_
                        refine X.lcmp 161 i34_160 rfl rfl (fun z1038 hz1038 => ?_)
                        refine X.ifle 168 164 i34_161 rfl rfl rfl (fun h1039 => ?_) (fun h1039 => ?_)
                        · have h1039c : (m g0 22 (12 + y7)) ≤ 0 := by omega
                          clear h1039 hz1038
                          refine X.cut [(0, zr g0 19), (1, zi y1), (2, zi 1), (3, zi 1), (4, zi 0), (5, zi 0), (7, zi y7)] i34_168 rfl ?_
                          refine X.iconst 169 i34_168 rfl rfl (by decide) ?_
                          refine X.istore 171 [(0, zr g0 19), (1, zi y1), (2, zi 1), (3, zi 1), (4, zi 0), (5, zi 0), (6, zi 0), (7, zi y7)] i34_169 rfl rfl rfl ?_
                          refine X.iinc 174 [(0, zr g0 19), (1, zi y1), (2, zi 1), (3, zi 1), (4, zi 0), (5, zi 0), (6, zi 0), (7, zi (y7 + 1))] i34_171 rfl rfl rfl (by omega) rfl ?_
                          refine X.goto 16 i34_174 rfl rfl ?_
                          exact ih 1 1 0 0 0 (y7 + 1) (by omega) (by omega) (by omega) (by omega) (by omega) (by omega) (by omega)
                        · have h1039c : (m g0 22 (12 + y7)) > 0 := by omega
                          clear h1039 hz1038
                          refine X.cut [(0, zr g0 19), (1, zi y1), (2, zi 1), (3, zi 1), (4, zi 0), (5, zi 0), (7, zi y7)] i34_164 rfl ?_
                          refine X.iconst 165 i34_164 rfl rfl (by decide) ?_
                          refine X.goto 169 i34_165 rfl rfl ?_
                          refine X.istore 171 [(0, zr g0 19), (1, zi y1), (2, zi 1), (3, zi 1), (4, zi 0), (5, zi 0), (6, zi 1), (7, zi y7)] i34_169 rfl rfl rfl ?_
                          refine X.iinc 174 [(0, zr g0 19), (1, zi y1), (2, zi 1), (3, zi 1), (4, zi 0), (5, zi 0), (6, zi 1), (7, zi (y7 + 1))] i34_171 rfl rfl rfl (by omega) rfl ?_
                          refine X.goto 16 i34_174 rfl rfl ?_
                          exact ih 1 1 0 0 1 (y7 + 1) (by omega) (by omega) (by omega) (by omega) (by omega) (by omega) (by omega)
                  · have h1034c : (m g0 22 (0 + y7)) < 0 := by omega
                    clear h1034 hz1033
                    refine X.cut [(0, zr g0 19), (1, zi y1), (2, zi 1), (3, zi 1), (4, zi 0), (6, zi y6), (7, zi y7), (8, zl (m g0 22 (8 + y7)))] i34_130 rfl ?_
                    refine X.iconst 131 i34_130 rfl rfl (by decide) ?_
                    refine X.goto 135 i34_131 rfl rfl ?_
                    refine X.istore 137 [(0, zr g0 19), (1, zi y1), (2, zi 1), (3, zi 1), (4, zi 0), (5, zi 1), (6, zi y6), (7, zi y7), (8, zl (m g0 22 (8 + y7)))] i34_135 rfl rfl rfl ?_
                    refine X.iload 139 i34_137 rfl rfl rfl ?_
                    refine X.ifne 164 142 i34_139 rfl rfl rfl (fun h1040 => ?_) (fun h1040 => ?_)
                    · refine X.cut [(0, zr g0 19), (1, zi y1), (2, zi 1), (3, zi 1), (4, zi 0), (5, zi 1), (7, zi y7)] i34_164 rfl ?_
                      refine X.iconst 165 i34_164 rfl rfl (by decide) ?_
                      refine X.goto 169 i34_165 rfl rfl ?_
                      refine X.istore 171 [(0, zr g0 19), (1, zi y1), (2, zi 1), (3, zi 1), (4, zi 0), (5, zi 1), (6, zi 1), (7, zi y7)] i34_169 rfl rfl rfl ?_
                      refine X.iinc 174 [(0, zr g0 19), (1, zi y1), (2, zi 1), (3, zi 1), (4, zi 0), (5, zi 1), (6, zi 1), (7, zi (y7 + 1))] i34_171 rfl rfl rfl (by omega) rfl ?_
                      refine X.goto 16 i34_174 rfl rfl ?_
                      exact ih 1 1 0 1 1 (y7 + 1) (by omega) (by omega) (by omega) (by omega) (by omega) (by omega) (by omega)
                    · refine X.lload 144 i34_142 rfl rfl rfl ?_
                      refine X.lconst (y := 0) 145 i34_144 rfl rfl rfl ?_
                      refine X.lcmp 146 i34_145 rfl rfl (fun z1041 hz1041 => ?_)
                      refine X.ifne 168 149 i34_146 rfl rfl rfl (fun h1042 => ?_) (fun h1042 => ?_)
                      · have h1042c : (m g0 22 (8 + y7)) ≠ 0 := by omega
                        clear h1042 hz1041
                        refine X.cut [(0, zr g0 19), (1, zi y1), (2, zi 1), (3, zi 1), (4, zi 0), (5, zi 1), (7, zi y7)] i34_168 rfl ?_
                        refine X.iconst 169 i34_168 rfl rfl (by decide) ?_
                        refine X.istore 171 [(0, zr g0 19), (1, zi y1), (2, zi 1), (3, zi 1), (4, zi 0), (5, zi 1), (6, zi 0), (7, zi y7)] i34_169 rfl rfl rfl ?_
                        refine X.iinc 174 [(0, zr g0 19), (1, zi y1), (2, zi 1), (3, zi 1), (4, zi 0), (5, zi 1), (6, zi 0), (7, zi (y7 + 1))] i34_171 rfl rfl rfl (by omega) rfl ?_
                        refine X.goto 16 i34_174 rfl rfl ?_
                        exact ih 1 1 0 1 0 (y7 + 1) (by omega) (by omega) (by omega) (by omega) (by omega) (by omega) (by omega)
                      · have h1042c : (m g0 22 (8 + y7)) = 0 := by omega
                        clear h1042 hz1041
                        refine X.aload_n 150 i34_149 rfl rfl rfl ?_
                        refine X.getR 153 i34_150 rfl rfl (by decide) rfl rfl ?_
                        refine X.bipush 155 i34_153 rfl rfl (by decide) ?_
                        refine X.iload 157 i34_155 rfl rfl rfl ?_
                        refine X.iadd 158 i34_157 rfl rfl (by omega) ?_
                        refine X.lald 159 i34_158 rfl rfl (by decide) rfl (by omega) ?_
                        refine X.lconst (y := 0) 160 i34_159 rfl rfl rfl ?_
                        refine X.lcmp 161 i34_160 rfl rfl (fun z1043 hz1043 => ?_)
                        refine X.ifle 168 164 i34_161 rfl rfl rfl (fun h1044 => ?_) (fun h1044 => ?_)
                        · have h1044c : (m g0 22 (12 + y7)) ≤ 0 := by omega
                          clear h1044 hz1043
                          refine X.cut [(0, zr g0 19), (1, zi y1), (2, zi 1), (3, zi 1), (4, zi 0), (5, zi 1), (7, zi y7)] i34_168 rfl ?_
                          refine X.iconst 169 i34_168 rfl rfl (by decide) ?_
                          refine X.istore 171 [(0, zr g0 19), (1, zi y1), (2, zi 1), (3, zi 1), (4, zi 0), (5, zi 1), (6, zi 0), (7, zi y7)] i34_169 rfl rfl rfl ?_
                          refine X.iinc 174 [(0, zr g0 19), (1, zi y1), (2, zi 1), (3, zi 1), (4, zi 0), (5, zi 1), (6, zi 0), (7, zi (y7 + 1))] i34_171 rfl rfl rfl (by omega) rfl ?_
                          refine X.goto 16 i34_174 rfl rfl ?_
                          exact ih 1 1 0 1 0 (y7 + 1) (by omega) (by omega) (by omega) (by omega) (by omega) (by omega) (by omega)
                        · have h1044c : (m g0 22 (12 + y7)) > 0 := by omega
                          clear h1044 hz1043
                          refine X.cut [(0, zr g0 19), (1, zi y1), (2, zi 1), (3, zi 1), (4, zi 0), (5, zi 1), (7, zi y7)] i34_164 rfl ?_
                          refine X.iconst 165 i34_164 rfl rfl (by decide) ?_
                          refine X.goto 169 i34_165 rfl rfl ?_
                          refine X.istore 171 [(0, zr g0 19), (1, zi y1), (2, zi 1), (3, zi 1), (4, zi 0), (5, zi 1), (6, zi 1), (7, zi y7)] i34_169 rfl rfl rfl ?_
                          refine X.iinc 174 [(0, zr g0 19), (1, zi y1), (2, zi 1), (3, zi 1), (4, zi 0), (5, zi 1), (6, zi 1), (7, zi (y7 + 1))] i34_171 rfl rfl rfl (by omega) rfl ?_
                          refine X.goto 16 i34_174 rfl rfl ?_
                          exact ih 1 1 0 1 1 (y7 + 1) (by omega) (by omega) (by omega) (by omega) (by omega) (by omega) (by omega)
              · have h1026c : (m g0 22 (0 + y7)) > 0 := by omega
                clear h1026 hz1025
                refine X.cut [(0, zr g0 19), (1, zi y1), (2, zi 1), (3, zi 1), (5, zi y5), (6, zi y6), (7, zi y7), (8, zl (m g0 22 (8 + y7))), (10, zl (m g0 22 (0 + y7)))] i34_111 rfl ?_
                refine X.iconst 112 i34_111 rfl rfl (by decide) ?_
                refine X.goto 116 i34_112 rfl rfl ?_
                refine X.istore 118 [(0, zr g0 19), (1, zi y1), (2, zi 1), (3, zi 1), (4, zi 1), (5, zi y5), (6, zi y6), (7, zi y7), (8, zl (m g0 22 (8 + y7))), (10, zl (m g0 22 (0 + y7)))] i34_116 rfl rfl rfl ?_
                refine X.iload 120 i34_118 rfl rfl rfl ?_
                refine X.ifne 130 123 i34_120 rfl rfl rfl (fun h1045 => ?_) (fun h1045 => ?_)
                · refine X.cut [(0, zr g0 19), (1, zi y1), (2, zi 1), (3, zi 1), (4, zi 1), (6, zi y6), (7, zi y7), (8, zl (m g0 22 (8 + y7)))] i34_130 rfl ?_
                  refine X.iconst 131 i34_130 rfl rfl (by decide) ?_
                  refine X.goto 135 i34_131 rfl rfl ?_
                  refine X.istore 137 [(0, zr g0 19), (1, zi y1), (2, zi 1), (3, zi 1), (4, zi 1), (5, zi 1), (6, zi y6), (7, zi y7), (8, zl (m g0 22 (8 + y7)))] i34_135 rfl rfl rfl ?_
                  refine X.iload 139 i34_137 rfl rfl rfl ?_
                  refine X.ifne 164 142 i34_139 rfl rfl rfl (fun h1046 => ?_) (fun h1046 => ?_)
                  · refine X.cut [(0, zr g0 19), (1, zi y1), (2, zi 1), (3, zi 1), (4, zi 1), (5, zi 1), (7, zi y7)] i34_164 rfl ?_
                    refine X.iconst 165 i34_164 rfl rfl (by decide) ?_
                    refine X.goto 169 i34_165 rfl rfl ?_
                    refine X.istore 171 [(0, zr g0 19), (1, zi y1), (2, zi 1), (3, zi 1), (4, zi 1), (5, zi 1), (6, zi 1), (7, zi y7)] i34_169 rfl rfl rfl ?_
                    refine X.iinc 174 [(0, zr g0 19), (1, zi y1), (2, zi 1), (3, zi 1), (4, zi 1), (5, zi 1), (6, zi 1), (7, zi (y7 + 1))] i34_171 rfl rfl rfl (by omega) rfl ?_
                    refine X.goto 16 i34_174 rfl rfl ?_
                    exact ih 1 1 1 1 1 (y7 + 1) (by omega) (by omega) (by omega) (by omega) (by omega) (by omega) (by omega)
                  · refine X.lload 144 i34_142 rfl rfl rfl ?_
                    refine X.lconst (y := 0) 145 i34_144 rfl rfl rfl ?_
                    refine X.lcmp 146 i34_145 rfl rfl (fun z1047 hz1047 => ?_)
                    refine X.ifne 168 149 i34_146 rfl rfl rfl (fun h1048 => ?_) (fun h1048 => ?_)
                    · have h1048c : (m g0 22 (8 + y7)) ≠ 0 := by omega
                      clear h1048 hz1047
                      refine X.cut [(0, zr g0 19), (1, zi y1), (2, zi 1), (3, zi 1), (4, zi 1), (5, zi 1), (7, zi y7)] i34_168 rfl ?_
                      refine X.iconst 169 i34_168 rfl rfl (by decide) ?_
                      refine X.istore 171 [(0, zr g0 19), (1, zi y1), (2, zi 1), (3, zi 1), (4, zi 1), (5, zi 1), (6, zi 0), (7, zi y7)] i34_169 rfl rfl rfl ?_
                      refine X.iinc 174 [(0, zr g0 19), (1, zi y1), (2, zi 1), (3, zi 1), (4, zi 1), (5, zi 1), (6, zi 0), (7, zi (y7 + 1))] i34_171 rfl rfl rfl (by omega) rfl ?_
                      refine X.goto 16 i34_174 rfl rfl ?_
                      exact ih 1 1 1 1 0 (y7 + 1) (by omega) (by omega) (by omega) (by omega) (by omega) (by omega) (by omega)
                    · have h1048c : (m g0 22 (8 + y7)) = 0 := by omega
                      clear h1048 hz1047
                      refine X.aload_n 150 i34_149 rfl rfl rfl ?_
                      refine X.getR 153 i34_150 rfl rfl (by decide) rfl rfl ?_
                      refine X.bipush 155 i34_153 rfl rfl (by decide) ?_
                      refine X.iload 157 i34_155 rfl rfl rfl ?_
                      refine X.iadd 158 i34_157 rfl rfl (by omega) ?_
                      refine X.lald 159 i34_158 rfl rfl (by decide) rfl (by omega) ?_
                      refine X.lconst (y := 0) 160 i34_159 rfl rfl rfl ?_
                      refine X.lcmp 161 i34_160 rfl rfl (fun z1049 hz1049 => ?_)
                      refine X.ifle 168 164 i34_161 rfl rfl rfl (fun h1050 => ?_) (fun h1050 => ?_)
                      · have h1050c : (m g0 22 (12 + y7)) ≤ 0 := by omega
                        clear h1050 hz1049
                        refine X.cut [(0, zr g0 19), (1, zi y1), (2, zi 1), (3, zi 1), (4, zi 1), (5, zi 1), (7, zi y7)] i34_168 rfl ?_
                        refine X.iconst 169 i34_168 rfl rfl (by decide) ?_
                        refine X.istore 171 [(0, zr g0 19), (1, zi y1), (2, zi 1), (3, zi 1), (4, zi 1), (5, zi 1), (6, zi 0), (7, zi y7)] i34_169 rfl rfl rfl ?_
                        refine X.iinc 174 [(0, zr g0 19), (1, zi y1), (2, zi 1), (3, zi 1), (4, zi 1), (5, zi 1), (6, zi 0), (7, zi (y7 + 1))] i34_171 rfl rfl rfl (by omega) rfl ?_
                        refine X.goto 16 i34_174 rfl rfl ?_
                        exact ih 1 1 1 1 0 (y7 + 1) (by omega) (by omega) (by omega) (by omega) (by omega) (by omega) (by omega)
                      · have h1050c : (m g0 22 (12 + y7)) > 0 := by omega
                        clear h1050 hz1049
                        refine X.cut [(0, zr g0 19), (1, zi y1), (2, zi 1), (3, zi 1), (4, zi 1), (5, zi 1), (7, zi y7)] i34_164 rfl ?_
                        refine X.iconst 165 i34_164 rfl rfl (by decide) ?_
                        refine X.goto 169 i34_165 rfl rfl ?_
                        refine X.istore 171 [(0, zr g0 19), (1, zi y1), (2, zi 1), (3, zi 1), (4, zi 1), (5, zi 1), (6, zi 1), (7, zi y7)] i34_169 rfl rfl rfl ?_
                        refine X.iinc 174 [(0, zr g0 19), (1, zi y1), (2, zi 1), (3, zi 1), (4, zi 1), (5, zi 1), (6, zi 1), (7, zi (y7 + 1))] i34_171 rfl rfl rfl (by omega) rfl ?_
                        refine X.goto 16 i34_174 rfl rfl ?_
                        exact ih 1 1 1 1 1 (y7 + 1) (by omega) (by omega) (by omega) (by omega) (by omega) (by omega) (by omega)
                · refine X.lload 125 i34_123 rfl rfl rfl ?_
                  refine X.lconst (y := 0) 126 i34_125 rfl rfl rfl ?_
                  refine X.lcmp 127 i34_126 rfl rfl (fun z1051 hz1051 => ?_)
                  refine X.ifge 134 130 i34_127 rfl rfl rfl (fun h1052 => ?_) (fun h1052 => (by exfalso; omega))
                  have h1052c : (m g0 22 (0 + y7)) ≥ 0 := by omega
                  clear h1052 hz1051
                  refine X.cut [(0, zr g0 19), (1, zi y1), (2, zi 1), (3, zi 1), (4, zi 1), (6, zi y6), (7, zi y7), (8, zl (m g0 22 (8 + y7)))] i34_134 rfl ?_
                  refine X.iconst 135 i34_134 rfl rfl (by decide) ?_
                  refine X.istore 137 [(0, zr g0 19), (1, zi y1), (2, zi 1), (3, zi 1), (4, zi 1), (5, zi 0), (6, zi y6), (7, zi y7), (8, zl (m g0 22 (8 + y7)))] i34_135 rfl rfl rfl ?_
                  refine X.iload 139 i34_137 rfl rfl rfl ?_
                  refine X.ifne 164 142 i34_139 rfl rfl rfl (fun h1053 => ?_) (fun h1053 => ?_)
                  · refine X.cut [(0, zr g0 19), (1, zi y1), (2, zi 1), (3, zi 1), (4, zi 1), (5, zi 0), (7, zi y7)] i34_164 rfl ?_
                    refine X.iconst 165 i34_164 rfl rfl (by decide) ?_
                    refine X.goto 169 i34_165 rfl rfl ?_
                    refine X.istore 171 [(0, zr g0 19), (1, zi y1), (2, zi 1), (3, zi 1), (4, zi 1), (5, zi 0), (6, zi 1), (7, zi y7)] i34_169 rfl rfl rfl ?_
                    refine X.iinc 174 [(0, zr g0 19), (1, zi y1), (2, zi 1), (3, zi 1), (4, zi 1), (5, zi 0), (6, zi 1), (7, zi (y7 + 1))] i34_171 rfl rfl rfl (by omega) rfl ?_
                    refine X.goto 16 i34_174 rfl rfl ?_
                    exact ih 1 1 1 0 1 (y7 + 1) (by omega) (by omega) (by omega) (by omega) (by omega) (by omega) (by omega)
                  · refine X.lload 144 i34_142 rfl rfl rfl ?_
                    refine X.lconst (y := 0) 145 i34_144 rfl rfl rfl ?_
                    refine X.lcmp 146 i34_145 rfl rfl (fun z1054 hz1054 => ?_)
                    refine X.ifne 168 149 i34_146 rfl rfl rfl (fun h1055 => ?_) (fun h1055 => ?_)
                    · have h1055c : (m g0 22 (8 + y7)) ≠ 0 := by omega
                      clear h1055 hz1054
                      refine X.cut [(0, zr g0 19), (1, zi y1), (2, zi 1), (3, zi 1), (4, zi 1), (5, zi 0), (7, zi y7)] i34_168 rfl ?_
                      refine X.iconst 169 i34_168 rfl rfl (by decide) ?_
                      refine X.istore 171 [(0, zr g0 19), (1, zi y1), (2, zi 1), (3, zi 1), (4, zi 1), (5, zi 0), (6, zi 0), (7, zi y7)] i34_169 rfl rfl rfl ?_
                      refine X.iinc 174 [(0, zr g0 19), (1, zi y1), (2, zi 1), (3, zi 1), (4, zi 1), (5, zi 0), (6, zi 0), (7, zi (y7 + 1))] i34_171 rfl rfl rfl (by omega) rfl ?_
                      refine X.goto 16 i34_174 rfl rfl ?_
                      exact ih 1 1 1 0 0 (y7 + 1) (by omega) (by omega) (by omega) (by omega) (by omega) (by omega) (by omega)
                    · have h1055c : (m g0 22 (8 + y7)) = 0 := by omega
                      clear h1055 hz1054
                      refine X.aload_n 150 i34_149 rfl rfl rfl ?_
                      refine X.getR 153 i34_150 rfl rfl (by decide) rfl rfl ?_
                      refine X.bipush 155 i34_153 rfl rfl (by decide) ?_
                      refine X.iload 157 i34_155 rfl rfl rfl ?_
                      refine X.iadd 158 i34_157 rfl rfl (by omega) ?_
                      refine X.lald 159 i34_158 rfl rfl (by decide) rfl (by omega) ?_
                      refine X.lconst (y := 0) 160 i34_159 rfl rfl rfl ?_
                      refine X.lcmp 161 i34_160 rfl rfl (fun z1056 hz1056 => ?_)
                      refine X.ifle 168 164 i34_161 rfl rfl rfl (fun h1057 => ?_) (fun h1057 => ?_)
                      · have h1057c : (m g0 22 (12 + y7)) ≤ 0 := by omega
                        clear h1057 hz1056
                        refine X.cut [(0, zr g0 19), (1, zi y1), (2, zi 1), (3, zi 1), (4, zi 1), (5, zi 0), (7, zi y7)] i34_168 rfl ?_
                        refine X.iconst 169 i34_168 rfl rfl (by decide) ?_
                        refine X.istore 171 [(0, zr g0 19), (1, zi y1), (2, zi 1), (3, zi 1), (4, zi 1), (5, zi 0), (6, zi 0), (7, zi y7)] i34_169 rfl rfl rfl ?_
                        refine X.iinc 174 [(0, zr g0 19), (1, zi y1), (2, zi 1), (3, zi 1), (4, zi 1), (5, zi 0), (6, zi 0), (7, zi (y7 + 1))] i34_171 rfl rfl rfl (by omega) rfl ?_
                        refine X.goto 16 i34_174 rfl rfl ?_
                        exact ih 1 1 1 0 0 (y7 + 1) (by omega) (by omega) (by omega) (by omega) (by omega) (by omega) (by omega)
                      · have h1057c : (m g0 22 (12 + y7)) > 0 := by omega
                        clear h1057 hz1056
                        refine X.cut [(0, zr g0 19), (1, zi y1), (2, zi 1), (3, zi 1), (4, zi 1), (5, zi 0), (7, zi y7)] i34_164 rfl ?_
                        refine X.iconst 165 i34_164 rfl rfl (by decide) ?_
                        refine X.goto 169 i34_165 rfl rfl ?_
                        refine X.istore 171 [(0, zr g0 19), (1, zi y1), (2, zi 1), (3, zi 1), (4, zi 1), (5, zi 0), (6, zi 1), (7, zi y7)] i34_169 rfl rfl rfl ?_
                        refine X.iinc 174 [(0, zr g0 19), (1, zi y1), (2, zi 1), (3, zi 1), (4, zi 1), (5, zi 0), (6, zi 1), (7, zi (y7 + 1))] i34_171 rfl rfl rfl (by omega) rfl ?_
                        refine X.goto 16 i34_174 rfl rfl ?_
                        exact ih 1 1 1 0 1 (y7 + 1) (by omega) (by omega) (by omega) (by omega) (by omega) (by omega) (by omega)
          · refine X.iload 90 i34_88 rfl rfl rfl ?_
            refine X.ifne 97 93 i34_90 rfl rfl rfl (fun h1058 => (by exfalso; omega)) (fun h1058 => ?_)
            refine X.cut [(0, zr g0 19), (1, zi y1), (2, zi 1), (4, zi y4), (5, zi y5), (6, zi y6), (7, zi y7), (8, zl (m g0 22 (8 + y7))), (10, zl (m g0 22 (0 + y7)))] i34_93 rfl ?_
            refine X.iconst 94 i34_93 rfl rfl (by decide) ?_
            refine X.goto 98 i34_94 rfl rfl ?_
            refine X.istore_n 99 [(0, zr g0 19), (1, zi y1), (2, zi 1), (3, zi 1), (4, zi y4), (5, zi y5), (6, zi y6), (7, zi y7), (8, zl (m g0 22 (8 + y7))), (10, zl (m g0 22 (0 + y7)))] i34_98 rfl rfl rfl ?_
            refine X.iload 101 i34_99 rfl rfl rfl ?_
            refine X.ifne 111 104 i34_101 rfl rfl rfl (fun h1059 => ?_) (fun h1059 => ?_)
            · refine X.cut [(0, zr g0 19), (1, zi y1), (2, zi 1), (3, zi 1), (5, zi y5), (6, zi y6), (7, zi y7), (8, zl (m g0 22 (8 + y7))), (10, zl (m g0 22 (0 + y7)))] i34_111 rfl ?_
              refine X.iconst 112 i34_111 rfl rfl (by decide) ?_
              refine X.goto 116 i34_112 rfl rfl ?_
              refine X.istore 118 [(0, zr g0 19), (1, zi y1), (2, zi 1), (3, zi 1), (4, zi 1), (5, zi y5), (6, zi y6), (7, zi y7), (8, zl (m g0 22 (8 + y7))), (10, zl (m g0 22 (0 + y7)))] i34_116 rfl rfl rfl ?_
              refine X.iload 120 i34_118 rfl rfl rfl ?_
              refine X.ifne 130 123 i34_120 rfl rfl rfl (fun h1060 => ?_) (fun h1060 => ?_)
              · refine X.cut [(0, zr g0 19), (1, zi y1), (2, zi 1), (3, zi 1), (4, zi 1), (6, zi y6), (7, zi y7), (8, zl (m g0 22 (8 + y7)))] i34_130 rfl ?_
                refine X.iconst 131 i34_130 rfl rfl (by decide) ?_
                refine X.goto 135 i34_131 rfl rfl ?_
                refine X.istore 137 [(0, zr g0 19), (1, zi y1), (2, zi 1), (3, zi 1), (4, zi 1), (5, zi 1), (6, zi y6), (7, zi y7), (8, zl (m g0 22 (8 + y7)))] i34_135 rfl rfl rfl ?_
                refine X.iload 139 i34_137 rfl rfl rfl ?_
                refine X.ifne 164 142 i34_139 rfl rfl rfl (fun h1061 => ?_) (fun h1061 => ?_)
                · refine X.cut [(0, zr g0 19), (1, zi y1), (2, zi 1), (3, zi 1), (4, zi 1), (5, zi 1), (7, zi y7)] i34_164 rfl ?_
                  refine X.iconst 165 i34_164 rfl rfl (by decide) ?_
                  refine X.goto 169 i34_165 rfl rfl ?_
                  refine X.istore 171 [(0, zr g0 19), (1, zi y1), (2, zi 1), (3, zi 1), (4, zi 1), (5, zi 1), (6, zi 1), (7, zi y7)] i34_169 rfl rfl rfl ?_
                  refine X.iinc 174 [(0, zr g0 19), (1, zi y1), (2, zi 1), (3, zi 1), (4, zi 1), (5, zi 1), (6, zi 1), (7, zi (y7 + 1))] i34_171 rfl rfl rfl (by omega) rfl ?_
                  refine X.goto 16 i34_174 rfl rfl ?_
                  exact ih 1 1 1 1 1 (y7 + 1) (by omega) (by omega) (by omega) (by omega) (by omega) (by omega) (by omega)
                · refine X.lload 144 i34_142 rfl rfl rfl ?_
                  refine X.lconst (y := 0) 145 i34_144 rfl rfl rfl ?_
                  refine X.lcmp 146 i34_145 rfl rfl (fun z1062 hz1062 => ?_)
                  refine X.ifne 168 149 i34_146 rfl rfl rfl (fun h1063 => ?_) (fun h1063 => ?_)
                  · have h1063c : (m g0 22 (8 + y7)) ≠ 0 := by omega
                    clear h1063 hz1062
                    refine X.cut [(0, zr g0 19), (1, zi y1), (2, zi 1), (3, zi 1), (4, zi 1), (5, zi 1), (7, zi y7)] i34_168 rfl ?_
                    refine X.iconst 169 i34_168 rfl rfl (by decide) ?_
                    refine X.istore 171 [(0, zr g0 19), (1, zi y1), (2, zi 1), (3, zi 1), (4, zi 1), (5, zi 1), (6, zi 0), (7, zi y7)] i34_169 rfl rfl rfl ?_
                    refine X.iinc 174 [(0, zr g0 19), (1, zi y1), (2, zi 1), (3, zi 1), (4, zi 1), (5, zi 1), (6, zi 0), (7, zi (y7 + 1))] i34_171 rfl rfl rfl (by omega) rfl ?_
                    refine X.goto 16 i34_174 rfl rfl ?_
                    exact ih 1 1 1 1 0 (y7 + 1) (by omega) (by omega) (by omega) (by omega) (by omega) (by omega) (by omega)
                  · have h1063c : (m g0 22 (8 + y7)) = 0 := by omega
                    clear h1063 hz1062
                    refine X.aload_n 150 i34_149 rfl rfl rfl ?_
                    refine X.getR 153 i34_150 rfl rfl (by decide) rfl rfl ?_
                    refine X.bipush 155 i34_153 rfl rfl (by decide) ?_
                    refine X.iload 157 i34_155 rfl rfl rfl ?_
                    refine X.iadd 158 i34_157 rfl rfl (by omega) ?_
                    refine X.lald 159 i34_158 rfl rfl (by decide) rfl (by omega) ?_
                    refine X.lconst (y := 0) 160 i34_159 rfl rfl rfl ?_
                    refine X.lcmp 161 i34_160 rfl rfl (fun z1064 hz1064 => ?_)
                    refine X.ifle 168 164 i34_161 rfl rfl rfl (fun h1065 => ?_) (fun h1065 => ?_)
                    · have h1065c : (m g0 22 (12 + y7)) ≤ 0 := by omega
                      clear h1065 hz1064
                      refine X.cut [(0, zr g0 19), (1, zi y1), (2, zi 1), (3, zi 1), (4, zi 1), (5, zi 1), (7, zi y7)] i34_168 rfl ?_
                      refine X.iconst 169 i34_168 rfl rfl (by decide) ?_
                      refine X.istore 171 [(0, zr g0 19), (1, zi y1), (2, zi 1), (3, zi 1), (4, zi 1), (5, zi 1), (6, zi 0), (7, zi y7)] i34_169 rfl rfl rfl ?_
                      refine X.iinc 174 [(0, zr g0 19), (1, zi y1), (2, zi 1), (3, zi 1), (4, zi 1), (5, zi 1), (6, zi 0), (7, zi (y7 + 1))] i34_171 rfl rfl rfl (by omega) rfl ?_
                      refine X.goto 16 i34_174 rfl rfl ?_
                      exact ih 1 1 1 1 0 (y7 + 1) (by omega) (by omega) (by omega) (by omega) (by omega) (by omega) (by omega)
                    · have h1065c : (m g0 22 (12 + y7)) > 0 := by omega
                      clear h1065 hz1064
                      refine X.cut [(0, zr g0 19), (1, zi y1), (2, zi 1), (3, zi 1), (4, zi 1), (5, zi 1), (7, zi y7)] i34_164 rfl ?_
                      refine X.iconst 165 i34_164 rfl rfl (by decide) ?_
                      refine X.goto 169 i34_165 rfl rfl ?_
                      refine X.istore 171 [(0, zr g0 19), (1, zi y1), (2, zi 1), (3, zi 1), (4, zi 1), (5, zi 1), (6, zi 1), (7, zi y7)] i34_169 rfl rfl rfl ?_
                      refine X.iinc 174 [(0, zr g0 19), (1, zi y1), (2, zi 1), (3, zi 1), (4, zi 1), (5, zi 1), (6, zi 1), (7, zi (y7 + 1))] i34_171 rfl rfl rfl (by omega) rfl ?_
                      refine X.goto 16 i34_174 rfl rfl ?_
                      exact ih 1 1 1 1 1 (y7 + 1) (by omega) (by omega) (by omega) (by omega) (by omega) (by omega) (by omega)
              · refine X.lload 125 i34_123 rfl rfl rfl ?_
                refine X.lconst (y := 0) 126 i34_125 rfl rfl rfl ?_
                refine X.lcmp 127 i34_126 rfl rfl (fun z1066 hz1066 => ?_)
                refine X.ifge 134 130 i34_127 rfl rfl rfl (fun h1067 => ?_) (fun h1067 => ?_)
                · have h1067c : (m g0 22 (0 + y7)) ≥ 0 := by omega
                  clear h1067 hz1066
                  refine X.cut [(0, zr g0 19), (1, zi y1), (2, zi 1), (3, zi 1), (4, zi 1), (6, zi y6), (7, zi y7), (8, zl (m g0 22 (8 + y7)))] i34_134 rfl ?_
                  refine X.iconst 135 i34_134 rfl rfl (by decide) ?_
                  refine X.istore 137 [(0, zr g0 19), (1, zi y1), (2, zi 1), (3, zi 1), (4, zi 1), (5, zi 0), (6, zi y6), (7, zi y7), (8, zl (m g0 22 (8 + y7)))] i34_135 rfl rfl rfl ?_
                  refine X.iload 139 i34_137 rfl rfl rfl ?_
                  refine X.ifne 164 142 i34_139 rfl rfl rfl (fun h1068 => ?_) (fun h1068 => ?_)
                  · refine X.cut [(0, zr g0 19), (1, zi y1), (2, zi 1), (3, zi 1), (4, zi 1), (5, zi 0), (7, zi y7)] i34_164 rfl ?_
                    refine X.iconst 165 i34_164 rfl rfl (by decide) ?_
                    refine X.goto 169 i34_165 rfl rfl ?_
                    refine X.istore 171 [(0, zr g0 19), (1, zi y1), (2, zi 1), (3, zi 1), (4, zi 1), (5, zi 0), (6, zi 1), (7, zi y7)] i34_169 rfl rfl rfl ?_
                    refine X.iinc 174 [(0, zr g0 19), (1, zi y1), (2, zi 1), (3, zi 1), (4, zi 1), (5, zi 0), (6, zi 1), (7, zi (y7 + 1))] i34_171 rfl rfl rfl (by omega) rfl ?_
                    refine X.goto 16 i34_174 rfl rfl ?_
                    exact ih 1 1 1 0 1 (y7 + 1) (by omega) (by omega) (by omega) (by omega) (by omega) (by omega) (by omega)
                  · refine X.lload 144 i34_142 rfl rfl rfl ?_
                    refine X.lconst (y := 0) 145 i34_144 rfl rfl rfl ?_
                    refine X.lcmp 146 i34_145 rfl rfl (fun z1069 hz1069 => ?_)
                    refine X.ifne 168 149 i34_146 rfl rfl rfl (fun h1070 => ?_) (fun h1070 => ?_)
                    · have h1070c : (m g0 22 (8 + y7)) ≠ 0 := by omega
                      clear h1070 hz1069
                      refine X.cut [(0, zr g0 19), (1, zi y1), (2, zi 1), (3, zi 1), (4, zi 1), (5, zi 0), (7, zi y7)] i34_168 rfl ?_
                      refine X.iconst 169 i34_168 rfl rfl (by decide) ?_
                      refine X.istore 171 [(0, zr g0 19), (1, zi y1), (2, zi 1), (3, zi 1), (4, zi 1), (5, zi 0), (6, zi 0), (7, zi y7)] i34_169 rfl rfl rfl ?_
                      refine X.iinc 174 [(0, zr g0 19), (1, zi y1), (2, zi 1), (3, zi 1), (4, zi 1), (5, zi 0), (6, zi 0), (7, zi (y7 + 1))] i34_171 rfl rfl rfl (by omega) rfl ?_
                      refine X.goto 16 i34_174 rfl rfl ?_
                      exact ih 1 1 1 0 0 (y7 + 1) (by omega) (by omega) (by omega) (by omega) (by omega) (by omega) (by omega)
                    · have h1070c : (m g0 22 (8 + y7)) = 0 := by omega
                      clear h1070 hz1069
                      refine X.aload_n 150 i34_149 rfl rfl rfl ?_
                      refine X.getR 153 i34_150 rfl rfl (by decide) rfl rfl ?_
                      refine X.bipush 155 i34_153 rfl rfl (by decide) ?_
                      refine X.iload 157 i34_155 rfl rfl rfl ?_
                      refine X.iadd 158 i34_157 rfl rfl (by omega) ?_
                      refine X.lald 159 i34_158 rfl rfl (by decide) rfl (by omega) ?_
                      refine X.lconst (y := 0) 160 i34_159 rfl rfl rfl ?_
                      refine X.lcmp 161 i34_160 rfl rfl (fun z1071 hz1071 => ?_)
                      refine X.ifle 168 164 i34_161 rfl rfl rfl (fun h1072 => ?_) (fun h1072 => ?_)
                      · have h1072c : (m g0 22 (12 + y7)) ≤ 0 := by omega
                        clear h1072 hz1071
                        refine X.cut [(0, zr g0 19), (1, zi y1), (2, zi 1), (3, zi 1), (4, zi 1), (5, zi 0), (7, zi y7)] i34_168 rfl ?_
                        refine X.iconst 169 i34_168 rfl rfl (by decide) ?_
                        refine X.istore 171 [(0, zr g0 19), (1, zi y1), (2, zi 1), (3, zi 1), (4, zi 1), (5, zi 0), (6, zi 0), (7, zi y7)] i34_169 rfl rfl rfl ?_
                        refine X.iinc 174 [(0, zr g0 19), (1, zi y1), (2, zi 1), (3, zi 1), (4, zi 1), (5, zi 0), (6, zi 0), (7, zi (y7 + 1))] i34_171 rfl rfl rfl (by omega) rfl ?_
                        refine X.goto 16 i34_174 rfl rfl ?_
                        exact ih 1 1 1 0 0 (y7 + 1) (by omega) (by omega) (by omega) (by omega) (by omega) (by omega) (by omega)
                      · have h1072c : (m g0 22 (12 + y7)) > 0 := by omega
                        clear h1072 hz1071
                        refine X.cut [(0, zr g0 19), (1, zi y1), (2, zi 1), (3, zi 1), (4, zi 1), (5, zi 0), (7, zi y7)] i34_164 rfl ?_
                        refine X.iconst 165 i34_164 rfl rfl (by decide) ?_
                        refine X.goto 169 i34_165 rfl rfl ?_
                        refine X.istore 171 [(0, zr g0 19), (1, zi y1), (2, zi 1), (3, zi 1), (4, zi 1), (5, zi 0), (6, zi 1), (7, zi y7)] i34_169 rfl rfl rfl ?_
                        refine X.iinc 174 [(0, zr g0 19), (1, zi y1), (2, zi 1), (3, zi 1), (4, zi 1), (5, zi 0), (6, zi 1), (7, zi (y7 + 1))] i34_171 rfl rfl rfl (by omega) rfl ?_
                        refine X.goto 16 i34_174 rfl rfl ?_
                        exact ih 1 1 1 0 1 (y7 + 1) (by omega) (by omega) (by omega) (by omega) (by omega) (by omega) (by omega)
                · have h1067c : (m g0 22 (0 + y7)) < 0 := by omega
                  clear h1067 hz1066
                  refine X.cut [(0, zr g0 19), (1, zi y1), (2, zi 1), (3, zi 1), (4, zi 1), (6, zi y6), (7, zi y7), (8, zl (m g0 22 (8 + y7)))] i34_130 rfl ?_
                  refine X.iconst 131 i34_130 rfl rfl (by decide) ?_
                  refine X.goto 135 i34_131 rfl rfl ?_
                  refine X.istore 137 [(0, zr g0 19), (1, zi y1), (2, zi 1), (3, zi 1), (4, zi 1), (5, zi 1), (6, zi y6), (7, zi y7), (8, zl (m g0 22 (8 + y7)))] i34_135 rfl rfl rfl ?_
                  refine X.iload 139 i34_137 rfl rfl rfl ?_
                  refine X.ifne 164 142 i34_139 rfl rfl rfl (fun h1073 => ?_) (fun h1073 => ?_)
                  · refine X.cut [(0, zr g0 19), (1, zi y1), (2, zi 1), (3, zi 1), (4, zi 1), (5, zi 1), (7, zi y7)] i34_164 rfl ?_
                    refine X.iconst 165 i34_164 rfl rfl (by decide) ?_
                    refine X.goto 169 i34_165 rfl rfl ?_
                    refine X.istore 171 [(0, zr g0 19), (1, zi y1), (2, zi 1), (3, zi 1), (4, zi 1), (5, zi 1), (6, zi 1), (7, zi y7)] i34_169 rfl rfl rfl ?_
                    refine X.iinc 174 [(0, zr g0 19), (1, zi y1), (2, zi 1), (3, zi 1), (4, zi 1), (5, zi 1), (6, zi 1), (7, zi (y7 + 1))] i34_171 rfl rfl rfl (by omega) rfl ?_
                    refine X.goto 16 i34_174 rfl rfl ?_
                    exact ih 1 1 1 1 1 (y7 + 1) (by omega) (by omega) (by omega) (by omega) (by omega) (by omega) (by omega)
                  · refine X.lload 144 i34_142 rfl rfl rfl ?_
                    refine X.lconst (y := 0) 145 i34_144 rfl rfl rfl ?_
                    refine X.lcmp 146 i34_145 rfl rfl (fun z1074 hz1074 => ?_)
                    refine X.ifne 168 149 i34_146 rfl rfl rfl (fun h1075 => ?_) (fun h1075 => ?_)
                    · have h1075c : (m g0 22 (8 + y7)) ≠ 0 := by omega
                      clear h1075 hz1074
                      refine X.cut [(0, zr g0 19), (1, zi y1), (2, zi 1), (3, zi 1), (4, zi 1), (5, zi 1), (7, zi y7)] i34_168 rfl ?_
                      refine X.iconst 169 i34_168 rfl rfl (by decide) ?_
                      refine X.istore 171 [(0, zr g0 19), (1, zi y1), (2, zi 1), (3, zi 1), (4, zi 1), (5, zi 1), (6, zi 0), (7, zi y7)] i34_169 rfl rfl rfl ?_
                      refine X.iinc 174 [(0, zr g0 19), (1, zi y1), (2, zi 1), (3, zi 1), (4, zi 1), (5, zi 1), (6, zi 0), (7, zi (y7 + 1))] i34_171 rfl rfl rfl (by omega) rfl ?_
                      refine X.goto 16 i34_174 rfl rfl ?_
                      exact ih 1 1 1 1 0 (y7 + 1) (by omega) (by omega) (by omega) (by omega) (by omega) (by omega) (by omega)
                    · have h1075c : (m g0 22 (8 + y7)) = 0 := by omega
                      clear h1075 hz1074
                      refine X.aload_n 150 i34_149 rfl rfl rfl ?_
                      refine X.getR 153 i34_150 rfl rfl (by decide) rfl rfl ?_
                      refine X.bipush 155 i34_153 rfl rfl (by decide) ?_
                      refine X.iload 157 i34_155 rfl rfl rfl ?_
                      refine X.iadd 158 i34_157 rfl rfl (by omega) ?_
                      refine X.lald 159 i34_158 rfl rfl (by decide) rfl (by omega) ?_
                      refine X.lconst (y := 0) 160 i34_159 rfl rfl rfl ?_
                      refine X.lcmp 161 i34_160 rfl rfl (fun z1076 hz1076 => ?_)
                      refine X.ifle 168 164 i34_161 rfl rfl rfl (fun h1077 => ?_) (fun h1077 => ?_)
                      · have h1077c : (m g0 22 (12 + y7)) ≤ 0 := by omega
                        clear h1077 hz1076
                        refine X.cut [(0, zr g0 19), (1, zi y1), (2, zi 1), (3, zi 1), (4, zi 1), (5, zi 1), (7, zi y7)] i34_168 rfl ?_
                        refine X.iconst 169 i34_168 rfl rfl (by decide) ?_
                        refine X.istore 171 [(0, zr g0 19), (1, zi y1), (2, zi 1), (3, zi 1), (4, zi 1), (5, zi 1), (6, zi 0), (7, zi y7)] i34_169 rfl rfl rfl ?_
                        refine X.iinc 174 [(0, zr g0 19), (1, zi y1), (2, zi 1), (3, zi 1), (4, zi 1), (5, zi 1), (6, zi 0), (7, zi (y7 + 1))] i34_171 rfl rfl rfl (by omega) rfl ?_
                        refine X.goto 16 i34_174 rfl rfl ?_
                        exact ih 1 1 1 1 0 (y7 + 1) (by omega) (by omega) (by omega) (by omega) (by omega) (by omega) (by omega)
                      · have h1077c : (m g0 22 (12 + y7)) > 0 := by omega
                        clear h1077 hz1076
                        refine X.cut [(0, zr g0 19), (1, zi y1), (2, zi 1), (3, zi 1), (4, zi 1), (5, zi 1), (7, zi y7)] i34_164 rfl ?_
                        refine X.iconst 165 i34_164 rfl rfl (by decide) ?_
                        refine X.goto 169 i34_165 rfl rfl ?_
                        refine X.istore 171 [(0, zr g0 19), (1, zi y1), (2, zi 1), (3, zi 1), (4, zi 1), (5, zi 1), (6, zi 1), (7, zi y7)] i34_169 rfl rfl rfl ?_
                        refine X.iinc 174 [(0, zr g0 19), (1, zi y1), (2, zi 1), (3, zi 1), (4, zi 1), (5, zi 1), (6, zi 1), (7, zi (y7 + 1))] i34_171 rfl rfl rfl (by omega) rfl ?_
                        refine X.goto 16 i34_174 rfl rfl ?_
                        exact ih 1 1 1 1 1 (y7 + 1) (by omega) (by omega) (by omega) (by omega) (by omega) (by omega) (by omega)
            · refine X.lload 106 i34_104 rfl rfl rfl ?_
              refine X.lconst (y := 0) 107 i34_106 rfl rfl rfl ?_
              refine X.lcmp 108 i34_107 rfl rfl (fun z1078 hz1078 => ?_)
              refine X.ifle 115 111 i34_108 rfl rfl rfl (fun h1079 => ?_) (fun h1079 => ?_)
              · have h1079c : (m g0 22 (0 + y7)) ≤ 0 := by omega
                clear h1079 hz1078
                refine X.cut [(0, zr g0 19), (1, zi y1), (2, zi 1), (3, zi 1), (5, zi y5), (6, zi y6), (7, zi y7), (8, zl (m g0 22 (8 + y7))), (10, zl (m g0 22 (0 + y7)))] i34_115 rfl ?_
                refine X.iconst 116 i34_115 rfl rfl (by decide) ?_
                refine X.istore 118 [(0, zr g0 19), (1, zi y1), (2, zi 1), (3, zi 1), (4, zi 0), (5, zi y5), (6, zi y6), (7, zi y7), (8, zl (m g0 22 (8 + y7))), (10, zl (m g0 22 (0 + y7)))] i34_116 rfl rfl rfl ?_
                refine X.iload 120 i34_118 rfl rfl rfl ?_
                refine X.ifne 130 123 i34_120 rfl rfl rfl (fun h1080 => ?_) (fun h1080 => ?_)
                · refine X.cut [(0, zr g0 19), (1, zi y1), (2, zi 1), (3, zi 1), (4, zi 0), (6, zi y6), (7, zi y7), (8, zl (m g0 22 (8 + y7)))] i34_130 rfl ?_
                  refine X.iconst 131 i34_130 rfl rfl (by decide) ?_
                  refine X.goto 135 i34_131 rfl rfl ?_
                  refine X.istore 137 [(0, zr g0 19), (1, zi y1), (2, zi 1), (3, zi 1), (4, zi 0), (5, zi 1), (6, zi y6), (7, zi y7), (8, zl (m g0 22 (8 + y7)))] i34_135 rfl rfl rfl ?_
                  refine X.iload 139 i34_137 rfl rfl rfl ?_
                  refine X.ifne 164 142 i34_139 rfl rfl rfl (fun h1081 => ?_) (fun h1081 => ?_)
                  · refine X.cut [(0, zr g0 19), (1, zi y1), (2, zi 1), (3, zi 1), (4, zi 0), (5, zi 1), (7, zi y7)] i34_164 rfl ?_
                    refine X.iconst 165 i34_164 rfl rfl (by decide) ?_
                    refine X.goto 169 i34_165 rfl rfl ?_
                    refine X.istore 171 [(0, zr g0 19), (1, zi y1), (2, zi 1), (3, zi 1), (4, zi 0), (5, zi 1), (6, zi 1), (7, zi y7)] i34_169 rfl rfl rfl ?_
                    refine X.iinc 174 [(0, zr g0 19), (1, zi y1), (2, zi 1), (3, zi 1), (4, zi 0), (5, zi 1), (6, zi 1), (7, zi (y7 + 1))] i34_171 rfl rfl rfl (by omega) rfl ?_
                    refine X.goto 16 i34_174 rfl rfl ?_
                    exact ih 1 1 0 1 1 (y7 + 1) (by omega) (by omega) (by omega) (by omega) (by omega) (by omega) (by omega)
                  · refine X.lload 144 i34_142 rfl rfl rfl ?_
                    refine X.lconst (y := 0) 145 i34_144 rfl rfl rfl ?_
                    refine X.lcmp 146 i34_145 rfl rfl (fun z1082 hz1082 => ?_)
                    refine X.ifne 168 149 i34_146 rfl rfl rfl (fun h1083 => ?_) (fun h1083 => ?_)
                    · have h1083c : (m g0 22 (8 + y7)) ≠ 0 := by omega
                      clear h1083 hz1082
                      refine X.cut [(0, zr g0 19), (1, zi y1), (2, zi 1), (3, zi 1), (4, zi 0), (5, zi 1), (7, zi y7)] i34_168 rfl ?_
                      refine X.iconst 169 i34_168 rfl rfl (by decide) ?_
                      refine X.istore 171 [(0, zr g0 19), (1, zi y1), (2, zi 1), (3, zi 1), (4, zi 0), (5, zi 1), (6, zi 0), (7, zi y7)] i34_169 rfl rfl rfl ?_
                      refine X.iinc 174 [(0, zr g0 19), (1, zi y1), (2, zi 1), (3, zi 1), (4, zi 0), (5, zi 1), (6, zi 0), (7, zi (y7 + 1))] i34_171 rfl rfl rfl (by omega) rfl ?_
                      refine X.goto 16 i34_174 rfl rfl ?_
                      exact ih 1 1 0 1 0 (y7 + 1) (by omega) (by omega) (by omega) (by omega) (by omega) (by omega) (by omega)
                    · have h1083c : (m g0 22 (8 + y7)) = 0 := by omega
                      clear h1083 hz1082
                      refine X.aload_n 150 i34_149 rfl rfl rfl ?_
                      refine X.getR 153 i34_150 rfl rfl (by decide) rfl rfl ?_
                      refine X.bipush 155 i34_153 rfl rfl (by decide) ?_
                      refine X.iload 157 i34_155 rfl rfl rfl ?_
                      refine X.iadd 158 i34_157 rfl rfl (by omega) ?_
                      refine X.lald 159 i34_158 rfl rfl (by decide) rfl (by omega) ?_
                      refine X.lconst (y := 0) 160 i34_159 rfl rfl rfl ?_
                      refine X.lcmp 161 i34_160 rfl rfl (fun z1084 hz1084 => ?_)
                      refine X.ifle 168 164 i34_161 rfl rfl rfl (fun h1085 => ?_) (fun h1085 => ?_)
                      · have h1085c : (m g0 22 (12 + y7)) ≤ 0 := by omega
                        clear h1085 hz1084
                        refine X.cut [(0, zr g0 19), (1, zi y1), (2, zi 1), (3, zi 1), (4, zi 0), (5, zi 1), (7, zi y7)] i34_168 rfl ?_
                        refine X.iconst 169 i34_168 rfl rfl (by decide) ?_
                        refine X.istore 171 [(0, zr g0 19), (1, zi y1), (2, zi 1), (3, zi 1), (4, zi 0), (5, zi 1), (6, zi 0), (7, zi y7)] i34_169 rfl rfl rfl ?_
                        refine X.iinc 174 [(0, zr g0 19), (1, zi y1), (2, zi 1), (3, zi 1), (4, zi 0), (5, zi 1), (6, zi 0), (7, zi (y7 + 1))] i34_171 rfl rfl rfl (by omega) rfl ?_
                        refine X.goto 16 i34_174 rfl rfl ?_
                        exact ih 1 1 0 1 0 (y7 + 1) (by omega) (by omega) (by omega) (by omega) (by omega) (by omega) (by omega)
                      · have h1085c : (m g0 22 (12 + y7)) > 0 := by omega
                        clear h1085 hz1084
                        refine X.cut [(0, zr g0 19), (1, zi y1), (2, zi 1), (3, zi 1), (4, zi 0), (5, zi 1), (7, zi y7)] i34_164 rfl ?_
                        refine X.iconst 165 i34_164 rfl rfl (by decide) ?_
                        refine X.goto 169 i34_165 rfl rfl ?_
                        refine X.istore 171 [(0, zr g0 19), (1, zi y1), (2, zi 1), (3, zi 1), (4, zi 0), (5, zi 1), (6, zi 1), (7, zi y7)] i34_169 rfl rfl rfl ?_
                        refine X.iinc 174 [(0, zr g0 19), (1, zi y1), (2, zi 1), (3, zi 1), (4, zi 0), (5, zi 1), (6, zi 1), (7, zi (y7 + 1))] i34_171 rfl rfl rfl (by omega) rfl ?_
                        refine X.goto 16 i34_174 rfl rfl ?_
                        exact ih 1 1 0 1 1 (y7 + 1) (by omega) (by omega) (by omega) (by omega) (by omega) (by omega) (by omega)
                · refine X.lload 125 i34_123 rfl rfl rfl ?_
                  refine X.lconst (y := 0) 126 i34_125 rfl rfl rfl ?_
                  refine X.lcmp 127 i34_126 rfl rfl (fun z1086 hz1086 => ?_)
                  refine X.ifge 134 130 i34_127 rfl rfl rfl (fun h1087 => ?_) (fun h1087 => ?_)
                  · have h1087c : (m g0 22 (0 + y7)) ≥ 0 := by omega
                    clear h1087 hz1086
                    refine X.cut [(0, zr g0 19), (1, zi y1), (2, zi 1), (3, zi 1), (4, zi 0), (6, zi y6), (7, zi y7), (8, zl (m g0 22 (8 + y7)))] i34_134 rfl ?_
                    refine X.iconst 135 i34_134 rfl rfl (by decide) ?_
                    refine X.istore 137 [(0, zr g0 19), (1, zi y1), (2, zi 1), (3, zi 1), (4, zi 0), (5, zi 0), (6, zi y6), (7, zi y7), (8, zl (m g0 22 (8 + y7)))] i34_135 rfl rfl rfl ?_
                    refine X.iload 139 i34_137 rfl rfl rfl ?_
                    refine X.ifne 164 142 i34_139 rfl rfl rfl (fun h1088 => ?_) (fun h1088 => ?_)
                    · refine X.cut [(0, zr g0 19), (1, zi y1), (2, zi 1), (3, zi 1), (4, zi 0), (5, zi 0), (7, zi y7)] i34_164 rfl ?_
                      refine X.iconst 165 i34_164 rfl rfl (by decide) ?_
                      refine X.goto 169 i34_165 rfl rfl ?_
                      refine X.istore 171 [(0, zr g0 19), (1, zi y1), (2, zi 1), (3, zi 1), (4, zi 0), (5, zi 0), (6, zi 1), (7, zi y7)] i34_169 rfl rfl rfl ?_
                      refine X.iinc 174 [(0, zr g0 19), (1, zi y1), (2, zi 1), (3, zi 1), (4, zi 0), (5, zi 0), (6, zi 1), (7, zi (y7 + 1))] i34_171 rfl rfl rfl (by omega) rfl ?_
                      refine X.goto 16 i34_174 rfl rfl ?_
                      exact ih 1 1 0 0 1 (y7 + 1) (by omega) (by omega) (by omega) (by omega) (by omega) (by omega) (by omega)
                    · refine X.lload 144 i34_142 rfl rfl rfl ?_
                      refine X.lconst (y := 0) 145 i34_144 rfl rfl rfl ?_
                      refine X.lcmp 146 i34_145 rfl rfl (fun z1089 hz1089 => ?_)
                      refine X.ifne 168 149 i34_146 rfl rfl rfl (fun h1090 => ?_) (fun h1090 => ?_)
                      · have h1090c : (m g0 22 (8 + y7)) ≠ 0 := by omega
                        clear h1090 hz1089
                        refine X.cut [(0, zr g0 19), (1, zi y1), (2, zi 1), (3, zi 1), (4, zi 0), (5, zi 0), (7, zi y7)] i34_168 rfl ?_
                        refine X.iconst 169 i34_168 rfl rfl (by decide) ?_
                        refine X.istore 171 [(0, zr g0 19), (1, zi y1), (2, zi 1), (3, zi 1), (4, zi 0), (5, zi 0), (6, zi 0), (7, zi y7)] i34_169 rfl rfl rfl ?_
                        refine X.iinc 174 [(0, zr g0 19), (1, zi y1), (2, zi 1), (3, zi 1), (4, zi 0), (5, zi 0), (6, zi 0), (7, zi (y7 + 1))] i34_171 rfl rfl rfl (by omega) rfl ?_
                        refine X.goto 16 i34_174 rfl rfl ?_
                        exact ih 1 1 0 0 0 (y7 + 1) (by omega) (by omega) (by omega) (by omega) (by omega) (by omega) (by omega)
                      · have h1090c : (m g0 22 (8 + y7)) = 0 := by omega
                        clear h1090 hz1089
                        refine X.aload_n 150 i34_149 rfl rfl rfl ?_
                        refine X.getR 153 i34_150 rfl rfl (by decide) rfl rfl ?_
                        refine X.bipush 155 i34_153 rfl rfl (by decide) ?_
                        refine X.iload 157 i34_155 rfl rfl rfl ?_
                        refine X.iadd 158 i34_157 rfl rfl (by omega) ?_
                        refine X.lald 159 i34_158 rfl rfl (by decide) rfl (by omega) ?_
                        refine X.lconst (y := 0) 160 i34_159 rfl rfl rfl ?_
                        refine X.lcmp 161 i34_160 rfl rfl (fun z1091 hz1091 => ?_)
                        refine X.ifle 168 164 i34_161 rfl rfl rfl (fun h1092 => ?_) (fun h1092 => ?_)
                        · have h1092c : (m g0 22 (12 + y7)) ≤ 0 := by omega
                          clear h1092 hz1091
                          refine X.cut [(0, zr g0 19), (1, zi y1), (2, zi 1), (3, zi 1), (4, zi 0), (5, zi 0), (7, zi y7)] i34_168 rfl ?_
                          refine X.iconst 169 i34_168 rfl rfl (by decide) ?_
                          refine X.istore 171 [(0, zr g0 19), (1, zi y1), (2, zi 1), (3, zi 1), (4, zi 0), (5, zi 0), (6, zi 0), (7, zi y7)] i34_169 rfl rfl rfl ?_
                          refine X.iinc 174 [(0, zr g0 19), (1, zi y1), (2, zi 1), (3, zi 1), (4, zi 0), (5, zi 0), (6, zi 0), (7, zi (y7 + 1))] i34_171 rfl rfl rfl (by omega) rfl ?_
                          refine X.goto 16 i34_174 rfl rfl ?_
                          exact ih 1 1 0 0 0 (y7 + 1) (by omega) (by omega) (by omega) (by omega) (by omega) (by omega) (by omega)
                        · have h1092c : (m g0 22 (12 + y7)) > 0 := by omega
                          clear h1092 hz1091
                          refine X.cut [(0, zr g0 19), (1, zi y1), (2, zi 1), (3, zi 1), (4, zi 0), (5, zi 0), (7, zi y7)] i34_164 rfl ?_
                          refine X.iconst 165 i34_164 rfl rfl (by decide) ?_
                          refine X.goto 169 i34_165 rfl rfl ?_
                          refine X.istore 171 [(0, zr g0 19), (1, zi y1), (2, zi 1), (3, zi 1), (4, zi 0), (5, zi 0), (6, zi 1), (7, zi y7)] i34_169 rfl rfl rfl ?_
                          refine X.iinc 174 [(0, zr g0 19), (1, zi y1), (2, zi 1), (3, zi 1), (4, zi 0), (5, zi 0), (6, zi 1), (7, zi (y7 + 1))] i34_171 rfl rfl rfl (by omega) rfl ?_
                          refine X.goto 16 i34_174 rfl rfl ?_
                          exact ih 1 1 0 0 1 (y7 + 1) (by omega) (by omega) (by omega) (by omega) (by omega) (by omega) (by omega)
                  · have h1087c : (m g0 22 (0 + y7)) < 0 := by omega
                    clear h1087 hz1086
                    refine X.cut [(0, zr g0 19), (1, zi y1), (2, zi 1), (3, zi 1), (4, zi 0), (6, zi y6), (7, zi y7), (8, zl (m g0 22 (8 + y7)))] i34_130 rfl ?_
                    refine X.iconst 131 i34_130 rfl rfl (by decide) ?_
                    refine X.goto 135 i34_131 rfl rfl ?_
                    refine X.istore 137 [(0, zr g0 19), (1, zi y1), (2, zi 1), (3, zi 1), (4, zi 0), (5, zi 1), (6, zi y6), (7, zi y7), (8, zl (m g0 22 (8 + y7)))] i34_135 rfl rfl rfl ?_
                    refine X.iload 139 i34_137 rfl rfl rfl ?_
                    refine X.ifne 164 142 i34_139 rfl rfl rfl (fun h1093 => ?_) (fun h1093 => ?_)
                    · refine X.cut [(0, zr g0 19), (1, zi y1), (2, zi 1), (3, zi 1), (4, zi 0), (5, zi 1), (7, zi y7)] i34_164 rfl ?_
                      refine X.iconst 165 i34_164 rfl rfl (by decide) ?_
                      refine X.goto 169 i34_165 rfl rfl ?_
                      refine X.istore 171 [(0, zr g0 19), (1, zi y1), (2, zi 1), (3, zi 1), (4, zi 0), (5, zi 1), (6, zi 1), (7, zi y7)] i34_169 rfl rfl rfl ?_
                      refine X.iinc 174 [(0, zr g0 19), (1, zi y1), (2, zi 1), (3, zi 1), (4, zi 0), (5, zi 1), (6, zi 1), (7, zi (y7 + 1))] i34_171 rfl rfl rfl (by omega) rfl ?_
                      refine X.goto 16 i34_174 rfl rfl ?_
                      exact ih 1 1 0 1 1 (y7 + 1) (by omega) (by omega) (by omega) (by omega) (by omega) (by omega) (by omega)
                    · refine X.lload 144 i34_142 rfl rfl rfl ?_
                      refine X.lconst (y := 0) 145 i34_144 rfl rfl rfl ?_
                      refine X.lcmp 146 i34_145 rfl rfl (fun z1094 hz1094 => ?_)
                      refine X.ifne 168 149 i34_146 rfl rfl rfl (fun h1095 => ?_) (fun h1095 => ?_)
                      · have h1095c : (m g0 22 (8 + y7)) ≠ 0 := by omega
                        clear h1095 hz1094
                        refine X.cut [(0, zr g0 19), (1, zi y1), (2, zi 1), (3, zi 1), (4, zi 0), (5, zi 1), (7, zi y7)] i34_168 rfl ?_
                        refine X.iconst 169 i34_168 rfl rfl (by decide) ?_
                        refine X.istore 171 [(0, zr g0 19), (1, zi y1), (2, zi 1), (3, zi 1), (4, zi 0), (5, zi 1), (6, zi 0), (7, zi y7)] i34_169 rfl rfl rfl ?_
                        refine X.iinc 174 [(0, zr g0 19), (1, zi y1), (2, zi 1), (3, zi 1), (4, zi 0), (5, zi 1), (6, zi 0), (7, zi (y7 + 1))] i34_171 rfl rfl rfl (by omega) rfl ?_
                        refine X.goto 16 i34_174 rfl rfl ?_
                        exact ih 1 1 0 1 0 (y7 + 1) (by omega) (by omega) (by omega) (by omega) (by omega) (by omega) (by omega)
                      · have h1095c : (m g0 22 (8 + y7)) = 0 := by omega
                        clear h1095 hz1094
                        refine X.aload_n 150 i34_149 rfl rfl rfl ?_
                        refine X.getR 153 i34_150 rfl rfl (by decide) rfl rfl ?_
                        refine X.bipush 155 i34_153 rfl rfl (by decide) ?_
                        refine X.iload 157 i34_155 rfl rfl rfl ?_
                        refine X.iadd 158 i34_157 rfl rfl (by omega) ?_
                        refine X.lald 159 i34_158 rfl rfl (by decide) rfl (by omega) ?_
                        refine X.lconst (y := 0) 160 i34_159 rfl rfl rfl ?_
                        refine X.lcmp 161 i34_160 rfl rfl (fun z1096 hz1096 => ?_)
                        refine X.ifle 168 164 i34_161 rfl rfl rfl (fun h1097 => ?_) (fun h1097 => ?_)
                        · have h1097c : (m g0 22 (12 + y7)) ≤ 0 := by omega
                          clear h1097 hz1096
                          refine X.cut [(0, zr g0 19), (1, zi y1), (2, zi 1), (3, zi 1), (4, zi 0), (5, zi 1), (7, zi y7)] i34_168 rfl ?_
                          refine X.iconst 169 i34_168 rfl rfl (by decide) ?_
                          refine X.istore 171 [(0, zr g0 19), (1, zi y1), (2, zi 1), (3, zi 1), (4, zi 0), (5, zi 1), (6, zi 0), (7, zi y7)] i34_169 rfl rfl rfl ?_
                          refine X.iinc 174 [(0, zr g0 19), (1, zi y1), (2, zi 1), (3, zi 1), (4, zi 0), (5, zi 1), (6, zi 0), (7, zi (y7 + 1))] i34_171 rfl rfl rfl (by omega) rfl ?_
                          refine X.goto 16 i34_174 rfl rfl ?_
                          exact ih 1 1 0 1 0 (y7 + 1) (by omega) (by omega) (by omega) (by omega) (by omega) (by omega) (by omega)
                        · have h1097c : (m g0 22 (12 + y7)) > 0 := by omega
                          clear h1097 hz1096
                          refine X.cut [(0, zr g0 19), (1, zi y1), (2, zi 1), (3, zi 1), (4, zi 0), (5, zi 1), (7, zi y7)] i34_164 rfl ?_
                          refine X.iconst 165 i34_164 rfl rfl (by decide) ?_
                          refine X.goto 169 i34_165 rfl rfl ?_
                          refine X.istore 171 [(0, zr g0 19), (1, zi y1), (2, zi 1), (3, zi 1), (4, zi 0), (5, zi 1), (6, zi 1), (7, zi y7)] i34_169 rfl rfl rfl ?_
                          refine X.iinc 174 [(0, zr g0 19), (1, zi y1), (2, zi 1), (3, zi 1), (4, zi 0), (5, zi 1), (6, zi 1), (7, zi (y7 + 1))] i34_171 rfl rfl rfl (by omega) rfl ?_
                          refine X.goto 16 i34_174 rfl rfl ?_
                          exact ih 1 1 0 1 1 (y7 + 1) (by omega) (by omega) (by omega) (by omega) (by omega) (by omega) (by omega)
              · have h1079c : (m g0 22 (0 + y7)) > 0 := by omega
                clear h1079 hz1078
                refine X.cut [(0, zr g0 19), (1, zi y1), (2, zi 1), (3, zi 1), (5, zi y5), (6, zi y6), (7, zi y7), (8, zl (m g0 22 (8 + y7))), (10, zl (m g0 22 (0 + y7)))] i34_111 rfl ?_
                refine X.iconst 112 i34_111 rfl rfl (by decide) ?_
                refine X.goto 116 i34_112 rfl rfl ?_
                refine X.istore 118 [(0, zr g0 19), (1, zi y1), (2, zi 1), (3, zi 1), (4, zi 1), (5, zi y5), (6, zi y6), (7, zi y7), (8, zl (m g0 22 (8 + y7))), (10, zl (m g0 22 (0 + y7)))] i34_116 rfl rfl rfl ?_
                refine X.iload 120 i34_118 rfl rfl rfl ?_
                refine X.ifne 130 123 i34_120 rfl rfl rfl (fun h1098 => ?_) (fun h1098 => ?_)
                · refine X.cut [(0, zr g0 19), (1, zi y1), (2, zi 1), (3, zi 1), (4, zi 1), (6, zi y6), (7, zi y7), (8, zl (m g0 22 (8 + y7)))] i34_130 rfl ?_
                  refine X.iconst 131 i34_130 rfl rfl (by decide) ?_
                  refine X.goto 135 i34_131 rfl rfl ?_
                  refine X.istore 137 [(0, zr g0 19), (1, zi y1), (2, zi 1), (3, zi 1), (4, zi 1), (5, zi 1), (6, zi y6), (7, zi y7), (8, zl (m g0 22 (8 + y7)))] i34_135 rfl rfl rfl ?_
                  refine X.iload 139 i34_137 rfl rfl rfl ?_
                  refine X.ifne 164 142 i34_139 rfl rfl rfl (fun h1099 => ?_) (fun h1099 => ?_)
                  · refine X.cut [(0, zr g0 19), (1, zi y1), (2, zi 1), (3, zi 1), (4, zi 1), (5, zi 1), (7, zi y7)] i34_164 rfl ?_
                    refine X.iconst 165 i34_164 rfl rfl (by decide) ?_
                    refine X.goto 169 i34_165 rfl rfl ?_
                    refine X.istore 171 [(0, zr g0 19), (1, zi y1), (2, zi 1), (3, zi 1), (4, zi 1), (5, zi 1), (6, zi 1), (7, zi y7)] i34_169 rfl rfl rfl ?_
                    refine X.iinc 174 [(0, zr g0 19), (1, zi y1), (2, zi 1), (3, zi 1), (4, zi 1), (5, zi 1), (6, zi 1), (7, zi (y7 + 1))] i34_171 rfl rfl rfl (by omega) rfl ?_
                    refine X.goto 16 i34_174 rfl rfl ?_
                    exact ih 1 1 1 1 1 (y7 + 1) (by omega) (by omega) (by omega) (by omega) (by omega) (by omega) (by omega)
                  · refine X.lload 144 i34_142 rfl rfl rfl ?_
                    refine X.lconst (y := 0) 145 i34_144 rfl rfl rfl ?_
                    refine X.lcmp 146 i34_145 rfl rfl (fun z1100 hz1100 => ?_)
                    refine X.ifne 168 149 i34_146 rfl rfl rfl (fun h1101 => ?_) (fun h1101 => ?_)
                    · have h1101c : (m g0 22 (8 + y7)) ≠ 0 := by omega
                      clear h1101 hz1100
                      refine X.cut [(0, zr g0 19), (1, zi y1), (2, zi 1), (3, zi 1), (4, zi 1), (5, zi 1), (7, zi y7)] i34_168 rfl ?_
                      refine X.iconst 169 i34_168 rfl rfl (by decide) ?_
                      refine X.istore 171 [(0, zr g0 19), (1, zi y1), (2, zi 1), (3, zi 1), (4, zi 1), (5, zi 1), (6, zi 0), (7, zi y7)] i34_169 rfl rfl rfl ?_
                      refine X.iinc 174 [(0, zr g0 19), (1, zi y1), (2, zi 1), (3, zi 1), (4, zi 1), (5, zi 1), (6, zi 0), (7, zi (y7 + 1))] i34_171 rfl rfl rfl (by omega) rfl ?_
                      refine X.goto 16 i34_174 rfl rfl ?_
                      exact ih 1 1 1 1 0 (y7 + 1) (by omega) (by omega) (by omega) (by omega) (by omega) (by omega) (by omega)
                    · have h1101c : (m g0 22 (8 + y7)) = 0 := by omega
                      clear h1101 hz1100
                      refine X.aload_n 150 i34_149 rfl rfl rfl ?_
                      refine X.getR 153 i34_150 rfl rfl (by decide) rfl rfl ?_
                      refine X.bipush 155 i34_153 rfl rfl (by decide) ?_
                      refine X.iload 157 i34_155 rfl rfl rfl ?_
                      refine X.iadd 158 i34_157 rfl rfl (by omega) ?_
                      refine X.lald 159 i34_158 rfl rfl (by decide) rfl (by omega) ?_
                      refine X.lconst (y := 0) 160 i34_159 rfl rfl rfl ?_
                      refine X.lcmp 161 i34_160 rfl rfl (fun z1102 hz1102 => ?_)
                      refine X.ifle 168 164 i34_161 rfl rfl rfl (fun h1103 => ?_) (fun h1103 => ?_)
                      · have h1103c : (m g0 22 (12 + y7)) ≤ 0 := by omega
                        clear h1103 hz1102
                        refine X.cut [(0, zr g0 19), (1, zi y1), (2, zi 1), (3, zi 1), (4, zi 1), (5, zi 1), (7, zi y7)] i34_168 rfl ?_
                        refine X.iconst 169 i34_168 rfl rfl (by decide) ?_
                        refine X.istore 171 [(0, zr g0 19), (1, zi y1), (2, zi 1), (3, zi 1), (4, zi 1), (5, zi 1), (6, zi 0), (7, zi y7)] i34_169 rfl rfl rfl ?_
                        refine X.iinc 174 [(0, zr g0 19), (1, zi y1), (2, zi 1), (3, zi 1), (4, zi 1), (5, zi 1), (6, zi 0), (7, zi (y7 + 1))] i34_171 rfl rfl rfl (by omega) rfl ?_
                        refine X.goto 16 i34_174 rfl rfl ?_
                        exact ih 1 1 1 1 0 (y7 + 1) (by omega) (by omega) (by omega) (by omega) (by omega) (by omega) (by omega)
                      · have h1103c : (m g0 22 (12 + y7)) > 0 := by omega
                        clear h1103 hz1102
                        refine X.cut [(0, zr g0 19), (1, zi y1), (2, zi 1), (3, zi 1), (4, zi 1), (5, zi 1), (7, zi y7)] i34_164 rfl ?_
                        refine X.iconst 165 i34_164 rfl rfl (by decide) ?_
                        refine X.goto 169 i34_165 rfl rfl ?_
                        refine X.istore 171 [(0, zr g0 19), (1, zi y1), (2, zi 1), (3, zi 1), (4, zi 1), (5, zi 1), (6, zi 1), (7, zi y7)] i34_169 rfl rfl rfl ?_
                        refine X.iinc 174 [(0, zr g0 19), (1, zi y1), (2, zi 1), (3, zi 1), (4, zi 1), (5, zi 1), (6, zi 1), (7, zi (y7 + 1))] i34_171 rfl rfl rfl (by omega) rfl ?_
                        refine X.goto 16 i34_174 rfl rfl ?_
                        exact ih 1 1 1 1 1 (y7 + 1) (by omega) (by omega) (by omega) (by omega) (by omega) (by omega) (by omega)
                · refine X.lload 125 i34_123 rfl rfl rfl ?_
                  refine X.lconst (y := 0) 126 i34_125 rfl rfl rfl ?_
                  refine X.lcmp 127 i34_126 rfl rfl (fun z1104 hz1104 => ?_)
                  refine X.ifge 134 130 i34_127 rfl rfl rfl (fun h1105 => ?_) (fun h1105 => (by exfalso; omega))
                  have h1105c : (m g0 22 (0 + y7)) ≥ 0 := by omega
                  clear h1105 hz1104
                  refine X.cut [(0, zr g0 19), (1, zi y1), (2, zi 1), (3, zi 1), (4, zi 1), (6, zi y6), (7, zi y7), (8, zl (m g0 22 (8 + y7)))] i34_134 rfl ?_
                  refine X.iconst 135 i34_134 rfl rfl (by decide) ?_
                  refine X.istore 137 [(0, zr g0 19), (1, zi y1), (2, zi 1), (3, zi 1), (4, zi 1), (5, zi 0), (6, zi y6), (7, zi y7), (8, zl (m g0 22 (8 + y7)))] i34_135 rfl rfl rfl ?_
                  refine X.iload 139 i34_137 rfl rfl rfl ?_
                  refine X.ifne 164 142 i34_139 rfl rfl rfl (fun h1106 => ?_) (fun h1106 => ?_)
                  · refine X.cut [(0, zr g0 19), (1, zi y1), (2, zi 1), (3, zi 1), (4, zi 1), (5, zi 0), (7, zi y7)] i34_164 rfl ?_
                    refine X.iconst 165 i34_164 rfl rfl (by decide) ?_
                    refine X.goto 169 i34_165 rfl rfl ?_
                    refine X.istore 171 [(0, zr g0 19), (1, zi y1), (2, zi 1), (3, zi 1), (4, zi 1), (5, zi 0), (6, zi 1), (7, zi y7)] i34_169 rfl rfl rfl ?_
                    refine X.iinc 174 [(0, zr g0 19), (1, zi y1), (2, zi 1), (3, zi 1), (4, zi 1), (5, zi 0), (6, zi 1), (7, zi (y7 + 1))] i34_171 rfl rfl rfl (by omega) rfl ?_
                    refine X.goto 16 i34_174 rfl rfl ?_
                    exact ih 1 1 1 0 1 (y7 + 1) (by omega) (by omega) (by omega) (by omega) (by omega) (by omega) (by omega)
                  · refine X.lload 144 i34_142 rfl rfl rfl ?_
                    refine X.lconst (y := 0) 145 i34_144 rfl rfl rfl ?_
                    refine X.lcmp 146 i34_145 rfl rfl (fun z1107 hz1107 => ?_)
                    refine X.ifne 168 149 i34_146 rfl rfl rfl (fun h1108 => ?_) (fun h1108 => ?_)
                    · have h1108c : (m g0 22 (8 + y7)) ≠ 0 := by omega
                      clear h1108 hz1107
                      refine X.cut [(0, zr g0 19), (1, zi y1), (2, zi 1), (3, zi 1), (4, zi 1), (5, zi 0), (7, zi y7)] i34_168 rfl ?_
                      refine X.iconst 169 i34_168 rfl rfl (by decide) ?_
                      refine X.istore 171 [(0, zr g0 19), (1, zi y1), (2, zi 1), (3, zi 1), (4, zi 1), (5, zi 0), (6, zi 0), (7, zi y7)] i34_169 rfl rfl rfl ?_
                      refine X.iinc 174 [(0, zr g0 19), (1, zi y1), (2, zi 1), (3, zi 1), (4, zi 1), (5, zi 0), (6, zi 0), (7, zi (y7 + 1))] i34_171 rfl rfl rfl (by omega) rfl ?_
                      refine X.goto 16 i34_174 rfl rfl ?_
                      exact ih 1 1 1 0 0 (y7 + 1) (by omega) (by omega) (by omega) (by omega) (by omega) (by omega) (by omega)
                    · have h1108c : (m g0 22 (8 + y7)) = 0 := by omega
                      clear h1108 hz1107
                      refine X.aload_n 150 i34_149 rfl rfl rfl ?_
                      refine X.getR 153 i34_150 rfl rfl (by decide) rfl rfl ?_
                      refine X.bipush 155 i34_153 rfl rfl (by decide) ?_
                      refine X.iload 157 i34_155 rfl rfl rfl ?_
                      refine X.iadd 158 i34_157 rfl rfl (by omega) ?_
                      refine X.lald 159 i34_158 rfl rfl (by decide) rfl (by omega) ?_
                      refine X.lconst (y := 0) 160 i34_159 rfl rfl rfl ?_
                      refine X.lcmp 161 i34_160 rfl rfl (fun z1109 hz1109 => ?_)
                      refine X.ifle 168 164 i34_161 rfl rfl rfl (fun h1110 => ?_) (fun h1110 => ?_)
                      · have h1110c : (m g0 22 (12 + y7)) ≤ 0 := by omega
                        clear h1110 hz1109
                        refine X.cut [(0, zr g0 19), (1, zi y1), (2, zi 1), (3, zi 1), (4, zi 1), (5, zi 0), (7, zi y7)] i34_168 rfl ?_
                        refine X.iconst 169 i34_168 rfl rfl (by decide) ?_
                        refine X.istore 171 [(0, zr g0 19), (1, zi y1), (2, zi 1), (3, zi 1), (4, zi 1), (5, zi 0), (6, zi 0), (7, zi y7)] i34_169 rfl rfl rfl ?_
                        refine X.iinc 174 [(0, zr g0 19), (1, zi y1), (2, zi 1), (3, zi 1), (4, zi 1), (5, zi 0), (6, zi 0), (7, zi (y7 + 1))] i34_171 rfl rfl rfl (by omega) rfl ?_
                        refine X.goto 16 i34_174 rfl rfl ?_
                        exact ih 1 1 1 0 0 (y7 + 1) (by omega) (by omega) (by omega) (by omega) (by omega) (by omega) (by omega)
                      · have h1110c : (m g0 22 (12 + y7)) > 0 := by omega
                        clear h1110 hz1109
                        refine X.cut [(0, zr g0 19), (1, zi y1), (2, zi 1), (3, zi 1), (4, zi 1), (5, zi 0), (7, zi y7)] i34_164 rfl ?_
                        refine X.iconst 165 i34_164 rfl rfl (by decide) ?_
                        refine X.goto 169 i34_165 rfl rfl ?_
                        refine X.istore 171 [(0, zr g0 19), (1, zi y1), (2, zi 1), (3, zi 1), (4, zi 1), (5, zi 0), (6, zi 1), (7, zi y7)] i34_169 rfl rfl rfl ?_
                        refine X.iinc 174 [(0, zr g0 19), (1, zi y1), (2, zi 1), (3, zi 1), (4, zi 1), (5, zi 0), (6, zi 1), (7, zi (y7 + 1))] i34_171 rfl rfl rfl (by omega) rfl ?_
                        refine X.goto 16 i34_174 rfl rfl ?_
                        exact ih 1 1 1 0 1 (y7 + 1) (by omega) (by omega) (by omega) (by omega) (by omega) (by omega) (by omega)
        · refine X.iload 75 i34_73 rfl rfl rfl ?_
          refine X.ifeq 82 78 i34_75 rfl rfl rfl (fun h1111 => ?_) (fun h1111 => (by exfalso; omega))
          refine X.cut [(0, zr g0 19), (1, zi y1), (3, zi y3), (4, zi y4), (5, zi y5), (6, zi y6), (7, zi y7), (8, zl (m g0 22 (8 + y7))), (10, zl (m g0 22 (0 + y7))), (12, zi 0)] i34_82 rfl ?_
          refine X.iconst 83 i34_82 rfl rfl (by decide) ?_
          refine X.istore_n 84 [(0, zr g0 19), (1, zi y1), (2, zi 0), (3, zi y3), (4, zi y4), (5, zi y5), (6, zi y6), (7, zi y7), (8, zl (m g0 22 (8 + y7))), (10, zl (m g0 22 (0 + y7))), (12, zi 0)] i34_83 rfl rfl rfl ?_
          refine X.iload_n 85 i34_84 rfl rfl rfl ?_
          refine X.ifne 93 88 i34_85 rfl rfl rfl (fun h1112 => ?_) (fun h1112 => ?_)
          · refine X.cut [(0, zr g0 19), (1, zi y1), (2, zi 0), (4, zi y4), (5, zi y5), (6, zi y6), (7, zi y7), (8, zl (m g0 22 (8 + y7))), (10, zl (m g0 22 (0 + y7)))] i34_93 rfl ?_
            refine X.iconst 94 i34_93 rfl rfl (by decide) ?_
            refine X.goto 98 i34_94 rfl rfl ?_
            refine X.istore_n 99 [(0, zr g0 19), (1, zi y1), (2, zi 0), (3, zi 1), (4, zi y4), (5, zi y5), (6, zi y6), (7, zi y7), (8, zl (m g0 22 (8 + y7))), (10, zl (m g0 22 (0 + y7)))] i34_98 rfl rfl rfl ?_
            refine X.iload 101 i34_99 rfl rfl rfl ?_
            refine X.ifne 111 104 i34_101 rfl rfl rfl (fun h1113 => ?_) (fun h1113 => ?_)
            · refine X.cut [(0, zr g0 19), (1, zi y1), (2, zi 0), (3, zi 1), (5, zi y5), (6, zi y6), (7, zi y7), (8, zl (m g0 22 (8 + y7))), (10, zl (m g0 22 (0 + y7)))] i34_111 rfl ?_
              refine X.iconst 112 i34_111 rfl rfl (by decide) ?_
              refine X.goto 116 i34_112 rfl rfl ?_
              refine X.istore 118 [(0, zr g0 19), (1, zi y1), (2, zi 0), (3, zi 1), (4, zi 1), (5, zi y5), (6, zi y6), (7, zi y7), (8, zl (m g0 22 (8 + y7))), (10, zl (m g0 22 (0 + y7)))] i34_116 rfl rfl rfl ?_
              refine X.iload 120 i34_118 rfl rfl rfl ?_
              refine X.ifne 130 123 i34_120 rfl rfl rfl (fun h1114 => ?_) (fun h1114 => ?_)
              · refine X.cut [(0, zr g0 19), (1, zi y1), (2, zi 0), (3, zi 1), (4, zi 1), (6, zi y6), (7, zi y7), (8, zl (m g0 22 (8 + y7)))] i34_130 rfl ?_
                refine X.iconst 131 i34_130 rfl rfl (by decide) ?_
                refine X.goto 135 i34_131 rfl rfl ?_
                refine X.istore 137 [(0, zr g0 19), (1, zi y1), (2, zi 0), (3, zi 1), (4, zi 1), (5, zi 1), (6, zi y6), (7, zi y7), (8, zl (m g0 22 (8 + y7)))] i34_135 rfl rfl rfl ?_
                refine X.iload 139 i34_137 rfl rfl rfl ?_
                refine X.ifne 164 142 i34_139 rfl rfl rfl (fun h1115 => ?_) (fun h1115 => ?_)
                · refine X.cut [(0, zr g0 19), (1, zi y1), (2, zi 0), (3, zi 1), (4, zi 1), (5, zi 1), (7, zi y7)] i34_164 rfl ?_
                  refine X.iconst 165 i34_164 rfl rfl (by decide) ?_
                  refine X.goto 169 i34_165 rfl rfl ?_
                  refine X.istore 171 [(0, zr g0 19), (1, zi y1), (2, zi 0), (3, zi 1), (4, zi 1), (5, zi 1), (6, zi 1), (7, zi y7)] i34_169 rfl rfl rfl ?_
                  refine X.iinc 174 [(0, zr g0 19), (1, zi y1), (2, zi 0), (3, zi 1), (4, zi 1), (5, zi 1), (6, zi 1), (7, zi (y7 + 1))] i34_171 rfl rfl rfl (by omega) rfl ?_
                  refine X.goto 16 i34_174 rfl rfl ?_
                  exact ih 0 1 1 1 1 (y7 + 1) (by omega) (by omega) (by omega) (by omega) (by omega) (by omega) (by omega)
                · refine X.lload 144 i34_142 rfl rfl rfl ?_
                  refine X.lconst (y := 0) 145 i34_144 rfl rfl rfl ?_
                  refine X.lcmp 146 i34_145 rfl rfl (fun z1116 hz1116 => ?_)
                  refine X.ifne 168 149 i34_146 rfl rfl rfl (fun h1117 => ?_) (fun h1117 => ?_)
                  · have h1117c : (m g0 22 (8 + y7)) ≠ 0 := by omega
                    clear h1117 hz1116
                    refine X.cut [(0, zr g0 19), (1, zi y1), (2, zi 0), (3, zi 1), (4, zi 1), (5, zi 1), (7, zi y7)] i34_168 rfl ?_
                    refine X.iconst 169 i34_168 rfl rfl (by decide) ?_
                    refine X.istore 171 [(0, zr g0 19), (1, zi y1), (2, zi 0), (3, zi 1), (4, zi 1), (5, zi 1), (6, zi 0), (7, zi y7)] i34_169 rfl rfl rfl ?_
                    refine X.iinc 174 [(0, zr g0 19), (1, zi y1), (2, zi 0), (3, zi 1), (4, zi 1), (5, zi 1), (6, zi 0), (7, zi (y7 + 1))] i34_171 rfl rfl rfl (by omega) rfl ?_
                    refine X.goto 16 i34_174 rfl rfl ?_
                    exact ih 0 1 1 1 0 (y7 + 1) (by omega) (by omega) (by omega) (by omega) (by omega) (by omega) (by omega)
                  · have h1117c : (m g0 22 (8 + y7)) = 0 := by omega
                    clear h1117 hz1116
                    refine X.aload_n 150 i34_149 rfl rfl rfl ?_
                    refine X.getR 153 i34_150 rfl rfl (by decide) rfl rfl ?_
                    refine X.bipush 155 i34_153 rfl rfl (by decide) ?_
                    refine X.iload 157 i34_155 rfl rfl rfl ?_
                    refine X.iadd 158 i34_157 rfl rfl (by omega) ?_
                    refine X.lald 159 i34_158 rfl rfl (by decide) rfl (by omega) ?_
                    refine X.lconst (y := 0) 160 i34_159 rfl rfl rfl ?_
                    refine X.lcmp 161 i34_160 rfl rfl (fun z1118 hz1118 => ?_)
                    refine X.ifle 168 164 i34_161 rfl rfl rfl (fun h1119 => ?_) (fun h1119 => ?_)
                    · have h1119c : (m g0 22 (12 + y7)) ≤ 0 := by omega
                      clear h1119 hz1118
                      refine X.cut [(0, zr g0 19), (1, zi y1), (2, zi 0), (3, zi 1), (4, zi 1), (5, zi 1), (7, zi y7)] i34_168 rfl ?_
                      refine X.iconst 169 i34_168 rfl rfl (by decide) ?_
                      refine X.istore 171 [(0, zr g0 19), (1, zi y1), (2, zi 0), (3, zi 1), (4, zi 1), (5, zi 1), (6, zi 0), (7, zi y7)] i34_169 rfl rfl rfl ?_
                      refine X.iinc 174 [(0, zr g0 19), (1, zi y1), (2, zi 0), (3, zi 1), (4, zi 1), (5, zi 1), (6, zi 0), (7, zi (y7 + 1))] i34_171 rfl rfl rfl (by omega) rfl ?_
                      refine X.goto 16 i34_174 rfl rfl ?_
                      exact ih 0 1 1 1 0 (y7 + 1) (by omega) (by omega) (by omega) (by omega) (by omega) (by omega) (by omega)
                    · have h1119c : (m g0 22 (12 + y7)) > 0 := by omega
                      clear h1119 hz1118
                      refine X.cut [(0, zr g0 19), (1, zi y1), (2, zi 0), (3, zi 1), (4, zi 1), (5, zi 1), (7, zi y7)] i34_164 rfl ?_
                      refine X.iconst 165 i34_164 rfl rfl (by decide) ?_
                      refine X.goto 169 i34_165 rfl rfl ?_
                      refine X.istore 171 [(0, zr g0 19), (1, zi y1), (2, zi 0), (3, zi 1), (4, zi 1), (5, zi 1), (6, zi 1), (7, zi y7)] i34_169 rfl rfl rfl ?_
                      refine X.iinc 174 [(0, zr g0 19), (1, zi y1), (2, zi 0), (3, zi 1), (4, zi 1), (5, zi 1), (6, zi 1), (7, zi (y7 + 1))] i34_171 rfl rfl rfl (by omega) rfl ?_
                      refine X.goto 16 i34_174 rfl rfl ?_
                      exact ih 0 1 1 1 1 (y7 + 1) (by omega) (by omega) (by omega) (by omega) (by omega) (by omega) (by omega)
              · refine X.lload 125 i34_123 rfl rfl rfl ?_
                refine X.lconst (y := 0) 126 i34_125 rfl rfl rfl ?_
                refine X.lcmp 127 i34_126 rfl rfl (fun z1120 hz1120 => ?_)
                refine X.ifge 134 130 i34_127 rfl rfl rfl (fun h1121 => ?_) (fun h1121 => ?_)
                · have h1121c : (m g0 22 (0 + y7)) ≥ 0 := by omega
                  clear h1121 hz1120
                  refine X.cut [(0, zr g0 19), (1, zi y1), (2, zi 0), (3, zi 1), (4, zi 1), (6, zi y6), (7, zi y7), (8, zl (m g0 22 (8 + y7)))] i34_134 rfl ?_
                  refine X.iconst 135 i34_134 rfl rfl (by decide) ?_
                  refine X.istore 137 [(0, zr g0 19), (1, zi y1), (2, zi 0), (3, zi 1), (4, zi 1), (5, zi 0), (6, zi y6), (7, zi y7), (8, zl (m g0 22 (8 + y7)))] i34_135 rfl rfl rfl ?_
                  refine X.iload 139 i34_137 rfl rfl rfl ?_
                  refine X.ifne 164 142 i34_139 rfl rfl rfl (fun h1122 => ?_) (fun h1122 => ?_)
                  · refine X.cut [(0, zr g0 19), (1, zi y1), (2, zi 0), (3, zi 1), (4, zi 1), (5, zi 0), (7, zi y7)] i34_164 rfl ?_
                    refine X.iconst 165 i34_164 rfl rfl (by decide) ?_
                    refine X.goto 169 i34_165 rfl rfl ?_
                    refine X.istore 171 [(0, zr g0 19), (1, zi y1), (2, zi 0), (3, zi 1), (4, zi 1), (5, zi 0), (6, zi 1), (7, zi y7)] i34_169 rfl rfl rfl ?_
                    refine X.iinc 174 [(0, zr g0 19), (1, zi y1), (2, zi 0), (3, zi 1), (4, zi 1), (5, zi 0), (6, zi 1), (7, zi (y7 + 1))] i34_171 rfl rfl rfl (by omega) rfl ?_
                    refine X.goto 16 i34_174 rfl rfl ?_
                    exact ih 0 1 1 0 1 (y7 + 1) (by omega) (by omega) (by omega) (by omega) (by omega) (by omega) (by omega)
                  · refine X.lload 144 i34_142 rfl rfl rfl ?_
                    refine X.lconst (y := 0) 145 i34_144 rfl rfl rfl ?_
                    refine X.lcmp 146 i34_145 rfl rfl (fun z1123 hz1123 => ?_)
                    refine X.ifne 168 149 i34_146 rfl rfl rfl (fun h1124 => ?_) (fun h1124 => ?_)
                    · have h1124c : (m g0 22 (8 + y7)) ≠ 0 := by omega
                      clear h1124 hz1123
                      refine X.cut [(0, zr g0 19), (1, zi y1), (2, zi 0), (3, zi 1), (4, zi 1), (5, zi 0), (7, zi y7)] i34_168 rfl ?_
                      refine X.iconst 169 i34_168 rfl rfl (by decide) ?_
                      refine X.istore 171 [(0, zr g0 19), (1, zi y1), (2, zi 0), (3, zi 1), (4, zi 1), (5, zi 0), (6, zi 0), (7, zi y7)] i34_169 rfl rfl rfl ?_
                      refine X.iinc 174 [(0, zr g0 19), (1, zi y1), (2, zi 0), (3, zi 1), (4, zi 1), (5, zi 0), (6, zi 0), (7, zi (y7 + 1))] i34_171 rfl rfl rfl (by omega) rfl ?_
                      refine X.goto 16 i34_174 rfl rfl ?_
                      exact ih 0 1 1 0 0 (y7 + 1) (by omega) (by omega) (by omega) (by omega) (by omega) (by omega) (by omega)
                    · have h1124c : (m g0 22 (8 + y7)) = 0 := by omega
                      clear h1124 hz1123
                      refine X.aload_n 150 i34_149 rfl rfl rfl ?_
                      refine X.getR 153 i34_150 rfl rfl (by decide) rfl rfl ?_
                      refine X.bipush 155 i34_153 rfl rfl (by decide) ?_
                      refine X.iload 157 i34_155 rfl rfl rfl ?_
                      refine X.iadd 158 i34_157 rfl rfl (by omega) ?_
                      refine X.lald 159 i34_158 rfl rfl (by decide) rfl (by omega) ?_
                      refine X.lconst (y := 0) 160 i34_159 rfl rfl rfl ?_
                      refine X.lcmp 161 i34_160 rfl rfl (fun z1125 hz1125 => ?_)
                      refine X.ifle 168 164 i34_161 rfl rfl rfl (fun h1126 => ?_) (fun h1126 => ?_)
                      · have h1126c : (m g0 22 (12 + y7)) ≤ 0 := by omega
                        clear h1126 hz1125
                        refine X.cut [(0, zr g0 19), (1, zi y1), (2, zi 0), (3, zi 1), (4, zi 1), (5, zi 0), (7, zi y7)] i34_168 rfl ?_
                        refine X.iconst 169 i34_168 rfl rfl (by decide) ?_
                        refine X.istore 171 [(0, zr g0 19), (1, zi y1), (2, zi 0), (3, zi 1), (4, zi 1), (5, zi 0), (6, zi 0), (7, zi y7)] i34_169 rfl rfl rfl ?_
                        refine X.iinc 174 [(0, zr g0 19), (1, zi y1), (2, zi 0), (3, zi 1), (4, zi 1), (5, zi 0), (6, zi 0), (7, zi (y7 + 1))] i34_171 rfl rfl rfl (by omega) rfl ?_
                        refine X.goto 16 i34_174 rfl rfl ?_
                        exact ih 0 1 1 0 0 (y7 + 1) (by omega) (by omega) (by omega) (by omega) (by omega) (by omega) (by omega)
                      · have h1126c : (m g0 22 (12 + y7)) > 0 := by omega
                        clear h1126 hz1125
                        refine X.cut [(0, zr g0 19), (1, zi y1), (2, zi 0), (3, zi 1), (4, zi 1), (5, zi 0), (7, zi y7)] i34_164 rfl ?_
                        refine X.iconst 165 i34_164 rfl rfl (by decide) ?_
                        refine X.goto 169 i34_165 rfl rfl ?_
                        refine X.istore 171 [(0, zr g0 19), (1, zi y1), (2, zi 0), (3, zi 1), (4, zi 1), (5, zi 0), (6, zi 1), (7, zi y7)] i34_169 rfl rfl rfl ?_
                        refine X.iinc 174 [(0, zr g0 19), (1, zi y1), (2, zi 0), (3, zi 1), (4, zi 1), (5, zi 0), (6, zi 1), (7, zi (y7 + 1))] i34_171 rfl rfl rfl (by omega) rfl ?_
                        refine X.goto 16 i34_174 rfl rfl ?_
                        exact ih 0 1 1 0 1 (y7 + 1) (by omega) (by omega) (by omega) (by omega) (by omega) (by omega) (by omega)
                · have h1121c : (m g0 22 (0 + y7)) < 0 := by omega
                  clear h1121 hz1120
                  refine X.cut [(0, zr g0 19), (1, zi y1), (2, zi 0), (3, zi 1), (4, zi 1), (6, zi y6), (7, zi y7), (8, zl (m g0 22 (8 + y7)))] i34_130 rfl ?_
                  refine X.iconst 131 i34_130 rfl rfl (by decide) ?_
                  refine X.goto 135 i34_131 rfl rfl ?_
                  refine X.istore 137 [(0, zr g0 19), (1, zi y1), (2, zi 0), (3, zi 1), (4, zi 1), (5, zi 1), (6, zi y6), (7, zi y7), (8, zl (m g0 22 (8 + y7)))] i34_135 rfl rfl rfl ?_
                  refine X.iload 139 i34_137 rfl rfl rfl ?_
                  refine X.ifne 164 142 i34_139 rfl rfl rfl (fun h1127 => ?_) (fun h1127 => ?_)
                  · refine X.cut [(0, zr g0 19), (1, zi y1), (2, zi 0), (3, zi 1), (4, zi 1), (5, zi 1), (7, zi y7)] i34_164 rfl ?_
                    refine X.iconst 165 i34_164 rfl rfl (by decide) ?_
                    refine X.goto 169 i34_165 rfl rfl ?_
                    refine X.istore 171 [(0, zr g0 19), (1, zi y1), (2, zi 0), (3, zi 1), (4, zi 1), (5, zi 1), (6, zi 1), (7, zi y7)] i34_169 rfl rfl rfl ?_
                    refine X.iinc 174 [(0, zr g0 19), (1, zi y1), (2, zi 0), (3, zi 1), (4, zi 1), (5, zi 1), (6, zi 1), (7, zi (y7 + 1))] i34_171 rfl rfl rfl (by omega) rfl ?_
                    refine X.goto 16 i34_174 rfl rfl ?_
                    exact ih 0 1 1 1 1 (y7 + 1) (by omega) (by omega) (by omega) (by omega) (by omega) (by omega) (by omega)
                  · refine X.lload 144 i34_142 rfl rfl rfl ?_
                    refine X.lconst (y := 0) 145 i34_144 rfl rfl rfl ?_
                    refine X.lcmp 146 i34_145 rfl rfl (fun z1128 hz1128 => ?_)
                    refine X.ifne 168 149 i34_146 rfl rfl rfl (fun h1129 => ?_) (fun h1129 => ?_)
                    · have h1129c : (m g0 22 (8 + y7)) ≠ 0 := by omega
                      clear h1129 hz1128
                      refine X.cut [(0, zr g0 19), (1, zi y1), (2, zi 0), (3, zi 1), (4, zi 1), (5, zi 1), (7, zi y7)] i34_168 rfl ?_
                      refine X.iconst 169 i34_168 rfl rfl (by decide) ?_
                      refine X.istore 171 [(0, zr g0 19), (1, zi y1), (2, zi 0), (3, zi 1), (4, zi 1), (5, zi 1), (6, zi 0), (7, zi y7)] i34_169 rfl rfl rfl ?_
                      refine X.iinc 174 [(0, zr g0 19), (1, zi y1), (2, zi 0), (3, zi 1), (4, zi 1), (5, zi 1), (6, zi 0), (7, zi (y7 + 1))] i34_171 rfl rfl rfl (by omega) rfl ?_
                      refine X.goto 16 i34_174 rfl rfl ?_
                      exact ih 0 1 1 1 0 (y7 + 1) (by omega) (by omega) (by omega) (by omega) (by omega) (by omega) (by omega)
                    · have h1129c : (m g0 22 (8 + y7)) = 0 := by omega
                      clear h1129 hz1128
                      refine X.aload_n 150 i34_149 rfl rfl rfl ?_
                      refine X.getR 153 i34_150 rfl rfl (by decide) rfl rfl ?_
                      refine X.bipush 155 i34_153 rfl rfl (by decide) ?_
                      refine X.iload 157 i34_155 rfl rfl rfl ?_
                      refine X.iadd 158 i34_157 rfl rfl (by omega) ?_
                      refine X.lald 159 i34_158 rfl rfl (by decide) rfl (by omega) ?_
                      refine X.lconst (y := 0) 160 i34_159 rfl rfl rfl ?_
                      refine X.lcmp 161 i34_160 rfl rfl (fun z1130 hz1130 => ?_)
                      refine X.ifle 168 164 i34_161 rfl rfl rfl (fun h1131 => ?_) (fun h1131 => ?_)
                      · have h1131c : (m g0 22 (12 + y7)) ≤ 0 := by omega
                        clear h1131 hz1130
                        refine X.cut [(0, zr g0 19), (1, zi y1), (2, zi 0), (3, zi 1), (4, zi 1), (5, zi 1), (7, zi y7)] i34_168 rfl ?_
                        refine X.iconst 169 i34_168 rfl rfl (by decide) ?_
                        refine X.istore 171 [(0, zr g0 19), (1, zi y1), (2, zi 0), (3, zi 1), (4, zi 1), (5, zi 1), (6, zi 0), (7, zi y7)] i34_169 rfl rfl rfl ?_
                        refine X.iinc 174 [(0, zr g0 19), (1, zi y1), (2, zi 0), (3, zi 1), (4, zi 1), (5, zi 1), (6, zi 0), (7, zi (y7 + 1))] i34_171 rfl rfl rfl (by omega) rfl ?_
                        refine X.goto 16 i34_174 rfl rfl ?_
                        exact ih 0 1 1 1 0 (y7 + 1) (by omega) (by omega) (by omega) (by omega) (by omega) (by omega) (by omega)
                      · have h1131c : (m g0 22 (12 + y7)) > 0 := by omega
                        clear h1131 hz1130
                        refine X.cut [(0, zr g0 19), (1, zi y1), (2, zi 0), (3, zi 1), (4, zi 1), (5, zi 1), (7, zi y7)] i34_164 rfl ?_
                        refine X.iconst 165 i34_164 rfl rfl (by decide) ?_
                        refine X.goto 169 i34_165 rfl rfl ?_
                        refine X.istore 171 [(0, zr g0 19), (1, zi y1), (2, zi 0), (3, zi 1), (4, zi 1), (5, zi 1), (6, zi 1), (7, zi y7)] i34_169 rfl rfl rfl ?_
                        refine X.iinc 174 [(0, zr g0 19), (1, zi y1), (2, zi 0), (3, zi 1), (4, zi 1), (5, zi 1), (6, zi 1), (7, zi (y7 + 1))] i34_171 rfl rfl rfl (by omega) rfl ?_
                        refine X.goto 16 i34_174 rfl rfl ?_
                        exact ih 0 1 1 1 1 (y7 + 1) (by omega) (by omega) (by omega) (by omega) (by omega) (by omega) (by omega)
            · refine X.lload 106 i34_104 rfl rfl rfl ?_
              refine X.lconst (y := 0) 107 i34_106 rfl rfl rfl ?_
              refine X.lcmp 108 i34_107 rfl rfl (fun z1132 hz1132 => ?_)
              refine X.ifle 115 111 i34_108 rfl rfl rfl (fun h1133 => ?_) (fun h1133 => ?_)
              · have h1133c : (m g0 22 (0 + y7)) ≤ 0 := by omega
                clear h1133 hz1132
                refine X.cut [(0, zr g0 19), (1, zi y1), (2, zi 0), (3, zi 1), (5, zi y5), (6, zi y6), (7, zi y7), (8, zl (m g0 22 (8 + y7))), (10, zl (m g0 22 (0 + y7)))] i34_115 rfl ?_
                refine X.iconst 116 i34_115 rfl rfl (by decide) ?_
                refine X.istore 118 [(0, zr g0 19), (1, zi y1), (2, zi 0), (3, zi 1), (4, zi 0), (5, zi y5), (6, zi y6), (7, zi y7), (8, zl (m g0 22 (8 + y7))), (10, zl (m g0 22 (0 + y7)))] i34_116 rfl rfl rfl ?_
                refine X.iload 120 i34_118 rfl rfl rfl ?_
                refine X.ifne 130 123 i34_120 rfl rfl rfl (fun h1134 => ?_) (fun h1134 => ?_)
                · refine X.cut [(0, zr g0 19), (1, zi y1), (2, zi 0), (3, zi 1), (4, zi 0), (6, zi y6), (7, zi y7), (8, zl (m g0 22 (8 + y7)))] i34_130 rfl ?_
                  refine X.iconst 131 i34_130 rfl rfl (by decide) ?_
                  refine X.goto 135 i34_131 rfl rfl ?_
                  refine X.istore 137 [(0, zr g0 19), (1, zi y1), (2, zi 0), (3, zi 1), (4, zi 0), (5, zi 1), (6, zi y6), (7, zi y7), (8, zl (m g0 22 (8 + y7)))] i34_135 rfl rfl rfl ?_
                  refine X.iload 139 i34_137 rfl rfl rfl ?_
                  refine X.ifne 164 142 i34_139 rfl rfl rfl (fun h1135 => ?_) (fun h1135 => ?_)
                  · refine X.cut [(0, zr g0 19), (1, zi y1), (2, zi 0), (3, zi 1), (4, zi 0), (5, zi 1), (7, zi y7)] i34_164 rfl ?_
                    refine X.iconst 165 i34_164 rfl rfl (by decide) ?_
                    refine X.goto 169 i34_165 rfl rfl ?_
                    refine X.istore 171 [(0, zr g0 19), (1, zi y1), (2, zi 0), (3, zi 1), (4, zi 0), (5, zi 1), (6, zi 1), (7, zi y7)] i34_169 rfl rfl rfl ?_
                    refine X.iinc 174 [(0, zr g0 19), (1, zi y1), (2, zi 0), (3, zi 1), (4, zi 0), (5, zi 1), (6, zi 1), (7, zi (y7 + 1))] i34_171 rfl rfl rfl (by omega) rfl ?_
                    refine X.goto 16 i34_174 rfl rfl ?_
                    exact ih 0 1 0 1 1 (y7 + 1) (by omega) (by omega) (by omega) (by omega) (by omega) (by omega) (by omega)
                  · refine X.lload 144 i34_142 rfl rfl rfl ?_
                    refine X.lconst (y := 0) 145 i34_144 rfl rfl rfl ?_
                    refine X.lcmp 146 i34_145 rfl rfl (fun z1136 hz1136 => ?_)
                    refine X.ifne 168 149 i34_146 rfl rfl rfl (fun h1137 => ?_) (fun h1137 => ?_)
                    · have h1137c : (m g0 22 (8 + y7)) ≠ 0 := by omega
                      clear h1137 hz1136
                      refine X.cut [(0, zr g0 19), (1, zi y1), (2, zi 0), (3, zi 1), (4, zi 0), (5, zi 1), (7, zi y7)] i34_168 rfl ?_
                      refine X.iconst 169 i34_168 rfl rfl (by decide) ?_
                      refine X.istore 171 [(0, zr g0 19), (1, zi y1), (2, zi 0), (3, zi 1), (4, zi 0), (5, zi 1), (6, zi 0), (7, zi y7)] i34_169 rfl rfl rfl ?_
                      refine X.iinc 174 [(0, zr g0 19), (1, zi y1), (2, zi 0), (3, zi 1), (4, zi 0), (5, zi 1), (6, zi 0), (7, zi (y7 + 1))] i34_171 rfl rfl rfl (by omega) rfl ?_
                      refine X.goto 16 i34_174 rfl rfl ?_
                      exact ih 0 1 0 1 0 (y7 + 1) (by omega) (by omega) (by omega) (by omega) (by omega) (by omega) (by omega)
                    · have h1137c : (m g0 22 (8 + y7)) = 0 := by omega
                      clear h1137 hz1136
                      refine X.aload_n 150 i34_149 rfl rfl rfl ?_
                      refine X.getR 153 i34_150 rfl rfl (by decide) rfl rfl ?_
                      refine X.bipush 155 i34_153 rfl rfl (by decide) ?_
                      refine X.iload 157 i34_155 rfl rfl rfl ?_
                      refine X.iadd 158 i34_157 rfl rfl (by omega) ?_
                      refine X.lald 159 i34_158 rfl rfl (by decide) rfl (by omega) ?_
                      refine X.lconst (y := 0) 160 i34_159 rfl rfl rfl ?_
                      refine X.lcmp 161 i34_160 rfl rfl (fun z1138 hz1138 => ?_)
                      refine X.ifle 168 164 i34_161 rfl rfl rfl (fun h1139 => ?_) (fun h1139 => ?_)
                      · have h1139c : (m g0 22 (12 + y7)) ≤ 0 := by omega
                        clear h1139 hz1138
                        refine X.cut [(0, zr g0 19), (1, zi y1), (2, zi 0), (3, zi 1), (4, zi 0), (5, zi 1), (7, zi y7)] i34_168 rfl ?_
                        refine X.iconst 169 i34_168 rfl rfl (by decide) ?_
                        refine X.istore 171 [(0, zr g0 19), (1, zi y1), (2, zi 0), (3, zi 1), (4, zi 0), (5, zi 1), (6, zi 0), (7, zi y7)] i34_169 rfl rfl rfl ?_
                        refine X.iinc 174 [(0, zr g0 19), (1, zi y1), (2, zi 0), (3, zi 1), (4, zi 0), (5, zi 1), (6, zi 0), (7, zi (y7 + 1))] i34_171 rfl rfl rfl (by omega) rfl ?_
                        refine X.goto 16 i34_174 rfl rfl ?_
                        exact ih 0 1 0 1 0 (y7 + 1) (by omega) (by omega) (by omega) (by omega) (by omega) (by omega) (by omega)
                      · have h1139c : (m g0 22 (12 + y7)) > 0 := by omega
                        clear h1139 hz1138
                        refine X.cut [(0, zr g0 19), (1, zi y1), (2, zi 0), (3, zi 1), (4, zi 0), (5, zi 1), (7, zi y7)] i34_164 rfl ?_
                        refine X.iconst 165 i34_164 rfl rfl (by decide) ?_
                        refine X.goto 169 i34_165 rfl rfl ?_
                        refine X.istore 171 [(0, zr g0 19), (1, zi y1), (2, zi 0), (3, zi 1), (4, zi 0), (5, zi 1), (6, zi 1), (7, zi y7)] i34_169 rfl rfl rfl ?_
                        refine X.iinc 174 [(0, zr g0 19), (1, zi y1), (2, zi 0), (3, zi 1), (4, zi 0), (5, zi 1), (6, zi 1), (7, zi (y7 + 1))] i34_171 rfl rfl rfl (by omega) rfl ?_
                        refine X.goto 16 i34_174 rfl rfl ?_
                        exact ih 0 1 0 1 1 (y7 + 1) (by omega) (by omega) (by omega) (by omega) (by omega) (by omega) (by omega)
                · refine X.lload 125 i34_123 rfl rfl rfl ?_
                  refine X.lconst (y := 0) 126 i34_125 rfl rfl rfl ?_
                  refine X.lcmp 127 i34_126 rfl rfl (fun z1140 hz1140 => ?_)
                  refine X.ifge 134 130 i34_127 rfl rfl rfl (fun h1141 => ?_) (fun h1141 => ?_)
                  · have h1141c : (m g0 22 (0 + y7)) ≥ 0 := by omega
                    clear h1141 hz1140
                    refine X.cut [(0, zr g0 19), (1, zi y1), (2, zi 0), (3, zi 1), (4, zi 0), (6, zi y6), (7, zi y7), (8, zl (m g0 22 (8 + y7)))] i34_134 rfl ?_
                    refine X.iconst 135 i34_134 rfl rfl (by decide) ?_
                    refine X.istore 137 [(0, zr g0 19), (1, zi y1), (2, zi 0), (3, zi 1), (4, zi 0), (5, zi 0), (6, zi y6), (7, zi y7), (8, zl (m g0 22 (8 + y7)))] i34_135 rfl rfl rfl ?_
                    refine X.iload 139 i34_137 rfl rfl rfl ?_
                    refine X.ifne 164 142 i34_139 rfl rfl rfl (fun h1142 => ?_) (fun h1142 => ?_)
                    · refine X.cut [(0, zr g0 19), (1, zi y1), (2, zi 0), (3, zi 1), (4, zi 0), (5, zi 0), (7, zi y7)] i34_164 rfl ?_
                      refine X.iconst 165 i34_164 rfl rfl (by decide) ?_
                      refine X.goto 169 i34_165 rfl rfl ?_
                      refine X.istore 171 [(0, zr g0 19), (1, zi y1), (2, zi 0), (3, zi 1), (4, zi 0), (5, zi 0), (6, zi 1), (7, zi y7)] i34_169 rfl rfl rfl ?_
                      refine X.iinc 174 [(0, zr g0 19), (1, zi y1), (2, zi 0), (3, zi 1), (4, zi 0), (5, zi 0), (6, zi 1), (7, zi (y7 + 1))] i34_171 rfl rfl rfl (by omega) rfl ?_
                      refine X.goto 16 i34_174 rfl rfl ?_
                      exact ih 0 1 0 0 1 (y7 + 1) (by omega) (by omega) (by omega) (by omega) (by omega) (by omega) (by omega)
                    · refine X.lload 144 i34_142 rfl rfl rfl ?_
                      refine X.lconst (y := 0) 145 i34_144 rfl rfl rfl ?_
                      refine X.lcmp 146 i34_145 rfl rfl (fun z1143 hz1143 => ?_)
                      refine X.ifne 168 149 i34_146 rfl rfl rfl (fun h1144 => ?_) (fun h1144 => ?_)
                      · have h1144c : (m g0 22 (8 + y7)) ≠ 0 := by omega
                        clear h1144 hz1143
                        refine X.cut [(0, zr g0 19), (1, zi y1), (2, zi 0), (3, zi 1), (4, zi 0), (5, zi 0), (7, zi y7)] i34_168 rfl ?_
                        refine X.iconst 169 i34_168 rfl rfl (by decide) ?_
                        refine X.istore 171 [(0, zr g0 19), (1, zi y1), (2, zi 0), (3, zi 1), (4, zi 0), (5, zi 0), (6, zi 0), (7, zi y7)] i34_169 rfl rfl rfl ?_
                        refine X.iinc 174 [(0, zr g0 19), (1, zi y1), (2, zi 0), (3, zi 1), (4, zi 0), (5, zi 0), (6, zi 0), (7, zi (y7 + 1))] i34_171 rfl rfl rfl (by omega) rfl ?_
                        refine X.goto 16 i34_174 rfl rfl ?_
                        exact ih 0 1 0 0 0 (y7 + 1) (by omega) (by omega) (by omega) (by omega) (by omega) (by omega) (by omega)
                      · have h1144c : (m g0 22 (8 + y7)) = 0 := by omega
                        clear h1144 hz1143
                        refine X.aload_n 150 i34_149 rfl rfl rfl ?_
                        refine X.getR 153 i34_150 rfl rfl (by decide) rfl rfl ?_
                        refine X.bipush 155 i34_153 rfl rfl (by decide) ?_
                        refine X.iload 157 i34_155 rfl rfl rfl ?_
                        refine X.iadd 158 i34_157 rfl rfl (by omega) ?_
                        refine X.lald 159 i34_158 rfl rfl (by decide) rfl (by omega) ?_
                        refine X.lconst (y := 0) 160 i34_159 rfl rfl rfl ?_
                        refine X.lcmp 161 i34_160 rfl rfl (fun z1145 hz1145 => ?_)
                        refine X.ifle 168 164 i34_161 rfl rfl rfl (fun h1146 => ?_) (fun h1146 => ?_)
                        · have h1146c : (m g0 22 (12 + y7)) ≤ 0 := by omega
                          clear h1146 hz1145
                          refine X.cut [(0, zr g0 19), (1, zi y1), (2, zi 0), (3, zi 1), (4, zi 0), (5, zi 0), (7, zi y7)] i34_168 rfl ?_
                          refine X.iconst 169 i34_168 rfl rfl (by decide) ?_
                          refine X.istore 171 [(0, zr g0 19), (1, zi y1), (2, zi 0), (3, zi 1), (4, zi 0), (5, zi 0), (6, zi 0), (7, zi y7)] i34_169 rfl rfl rfl ?_
                          refine X.iinc 174 [(0, zr g0 19), (1, zi y1), (2, zi 0), (3, zi 1), (4, zi 0), (5, zi 0), (6, zi 0), (7, zi (y7 + 1))] i34_171 rfl rfl rfl (by omega) rfl ?_
                          refine X.goto 16 i34_174 rfl rfl ?_
                          exact ih 0 1 0 0 0 (y7 + 1) (by omega) (by omega) (by omega) (by omega) (by omega) (by omega) (by omega)
                        · have h1146c : (m g0 22 (12 + y7)) > 0 := by omega
                          clear h1146 hz1145
                          refine X.cut [(0, zr g0 19), (1, zi y1), (2, zi 0), (3, zi 1), (4, zi 0), (5, zi 0), (7, zi y7)] i34_164 rfl ?_
                          refine X.iconst 165 i34_164 rfl rfl (by decide) ?_
                          refine X.goto 169 i34_165 rfl rfl ?_
                          refine X.istore 171 [(0, zr g0 19), (1, zi y1), (2, zi 0), (3, zi 1), (4, zi 0), (5, zi 0), (6, zi 1), (7, zi y7)] i34_169 rfl rfl rfl ?_
                          refine X.iinc 174 [(0, zr g0 19), (1, zi y1), (2, zi 0), (3, zi 1), (4, zi 0), (5, zi 0), (6, zi 1), (7, zi (y7 + 1))] i34_171 rfl rfl rfl (by omega) rfl ?_
                          refine X.goto 16 i34_174 rfl rfl ?_
                          exact ih 0 1 0 0 1 (y7 + 1) (by omega) (by omega) (by omega) (by omega) (by omega) (by omega) (by omega)
                  · have h1141c : (m g0 22 (0 + y7)) < 0 := by omega
                    clear h1141 hz1140
                    refine X.cut [(0, zr g0 19), (1, zi y1), (2, zi 0), (3, zi 1), (4, zi 0), (6, zi y6), (7, zi y7), (8, zl (m g0 22 (8 + y7)))] i34_130 rfl ?_
                    refine X.iconst 131 i34_130 rfl rfl (by decide) ?_
                    refine X.goto 135 i34_131 rfl rfl ?_
                    refine X.istore 137 [(0, zr g0 19), (1, zi y1), (2, zi 0), (3, zi 1), (4, zi 0), (5, zi 1), (6, zi y6), (7, zi y7), (8, zl (m g0 22 (8 + y7)))] i34_135 rfl rfl rfl ?_
                    refine X.iload 139 i34_137 rfl rfl rfl ?_
                    refine X.ifne 164 142 i34_139 rfl rfl rfl (fun h1147 => ?_) (fun h1147 => ?_)
                    · refine X.cut [(0, zr g0 19), (1, zi y1), (2, zi 0), (3, zi 1), (4, zi 0), (5, zi 1), (7, zi y7)] i34_164 rfl ?_
                      refine X.iconst 165 i34_164 rfl rfl (by decide) ?_
                      refine X.goto 169 i34_165 rfl rfl ?_
                      refine X.istore 171 [(0, zr g0 19), (1, zi y1), (2, zi 0), (3, zi 1), (4, zi 0), (5, zi 1), (6, zi 1), (7, zi y7)] i34_169 rfl rfl rfl ?_
                      refine X.iinc 174 [(0, zr g0 19), (1, zi y1), (2, zi 0), (3, zi 1), (4, zi 0), (5, zi 1), (6, zi 1), (7, zi (y7 + 1))] i34_171 rfl rfl rfl (by omega) rfl ?_
                      refine X.goto 16 i34_174 rfl rfl ?_
                      exact ih 0 1 0 1 1 (y7 + 1) (by omega) (by omega) (by omega) (by omega) (by omega) (by omega) (by omega)
                    · refine X.lload 144 i34_142 rfl rfl rfl ?_
                      refine X.lconst (y := 0) 145 i34_144 rfl rfl rfl ?_
                      refine X.lcmp 146 i34_145 rfl rfl (fun z1148 hz1148 => ?_)
                      refine X.ifne 168 149 i34_146 rfl rfl rfl (fun h1149 => ?_) (fun h1149 => ?_)
                      · have h1149c : (m g0 22 (8 + y7)) ≠ 0 := by omega
                        clear h1149 hz1148
                        refine X.cut [(0, zr g0 19), (1, zi y1), (2, zi 0), (3, zi 1), (4, zi 0), (5, zi 1), (7, zi y7)] i34_168 rfl ?_
                        refine X.iconst 169 i34_168 rfl rfl (by decide) ?_
                        refine X.istore 171 [(0, zr g0 19), (1, zi y1), (2, zi 0), (3, zi 1), (4, zi 0), (5, zi 1), (6, zi 0), (7, zi y7)] i34_169 rfl rfl rfl ?_
                        refine X.iinc 174 [(0, zr g0 19), (1, zi y1), (2, zi 0), (3, zi 1), (4, zi 0), (5, zi 1), (6, zi 0), (7, zi (y7 + 1))] i34_171 rfl rfl rfl (by omega) rfl ?_
                        refine X.goto 16 i34_174 rfl rfl ?_
                        exact ih 0 1 0 1 0 (y7 + 1) (by omega) (by omega) (by omega) (by omega) (by omega) (by omega) (by omega)
                      · have h1149c : (m g0 22 (8 + y7)) = 0 := by omega
                        clear h1149 hz1148
                        refine X.aload_n 150 i34_149 rfl rfl rfl ?_
                        refine X.getR 153 i34_150 rfl rfl (by decide) rfl rfl ?_
                        refine X.bipush 155 i34_153 rfl rfl (by decide) ?_
                        refine X.iload 157 i34_155 rfl rfl rfl ?_
                        refine X.iadd 158 i34_157 rfl rfl (by omega) ?_
                        refine X.lald 159 i34_158 rfl rfl (by decide) rfl (by omega) ?_
                        refine X.lconst (y := 0) 160 i34_159 rfl rfl rfl ?_
                        refine X.lcmp 161 i34_160 rfl rfl (fun z1150 hz1150 => ?_)
                        refine X.ifle 168 164 i34_161 rfl rfl rfl (fun h1151 => ?_) (fun h1151 => ?_)
                        · have h1151c : (m g0 22 (12 + y7)) ≤ 0 := by omega
                          clear h1151 hz1150
                          refine X.cut [(0, zr g0 19), (1, zi y1), (2, zi 0), (3, zi 1), (4, zi 0), (5, zi 1), (7, zi y7)] i34_168 rfl ?_
                          refine X.iconst 169 i34_168 rfl rfl (by decide) ?_
                          refine X.istore 171 [(0, zr g0 19), (1, zi y1), (2, zi 0), (3, zi 1), (4, zi 0), (5, zi 1), (6, zi 0), (7, zi y7)] i34_169 rfl rfl rfl ?_
                          refine X.iinc 174 [(0, zr g0 19), (1, zi y1), (2, zi 0), (3, zi 1), (4, zi 0), (5, zi 1), (6, zi 0), (7, zi (y7 + 1))] i34_171 rfl rfl rfl (by omega) rfl ?_
                          refine X.goto 16 i34_174 rfl rfl ?_
                          exact ih 0 1 0 1 0 (y7 + 1) (by omega) (by omega) (by omega) (by omega) (by omega) (by omega) (by omega)
                        · have h1151c : (m g0 22 (12 + y7)) > 0 := by omega
                          clear h1151 hz1150
                          refine X.cut [(0, zr g0 19), (1, zi y1), (2, zi 0), (3, zi 1), (4, zi 0), (5, zi 1), (7, zi y7)] i34_164 rfl ?_
                          refine X.iconst 165 i34_164 rfl rfl (by decide) ?_
                          refine X.goto 169 i34_165 rfl rfl ?_
                          refine X.istore 171 [(0, zr g0 19), (1, zi y1), (2, zi 0), (3, zi 1), (4, zi 0), (5, zi 1), (6, zi 1), (7, zi y7)] i34_169 rfl rfl rfl ?_
                          refine X.iinc 174 [(0, zr g0 19), (1, zi y1), (2, zi 0), (3, zi 1), (4, zi 0), (5, zi 1), (6, zi 1), (7, zi (y7 + 1))] i34_171 rfl rfl rfl (by omega) rfl ?_
                          refine X.goto 16 i34_174 rfl rfl ?_
                          exact ih 0 1 0 1 1 (y7 + 1) (by omega) (by omega) (by omega) (by omega) (by omega) (by omega) (by omega)
              · have h1133c : (m g0 22 (0 + y7)) > 0 := by omega
                clear h1133 hz1132
                refine X.cut [(0, zr g0 19), (1, zi y1), (2, zi 0), (3, zi 1), (5, zi y5), (6, zi y6), (7, zi y7), (8, zl (m g0 22 (8 + y7))), (10, zl (m g0 22 (0 + y7)))] i34_111 rfl ?_
                refine X.iconst 112 i34_111 rfl rfl (by decide) ?_
                refine X.goto 116 i34_112 rfl rfl ?_
                refine X.istore 118 [(0, zr g0 19), (1, zi y1), (2, zi 0), (3, zi 1), (4, zi 1), (5, zi y5), (6, zi y6), (7, zi y7), (8, zl (m g0 22 (8 + y7))), (10, zl (m g0 22 (0 + y7)))] i34_116 rfl rfl rfl ?_
                refine X.iload 120 i34_118 rfl rfl rfl ?_
                refine X.ifne 130 123 i34_120 rfl rfl rfl (fun h1152 => ?_) (fun h1152 => ?_)
                · refine X.cut [(0, zr g0 19), (1, zi y1), (2, zi 0), (3, zi 1), (4, zi 1), (6, zi y6), (7, zi y7), (8, zl (m g0 22 (8 + y7)))] i34_130 rfl ?_
                  refine X.iconst 131 i34_130 rfl rfl (by decide) ?_
                  refine X.goto 135 i34_131 rfl rfl ?_
                  refine X.istore 137 [(0, zr g0 19), (1, zi y1), (2, zi 0), (3, zi 1), (4, zi 1), (5, zi 1), (6, zi y6), (7, zi y7), (8, zl (m g0 22 (8 + y7)))] i34_135 rfl rfl rfl ?_
                  refine X.iload 139 i34_137 rfl rfl rfl ?_
                  refine X.ifne 164 142 i34_139 rfl rfl rfl (fun h1153 => ?_) (fun h1153 => ?_)
                  · refine X.cut [(0, zr g0 19), (1, zi y1), (2, zi 0), (3, zi 1), (4, zi 1), (5, zi 1), (7, zi y7)] i34_164 rfl ?_
                    refine X.iconst 165 i34_164 rfl rfl (by decide) ?_
                    refine X.goto 169 i34_165 rfl rfl ?_
                    refine X.istore 171 [(0, zr g0 19), (1, zi y1), (2, zi 0), (3, zi 1), (4, zi 1), (5, zi 1), (6, zi 1), (7, zi y7)] i34_169 rfl rfl rfl ?_
                    refine X.iinc 174 [(0, zr g0 19), (1, zi y1), (2, zi 0), (3, zi 1), (4, zi 1), (5, zi 1), (6, zi 1), (7, zi (y7 + 1))] i34_171 rfl rfl rfl (by omega) rfl ?_
                    refine X.goto 16 i34_174 rfl rfl ?_
                    exact ih 0 1 1 1 1 (y7 + 1) (by omega) (by omega) (by omega) (by omega) (by omega) (by omega) (by omega)
                  · refine X.lload 144 i34_142 rfl rfl rfl ?_
                    refine X.lconst (y := 0) 145 i34_144 rfl rfl rfl ?_
                    refine X.lcmp 146 i34_145 rfl rfl (fun z1154 hz1154 => ?_)
                    refine X.ifne 168 149 i34_146 rfl rfl rfl (fun h1155 => ?_) (fun h1155 => ?_)
                    · have h1155c : (m g0 22 (8 + y7)) ≠ 0 := by omega
                      clear h1155 hz1154
                      refine X.cut [(0, zr g0 19), (1, zi y1), (2, zi 0), (3, zi 1), (4, zi 1), (5, zi 1), (7, zi y7)] i34_168 rfl ?_
                      refine X.iconst 169 i34_168 rfl rfl (by decide) ?_
                      refine X.istore 171 [(0, zr g0 19), (1, zi y1), (2, zi 0), (3, zi 1), (4, zi 1), (5, zi 1), (6, zi 0), (7, zi y7)] i34_169 rfl rfl rfl ?_
                      refine X.iinc 174 [(0, zr g0 19), (1, zi y1), (2, zi 0), (3, zi 1), (4, zi 1), (5, zi 1), (6, zi 0), (7, zi (y7 + 1))] i34_171 rfl rfl rfl (by omega) rfl ?_
                      refine X.goto 16 i34_174 rfl rfl ?_
                      exact ih 0 1 1 1 0 (y7 + 1) (by omega) (by omega) (by omega) (by omega) (by omega) (by omega) (by omega)
                    · have h1155c : (m g0 22 (8 + y7)) = 0 := by omega
                      clear h1155 hz1154
                      refine X.aload_n 150 i34_149 rfl rfl rfl ?_
                      refine X.getR 153 i34_150 rfl rfl (by decide) rfl rfl ?_
                      refine X.bipush 155 i34_153 rfl rfl (by decide) ?_
                      refine X.iload 157 i34_155 rfl rfl rfl ?_
                      refine X.iadd 158 i34_157 rfl rfl (by omega) ?_
                      refine X.lald 159 i34_158 rfl rfl (by decide) rfl (by omega) ?_
                      refine X.lconst (y := 0) 160 i34_159 rfl rfl rfl ?_
                      refine X.lcmp 161 i34_160 rfl rfl (fun z1156 hz1156 => ?_)
                      refine X.ifle 168 164 i34_161 rfl rfl rfl (fun h1157 => ?_) (fun h1157 => ?_)
                      · have h1157c : (m g0 22 (12 + y7)) ≤ 0 := by omega
                        clear h1157 hz1156
                        refine X.cut [(0, zr g0 19), (1, zi y1), (2, zi 0), (3, zi 1), (4, zi 1), (5, zi 1), (7, zi y7)] i34_168 rfl ?_
                        refine X.iconst 169 i34_168 rfl rfl (by decide) ?_
                        refine X.istore 171 [(0, zr g0 19), (1, zi y1), (2, zi 0), (3, zi 1), (4, zi 1), (5, zi 1), (6, zi 0), (7, zi y7)] i34_169 rfl rfl rfl ?_
                        refine X.iinc 174 [(0, zr g0 19), (1, zi y1), (2, zi 0), (3, zi 1), (4, zi 1), (5, zi 1), (6, zi 0), (7, zi (y7 + 1))] i34_171 rfl rfl rfl (by omega) rfl ?_
                        refine X.goto 16 i34_174 rfl rfl ?_
                        exact ih 0 1 1 1 0 (y7 + 1) (by omega) (by omega) (by omega) (by omega) (by omega) (by omega) (by omega)
                      · have h1157c : (m g0 22 (12 + y7)) > 0 := by omega
                        clear h1157 hz1156
                        refine X.cut [(0, zr g0 19), (1, zi y1), (2, zi 0), (3, zi 1), (4, zi 1), (5, zi 1), (7, zi y7)] i34_164 rfl ?_
                        refine X.iconst 165 i34_164 rfl rfl (by decide) ?_
                        refine X.goto 169 i34_165 rfl rfl ?_
                        refine X.istore 171 [(0, zr g0 19), (1, zi y1), (2, zi 0), (3, zi 1), (4, zi 1), (5, zi 1), (6, zi 1), (7, zi y7)] i34_169 rfl rfl rfl ?_
                        refine X.iinc 174 [(0, zr g0 19), (1, zi y1), (2, zi 0), (3, zi 1), (4, zi 1), (5, zi 1), (6, zi 1), (7, zi (y7 + 1))] i34_171 rfl rfl rfl (by omega) rfl ?_
                        refine X.goto 16 i34_174 rfl rfl ?_
                        exact ih 0 1 1 1 1 (y7 + 1) (by omega) (by omega) (by omega) (by omega) (by omega) (by omega) (by omega)
                · refine X.lload 125 i34_123 rfl rfl rfl ?_
                  refine X.lconst (y := 0) 126 i34_125 rfl rfl rfl ?_
                  refine X.lcmp 127 i34_126 rfl rfl (fun z1158 hz1158 => ?_)
                  refine X.ifge 134 130 i34_127 rfl rfl rfl (fun h1159 => ?_) (fun h1159 => (by exfalso; omega))
                  have h1159c : (m g0 22 (0 + y7)) ≥ 0 := by omega
                  clear h1159 hz1158
                  refine X.cut [(0, zr g0 19), (1, zi y1), (2, zi 0), (3, zi 1), (4, zi 1), (6, zi y6), (7, zi y7), (8, zl (m g0 22 (8 + y7)))] i34_134 rfl ?_
                  refine X.iconst 135 i34_134 rfl rfl (by decide) ?_
                  refine X.istore 137 [(0, zr g0 19), (1, zi y1), (2, zi 0), (3, zi 1), (4, zi 1), (5, zi 0), (6, zi y6), (7, zi y7), (8, zl (m g0 22 (8 + y7)))] i34_135 rfl rfl rfl ?_
                  refine X.iload 139 i34_137 rfl rfl rfl ?_
                  refine X.ifne 164 142 i34_139 rfl rfl rfl (fun h1160 => ?_) (fun h1160 => ?_)
                  · refine X.cut [(0, zr g0 19), (1, zi y1), (2, zi 0), (3, zi 1), (4, zi 1), (5, zi 0), (7, zi y7)] i34_164 rfl ?_
                    refine X.iconst 165 i34_164 rfl rfl (by decide) ?_
                    refine X.goto 169 i34_165 rfl rfl ?_
                    refine X.istore 171 [(0, zr g0 19), (1, zi y1), (2, zi 0), (3, zi 1), (4, zi 1), (5, zi 0), (6, zi 1), (7, zi y7)] i34_169 rfl rfl rfl ?_
                    refine X.iinc 174 [(0, zr g0 19), (1, zi y1), (2, zi 0), (3, zi 1), (4, zi 1), (5, zi 0), (6, zi 1), (7, zi (y7 + 1))] i34_171 rfl rfl rfl (by omega) rfl ?_
                    refine X.goto 16 i34_174 rfl rfl ?_
                    exact ih 0 1 1 0 1 (y7 + 1) (by omega) (by omega) (by omega) (by omega) (by omega) (by omega) (by omega)
                  · refine X.lload 144 i34_142 rfl rfl rfl ?_
                    refine X.lconst (y := 0) 145 i34_144 rfl rfl rfl ?_
                    refine X.lcmp 146 i34_145 rfl rfl (fun z1161 hz1161 => ?_)
                    refine X.ifne 168 149 i34_146 rfl rfl rfl (fun h1162 => ?_) (fun h1162 => ?_)
                    · have h1162c : (m g0 22 (8 + y7)) ≠ 0 := by omega
                      clear h1162 hz1161
                      refine X.cut [(0, zr g0 19), (1, zi y1), (2, zi 0), (3, zi 1), (4, zi 1), (5, zi 0), (7, zi y7)] i34_168 rfl ?_
                      refine X.iconst 169 i34_168 rfl rfl (by decide) ?_
                      refine X.istore 171 [(0, zr g0 19), (1, zi y1), (2, zi 0), (3, zi 1), (4, zi 1), (5, zi 0), (6, zi 0), (7, zi y7)] i34_169 rfl rfl rfl ?_
                      refine X.iinc 174 [(0, zr g0 19), (1, zi y1), (2, zi 0), (3, zi 1), (4, zi 1), (5, zi 0), (6, zi 0), (7, zi (y7 + 1))] i34_171 rfl rfl rfl (by omega) rfl ?_
                      refine X.goto 16 i34_174 rfl rfl ?_
                      exact ih 0 1 1 0 0 (y7 + 1) (by omega) (by omega) (by omega) (by omega) (by omega) (by omega) (by omega)
                    · have h1162c : (m g0 22 (8 + y7)) = 0 := by omega
                      clear h1162 hz1161
                      refine X.aload_n 150 i34_149 rfl rfl rfl ?_
                      refine X.getR 153 i34_150 rfl rfl (by decide) rfl rfl ?_
                      refine X.bipush 155 i34_153 rfl rfl (by decide) ?_
                      refine X.iload 157 i34_155 rfl rfl rfl ?_
                      refine X.iadd 158 i34_157 rfl rfl (by omega) ?_
                      refine X.lald 159 i34_158 rfl rfl (by decide) rfl (by omega) ?_
                      refine X.lconst (y := 0) 160 i34_159 rfl rfl rfl ?_
                      refine X.lcmp 161 i34_160 rfl rfl (fun z1163 hz1163 => ?_)
                      refine X.ifle 168 164 i34_161 rfl rfl rfl (fun h1164 => ?_) (fun h1164 => ?_)
                      · have h1164c : (m g0 22 (12 + y7)) ≤ 0 := by omega
                        clear h1164 hz1163
                        refine X.cut [(0, zr g0 19), (1, zi y1), (2, zi 0), (3, zi 1), (4, zi 1), (5, zi 0), (7, zi y7)] i34_168 rfl ?_
                        refine X.iconst 169 i34_168 rfl rfl (by decide) ?_
                        refine X.istore 171 [(0, zr g0 19), (1, zi y1), (2, zi 0), (3, zi 1), (4, zi 1), (5, zi 0), (6, zi 0), (7, zi y7)] i34_169 rfl rfl rfl ?_
                        refine X.iinc 174 [(0, zr g0 19), (1, zi y1), (2, zi 0), (3, zi 1), (4, zi 1), (5, zi 0), (6, zi 0), (7, zi (y7 + 1))] i34_171 rfl rfl rfl (by omega) rfl ?_
                        refine X.goto 16 i34_174 rfl rfl ?_
                        exact ih 0 1 1 0 0 (y7 + 1) (by omega) (by omega) (by omega) (by omega) (by omega) (by omega) (by omega)
                      · have h1164c : (m g0 22 (12 + y7)) > 0 := by omega
                        clear h1164 hz1163
                        refine X.cut [(0, zr g0 19), (1, zi y1), (2, zi 0), (3, zi 1), (4, zi 1), (5, zi 0), (7, zi y7)] i34_164 rfl ?_
                        refine X.iconst 165 i34_164 rfl rfl (by decide) ?_
                        refine X.goto 169 i34_165 rfl rfl ?_
                        refine X.istore 171 [(0, zr g0 19), (1, zi y1), (2, zi 0), (3, zi 1), (4, zi 1), (5, zi 0), (6, zi 1), (7, zi y7)] i34_169 rfl rfl rfl ?_
                        refine X.iinc 174 [(0, zr g0 19), (1, zi y1), (2, zi 0), (3, zi 1), (4, zi 1), (5, zi 0), (6, zi 1), (7, zi (y7 + 1))] i34_171 rfl rfl rfl (by omega) rfl ?_
                        refine X.goto 16 i34_174 rfl rfl ?_
                        exact ih 0 1 1 0 1 (y7 + 1) (by omega) (by omega) (by omega) (by omega) (by omega) (by omega) (by omega)
          · refine X.iload 90 i34_88 rfl rfl rfl ?_
            refine X.ifne 97 93 i34_90 rfl rfl rfl (fun h1165 => (by exfalso; omega)) (fun h1165 => ?_)
            refine X.cut [(0, zr g0 19), (1, zi y1), (2, zi 0), (4, zi y4), (5, zi y5), (6, zi y6), (7, zi y7), (8, zl (m g0 22 (8 + y7))), (10, zl (m g0 22 (0 + y7)))] i34_93 rfl ?_
            refine X.iconst 94 i34_93 rfl rfl (by decide) ?_
            refine X.goto 98 i34_94 rfl rfl ?_
            refine X.istore_n 99 [(0, zr g0 19), (1, zi y1), (2, zi 0), (3, zi 1), (4, zi y4), (5, zi y5), (6, zi y6), (7, zi y7), (8, zl (m g0 22 (8 + y7))), (10, zl (m g0 22 (0 + y7)))] i34_98 rfl rfl rfl ?_
            refine X.iload 101 i34_99 rfl rfl rfl ?_
            refine X.ifne 111 104 i34_101 rfl rfl rfl (fun h1166 => ?_) (fun h1166 => ?_)
            · refine X.cut [(0, zr g0 19), (1, zi y1), (2, zi 0), (3, zi 1), (5, zi y5), (6, zi y6), (7, zi y7), (8, zl (m g0 22 (8 + y7))), (10, zl (m g0 22 (0 + y7)))] i34_111 rfl ?_
              refine X.iconst 112 i34_111 rfl rfl (by decide) ?_
              refine X.goto 116 i34_112 rfl rfl ?_
              refine X.istore 118 [(0, zr g0 19), (1, zi y1), (2, zi 0), (3, zi 1), (4, zi 1), (5, zi y5), (6, zi y6), (7, zi y7), (8, zl (m g0 22 (8 + y7))), (10, zl (m g0 22 (0 + y7)))] i34_116 rfl rfl rfl ?_
              refine X.iload 120 i34_118 rfl rfl rfl ?_
              refine X.ifne 130 123 i34_120 rfl rfl rfl (fun h1167 => ?_) (fun h1167 => ?_)
              · refine X.cut [(0, zr g0 19), (1, zi y1), (2, zi 0), (3, zi 1), (4, zi 1), (6, zi y6), (7, zi y7), (8, zl (m g0 22 (8 + y7)))] i34_130 rfl ?_
                refine X.iconst 131 i34_130 rfl rfl (by decide) ?_
                refine X.goto 135 i34_131 rfl rfl ?_
                refine X.istore 137 [(0, zr g0 19), (1, zi y1), (2, zi 0), (3, zi 1), (4, zi 1), (5, zi 1), (6, zi y6), (7, zi y7), (8, zl (m g0 22 (8 + y7)))] i34_135 rfl rfl rfl ?_
                refine X.iload 139 i34_137 rfl rfl rfl ?_
                refine X.ifne 164 142 i34_139 rfl rfl rfl (fun h1168 => ?_) (fun h1168 => ?_)
                · refine X.cut [(0, zr g0 19), (1, zi y1), (2, zi 0), (3, zi 1), (4, zi 1), (5, zi 1), (7, zi y7)] i34_164 rfl ?_
                  refine X.iconst 165 i34_164 rfl rfl (by decide) ?_
                  refine X.goto 169 i34_165 rfl rfl ?_
                  refine X.istore 171 [(0, zr g0 19), (1, zi y1), (2, zi 0), (3, zi 1), (4, zi 1), (5, zi 1), (6, zi 1), (7, zi y7)] i34_169 rfl rfl rfl ?_
                  refine X.iinc 174 [(0, zr g0 19), (1, zi y1), (2, zi 0), (3, zi 1), (4, zi 1), (5, zi 1), (6, zi 1), (7, zi (y7 + 1))] i34_171 rfl rfl rfl (by omega) rfl ?_
                  refine X.goto 16 i34_174 rfl rfl ?_
                  exact ih 0 1 1 1 1 (y7 + 1) (by omega) (by omega) (by omega) (by omega) (by omega) (by omega) (by omega)
                · refine X.lload 144 i34_142 rfl rfl rfl ?_
                  refine X.lconst (y := 0) 145 i34_144 rfl rfl rfl ?_
                  refine X.lcmp 146 i34_145 rfl rfl (fun z1169 hz1169 => ?_)
                  refine X.ifne 168 149 i34_146 rfl rfl rfl (fun h1170 => ?_) (fun h1170 => ?_)
                  · have h1170c : (m g0 22 (8 + y7)) ≠ 0 := by omega
                    clear h1170 hz1169
                    refine X.cut [(0, zr g0 19), (1, zi y1), (2, zi 0), (3, zi 1), (4, zi 1), (5, zi 1), (7, zi y7)] i34_168 rfl ?_
                    refine X.iconst 169 i34_168 rfl rfl (by decide) ?_
                    refine X.istore 171 [(0, zr g0 19), (1, zi y1), (2, zi 0), (3, zi 1), (4, zi 1), (5, zi 1), (6, zi 0), (7, zi y7)] i34_169 rfl rfl rfl ?_
                    refine X.iinc 174 [(0, zr g0 19), (1, zi y1), (2, zi 0), (3, zi 1), (4, zi 1), (5, zi 1), (6, zi 0), (7, zi (y7 + 1))] i34_171 rfl rfl rfl (by omega) rfl ?_
                    refine X.goto 16 i34_174 rfl rfl ?_
                    exact ih 0 1 1 1 0 (y7 + 1) (by omega) (by omega) (by omega) (by omega) (by omega) (by omega) (by omega)
                  · have h1170c : (m g0 22 (8 + y7)) = 0 := by omega
                    clear h1170 hz1169
                    refine X.aload_n 150 i34_149 rfl rfl rfl ?_
                    refine X.getR 153 i34_150 rfl rfl (by decide) rfl rfl ?_
                    refine X.bipush 155 i34_153 rfl rfl (by decide) ?_
                    refine X.iload 157 i34_155 rfl rfl rfl ?_
                    refine X.iadd 158 i34_157 rfl rfl (by omega) ?_
                    refine X.lald 159 i34_158 rfl rfl (by decide) rfl (by omega) ?_
                    refine X.lconst (y := 0) 160 i34_159 rfl rfl rfl ?_
                    refine X.lcmp 161 i34_160 rfl rfl (fun z1171 hz1171 => ?_)
                    refine X.ifle 168 164 i34_161 rfl rfl rfl (fun h1172 => ?_) (fun h1172 => ?_)
                    · have h1172c : (m g0 22 (12 + y7)) ≤ 0 := by omega
                      clear h1172 hz1171
                      refine X.cut [(0, zr g0 19), (1, zi y1), (2, zi 0), (3, zi 1), (4, zi 1), (5, zi 1), (7, zi y7)] i34_168 rfl ?_
                      refine X.iconst 169 i34_168 rfl rfl (by decide) ?_
                      refine X.istore 171 [(0, zr g0 19), (1, zi y1), (2, zi 0), (3, zi 1), (4, zi 1), (5, zi 1), (6, zi 0), (7, zi y7)] i34_169 rfl rfl rfl ?_
                      refine X.iinc 174 [(0, zr g0 19), (1, zi y1), (2, zi 0), (3, zi 1), (4, zi 1), (5, zi 1), (6, zi 0), (7, zi (y7 + 1))] i34_171 rfl rfl rfl (by omega) rfl ?_
                      refine X.goto 16 i34_174 rfl rfl ?_
                      exact ih 0 1 1 1 0 (y7 + 1) (by omega) (by omega) (by omega) (by omega) (by omega) (by omega) (by omega)
                    · have h1172c : (m g0 22 (12 + y7)) > 0 := by omega
                      clear h1172 hz1171
                      refine X.cut [(0, zr g0 19), (1, zi y1), (2, zi 0), (3, zi 1), (4, zi 1), (5, zi 1), (7, zi y7)] i34_164 rfl ?_
                      refine X.iconst 165 i34_164 rfl rfl (by decide) ?_
                      refine X.goto 169 i34_165 rfl rfl ?_
                      refine X.istore 171 [(0, zr g0 19), (1, zi y1), (2, zi 0), (3, zi 1), (4, zi 1), (5, zi 1), (6, zi 1), (7, zi y7)] i34_169 rfl rfl rfl ?_
                      refine X.iinc 174 [(0, zr g0 19), (1, zi y1), (2, zi 0), (3, zi 1), (4, zi 1), (5, zi 1), (6, zi 1), (7, zi (y7 + 1))] i34_171 rfl rfl rfl (by omega) rfl ?_
                      refine X.goto 16 i34_174 rfl rfl ?_
                      exact ih 0 1 1 1 1 (y7 + 1) (by omega) (by omega) (by omega) (by omega) (by omega) (by omega) (by omega)
              · refine X.lload 125 i34_123 rfl rfl rfl ?_
                refine X.lconst (y := 0) 126 i34_125 rfl rfl rfl ?_
                refine X.lcmp 127 i34_126 rfl rfl (fun z1173 hz1173 => ?_)
                refine X.ifge 134 130 i34_127 rfl rfl rfl (fun h1174 => ?_) (fun h1174 => ?_)
                · have h1174c : (m g0 22 (0 + y7)) ≥ 0 := by omega
                  clear h1174 hz1173
                  refine X.cut [(0, zr g0 19), (1, zi y1), (2, zi 0), (3, zi 1), (4, zi 1), (6, zi y6), (7, zi y7), (8, zl (m g0 22 (8 + y7)))] i34_134 rfl ?_
                  refine X.iconst 135 i34_134 rfl rfl (by decide) ?_
                  refine X.istore 137 [(0, zr g0 19), (1, zi y1), (2, zi 0), (3, zi 1), (4, zi 1), (5, zi 0), (6, zi y6), (7, zi y7), (8, zl (m g0 22 (8 + y7)))] i34_135 rfl rfl rfl ?_
                  refine X.iload 139 i34_137 rfl rfl rfl ?_
                  refine X.ifne 164 142 i34_139 rfl rfl rfl (fun h1175 => ?_) (fun h1175 => ?_)
                  · refine X.cut [(0, zr g0 19), (1, zi y1), (2, zi 0), (3, zi 1), (4, zi 1), (5, zi 0), (7, zi y7)] i34_164 rfl ?_
                    refine X.iconst 165 i34_164 rfl rfl (by decide) ?_
                    refine X.goto 169 i34_165 rfl rfl ?_
                    refine X.istore 171 [(0, zr g0 19), (1, zi y1), (2, zi 0), (3, zi 1), (4, zi 1), (5, zi 0), (6, zi 1), (7, zi y7)] i34_169 rfl rfl rfl ?_
                    refine X.iinc 174 [(0, zr g0 19), (1, zi y1), (2, zi 0), (3, zi 1), (4, zi 1), (5, zi 0), (6, zi 1), (7, zi (y7 + 1))] i34_171 rfl rfl rfl (by omega) rfl ?_
                    refine X.goto 16 i34_174 rfl rfl ?_
                    exact ih 0 1 1 0 1 (y7 + 1) (by omega) (by omega) (by omega) (by omega) (by omega) (by omega) (by omega)
                  · refine X.lload 144 i34_142 rfl rfl rfl ?_
                    refine X.lconst (y := 0) 145 i34_144 rfl rfl rfl ?_
                    refine X.lcmp 146 i34_145 rfl rfl (fun z1176 hz1176 => ?_)
                    refine X.ifne 168 149 i34_146 rfl rfl rfl (fun h1177 => ?_) (fun h1177 => ?_)
                    · have h1177c : (m g0 22 (8 + y7)) ≠ 0 := by omega
                      clear h1177 hz1176
                      refine X.cut [(0, zr g0 19), (1, zi y1), (2, zi 0), (3, zi 1), (4, zi 1), (5, zi 0), (7, zi y7)] i34_168 rfl ?_
                      refine X.iconst 169 i34_168 rfl rfl (by decide) ?_
                      refine X.istore 171 [(0, zr g0 19), (1, zi y1), (2, zi 0), (3, zi 1), (4, zi 1), (5, zi 0), (6, zi 0), (7, zi y7)] i34_169 rfl rfl rfl ?_
                      refine X.iinc 174 [(0, zr g0 19), (1, zi y1), (2, zi 0), (3, zi 1), (4, zi 1), (5, zi 0), (6, zi 0), (7, zi (y7 + 1))] i34_171 rfl rfl rfl (by omega) rfl ?_
                      refine X.goto 16 i34_174 rfl rfl ?_
                      exact ih 0 1 1 0 0 (y7 + 1) (by omega) (by omega) (by omega) (by omega) (by omega) (by omega) (by omega)
                    · have h1177c : (m g0 22 (8 + y7)) = 0 := by omega
                      clear h1177 hz1176
                      refine X.aload_n 150 i34_149 rfl rfl rfl ?_
                      refine X.getR 153 i34_150 rfl rfl (by decide) rfl rfl ?_
                      refine X.bipush 155 i34_153 rfl rfl (by decide) ?_
                      refine X.iload 157 i34_155 rfl rfl rfl ?_
                      refine X.iadd 158 i34_157 rfl rfl (by omega) ?_
                      refine X.lald 159 i34_158 rfl rfl (by decide) rfl (by omega) ?_
                      refine X.lconst (y := 0) 160 i34_159 rfl rfl rfl ?_
                      refine X.lcmp 161 i34_160 rfl rfl (fun z1178 hz1178 => ?_)
                      refine X.ifle 168 164 i34_161 rfl rfl rfl (fun h1179 => ?_) (fun h1179 => ?_)
                      · have h1179c : (m g0 22 (12 + y7)) ≤ 0 := by omega
                        clear h1179 hz1178
                        refine X.cut [(0, zr g0 19), (1, zi y1), (2, zi 0), (3, zi 1), (4, zi 1), (5, zi 0), (7, zi y7)] i34_168 rfl ?_
                        refine X.iconst 169 i34_168 rfl rfl (by decide) ?_
                        refine X.istore 171 [(0, zr g0 19), (1, zi y1), (2, zi 0), (3, zi 1), (4, zi 1), (5, zi 0), (6, zi 0), (7, zi y7)] i34_169 rfl rfl rfl ?_
                        refine X.iinc 174 [(0, zr g0 19), (1, zi y1), (2, zi 0), (3, zi 1), (4, zi 1), (5, zi 0), (6, zi 0), (7, zi (y7 + 1))] i34_171 rfl rfl rfl (by omega) rfl ?_
                        refine X.goto 16 i34_174 rfl rfl ?_
                        exact ih 0 1 1 0 0 (y7 + 1) (by omega) (by omega) (by omega) (by omega) (by omega) (by omega) (by omega)
                      · have h1179c : (m g0 22 (12 + y7)) > 0 := by omega
                        clear h1179 hz1178
                        refine X.cut [(0, zr g0 19), (1, zi y1), (2, zi 0), (3, zi 1), (4, zi 1), (5, zi 0), (7, zi y7)] i34_164 rfl ?_
                        refine X.iconst 165 i34_164 rfl rfl (by decide) ?_
                        refine X.goto 169 i34_165 rfl rfl ?_
                        refine X.istore 171 [(0, zr g0 19), (1, zi y1), (2, zi 0), (3, zi 1), (4, zi 1), (5, zi 0), (6, zi 1), (7, zi y7)] i34_169 rfl rfl rfl ?_
                        refine X.iinc 174 [(0, zr g0 19), (1, zi y1), (2, zi 0), (3, zi 1), (4, zi 1), (5, zi 0), (6, zi 1), (7, zi (y7 + 1))] i34_171 rfl rfl rfl (by omega) rfl ?_
                        refine X.goto 16 i34_174 rfl rfl ?_
                        exact ih 0 1 1 0 1 (y7 + 1) (by omega) (by omega) (by omega) (by omega) (by omega) (by omega) (by omega)
                · have h1174c : (m g0 22 (0 + y7)) < 0 := by omega
                  clear h1174 hz1173
                  refine X.cut [(0, zr g0 19), (1, zi y1), (2, zi 0), (3, zi 1), (4, zi 1), (6, zi y6), (7, zi y7), (8, zl (m g0 22 (8 + y7)))] i34_130 rfl ?_
                  refine X.iconst 131 i34_130 rfl rfl (by decide) ?_
                  refine X.goto 135 i34_131 rfl rfl ?_
                  refine X.istore 137 [(0, zr g0 19), (1, zi y1), (2, zi 0), (3, zi 1), (4, zi 1), (5, zi 1), (6, zi y6), (7, zi y7), (8, zl (m g0 22 (8 + y7)))] i34_135 rfl rfl rfl ?_
                  refine X.iload 139 i34_137 rfl rfl rfl ?_
                  refine X.ifne 164 142 i34_139 rfl rfl rfl (fun h1180 => ?_) (fun h1180 => ?_)
                  · refine X.cut [(0, zr g0 19), (1, zi y1), (2, zi 0), (3, zi 1), (4, zi 1), (5, zi 1), (7, zi y7)] i34_164 rfl ?_
                    refine X.iconst 165 i34_164 rfl rfl (by decide) ?_
                    refine X.goto 169 i34_165 rfl rfl ?_
                    refine X.istore 171 [(0, zr g0 19), (1, zi y1), (2, zi 0), (3, zi 1), (4, zi 1), (5, zi 1), (6, zi 1), (7, zi y7)] i34_169 rfl rfl rfl ?_
                    refine X.iinc 174 [(0, zr g0 19), (1, zi y1), (2, zi 0), (3, zi 1), (4, zi 1), (5, zi 1), (6, zi 1), (7, zi (y7 + 1))] i34_171 rfl rfl rfl (by omega) rfl ?_
                    refine X.goto 16 i34_174 rfl rfl ?_
                    exact ih 0 1 1 1 1 (y7 + 1) (by omega) (by omega) (by omega) (by omega) (by omega) (by omega) (by omega)
                  · refine X.lload 144 i34_142 rfl rfl rfl ?_
                    refine X.lconst (y := 0) 145 i34_144 rfl rfl rfl ?_
                    refine X.lcmp 146 i34_145 rfl rfl (fun z1181 hz1181 => ?_)
                    refine X.ifne 168 149 i34_146 rfl rfl rfl (fun h1182 => ?_) (fun h1182 => ?_)
                    · have h1182c : (m g0 22 (8 + y7)) ≠ 0 := by omega
                      clear h1182 hz1181
                      refine X.cut [(0, zr g0 19), (1, zi y1), (2, zi 0), (3, zi 1), (4, zi 1), (5, zi 1), (7, zi y7)] i34_168 rfl ?_
                      refine X.iconst 169 i34_168 rfl rfl (by decide) ?_
                      refine X.istore 171 [(0, zr g0 19), (1, zi y1), (2, zi 0), (3, zi 1), (4, zi 1), (5, zi 1), (6, zi 0), (7, zi y7)] i34_169 rfl rfl rfl ?_
                      refine X.iinc 174 [(0, zr g0 19), (1, zi y1), (2, zi 0), (3, zi 1), (4, zi 1), (5, zi 1), (6, zi 0), (7, zi (y7 + 1))] i34_171 rfl rfl rfl (by omega) rfl ?_
                      refine X.goto 16 i34_174 rfl rfl ?_
                      exact ih 0 1 1 1 0 (y7 + 1) (by omega) (by omega) (by omega) (by omega) (by omega) (by omega) (by omega)
                    · have h1182c : (m g0 22 (8 + y7)) = 0 := by omega
                      clear h1182 hz1181
                      refine X.aload_n 150 i34_149 rfl rfl rfl ?_
                      refine X.getR 153 i34_150 rfl rfl (by decide) rfl rfl ?_
                      refine X.bipush 155 i34_153 rfl rfl (by decide) ?_
                      refine X.iload 157 i34_155 rfl rfl rfl ?_
                      refine X.iadd 158 i34_157 rfl rfl (by omega) ?_
                      refine X.lald 159 i34_158 rfl rfl (by decide) rfl (by omega) ?_
                      refine X.lconst (y := 0) 160 i34_159 rfl rfl rfl ?_
                      refine X.lcmp 161 i34_160 rfl rfl (fun z1183 hz1183 => ?_)
                      refine X.ifle 168 164 i34_161 rfl rfl rfl (fun h1184 => ?_) (fun h1184 => ?_)
                      · have h1184c : (m g0 22 (12 + y7)) ≤ 0 := by omega
                        clear h1184 hz1183
                        refine X.cut [(0, zr g0 19), (1, zi y1), (2, zi 0), (3, zi 1), (4, zi 1), (5, zi 1), (7, zi y7)] i34_168 rfl ?_
                        refine X.iconst 169 i34_168 rfl rfl (by decide) ?_
                        refine X.istore 171 [(0, zr g0 19), (1, zi y1), (2, zi 0), (3, zi 1), (4, zi 1), (5, zi 1), (6, zi 0), (7, zi y7)] i34_169 rfl rfl rfl ?_
                        refine X.iinc 174 [(0, zr g0 19), (1, zi y1), (2, zi 0), (3, zi 1), (4, zi 1), (5, zi 1), (6, zi 0), (7, zi (y7 + 1))] i34_171 rfl rfl rfl (by omega) rfl ?_
                        refine X.goto 16 i34_174 rfl rfl ?_
                        exact ih 0 1 1 1 0 (y7 + 1) (by omega) (by omega) (by omega) (by omega) (by omega) (by omega) (by omega)
                      · have h1184c : (m g0 22 (12 + y7)) > 0 := by omega
                        clear h1184 hz1183
                        refine X.cut [(0, zr g0 19), (1, zi y1), (2, zi 0), (3, zi 1), (4, zi 1), (5, zi 1), (7, zi y7)] i34_164 rfl ?_
                        refine X.iconst 165 i34_164 rfl rfl (by decide) ?_
                        refine X.goto 169 i34_165 rfl rfl ?_
                        refine X.istore 171 [(0, zr g0 19), (1, zi y1), (2, zi 0), (3, zi 1), (4, zi 1), (5, zi 1), (6, zi 1), (7, zi y7)] i34_169 rfl rfl rfl ?_
                        refine X.iinc 174 [(0, zr g0 19), (1, zi y1), (2, zi 0), (3, zi 1), (4, zi 1), (5, zi 1), (6, zi 1), (7, zi (y7 + 1))] i34_171 rfl rfl rfl (by omega) rfl ?_
                        refine X.goto 16 i34_174 rfl rfl ?_
                        exact ih 0 1 1 1 1 (y7 + 1) (by omega) (by omega) (by omega) (by omega) (by omega) (by omega) (by omega)
            · refine X.lload 106 i34_104 rfl rfl rfl ?_
              refine X.lconst (y := 0) 107 i34_106 rfl rfl rfl ?_
              refine X.lcmp 108 i34_107 rfl rfl (fun z1185 hz1185 => ?_)
              refine X.ifle 115 111 i34_108 rfl rfl rfl (fun h1186 => ?_) (fun h1186 => ?_)
              · have h1186c : (m g0 22 (0 + y7)) ≤ 0 := by omega
                clear h1186 hz1185
                refine X.cut [(0, zr g0 19), (1, zi y1), (2, zi 0), (3, zi 1), (5, zi y5), (6, zi y6), (7, zi y7), (8, zl (m g0 22 (8 + y7))), (10, zl (m g0 22 (0 + y7)))] i34_115 rfl ?_
                refine X.iconst 116 i34_115 rfl rfl (by decide) ?_
                refine X.istore 118 [(0, zr g0 19), (1, zi y1), (2, zi 0), (3, zi 1), (4, zi 0), (5, zi y5), (6, zi y6), (7, zi y7), (8, zl (m g0 22 (8 + y7))), (10, zl (m g0 22 (0 + y7)))] i34_116 rfl rfl rfl ?_
                refine X.iload 120 i34_118 rfl rfl rfl ?_
                refine X.ifne 130 123 i34_120 rfl rfl rfl (fun h1187 => ?_) (fun h1187 => ?_)
                · refine X.cut [(0, zr g0 19), (1, zi y1), (2, zi 0), (3, zi 1), (4, zi 0), (6, zi y6), (7, zi y7), (8, zl (m g0 22 (8 + y7)))] i34_130 rfl ?_
                  refine X.iconst 131 i34_130 rfl rfl (by decide) ?_
                  refine X.goto 135 i34_131 rfl rfl ?_
                  refine X.istore 137 [(0, zr g0 19), (1, zi y1), (2, zi 0), (3, zi 1), (4, zi 0), (5, zi 1), (6, zi y6), (7, zi y7), (8, zl (m g0 22 (8 + y7)))] i34_135 rfl rfl rfl ?_
                  refine X.iload 139 i34_137 rfl rfl rfl ?_
                  refine X.ifne 164 142 i34_139 rfl rfl rfl (fun h1188 => ?_) (fun h1188 => ?_)
                  · refine X.cut [(0, zr g0 19), (1, zi y1), (2, zi 0), (3, zi 1), (4, zi 0), (5, zi 1), (7, zi y7)] i34_164 rfl ?_
                    refine X.iconst 165 i34_164 rfl rfl (by decide) ?_
                    refine X.goto 169 i34_165 rfl rfl ?_
                    refine X.istore 171 [(0, zr g0 19), (1, zi y1), (2, zi 0), (3, zi 1), (4, zi 0), (5, zi 1), (6, zi 1), (7, zi y7)] i34_169 rfl rfl rfl ?_
                    refine X.iinc 174 [(0, zr g0 19), (1, zi y1), (2, zi 0), (3, zi 1), (4, zi 0), (5, zi 1), (6, zi 1), (7, zi (y7 + 1))] i34_171 rfl rfl rfl (by omega) rfl ?_
                    refine X.goto 16 i34_174 rfl rfl ?_
                    exact ih 0 1 0 1 1 (y7 + 1) (by omega) (by omega) (by omega) (by omega) (by omega) (by omega) (by omega)
                  · refine X.lload 144 i34_142 rfl rfl rfl ?_
                    refine X.lconst (y := 0) 145 i34_144 rfl rfl rfl ?_
                    refine X.lcmp 146 i34_145 rfl rfl (fun z1189 hz1189 => ?_)
                    refine X.ifne 168 149 i34_146 rfl rfl rfl (fun h1190 => ?_) (fun h1190 => ?_)
                    · have h1190c : (m g0 22 (8 + y7)) ≠ 0 := by omega
                      clear h1190 hz1189
                      refine X.cut [(0, zr g0 19), (1, zi y1), (2, zi 0), (3, zi 1), (4, zi 0), (5, zi 1), (7, zi y7)] i34_168 rfl ?_
                      refine X.iconst 169 i34_168 rfl rfl (by decide) ?_
                      refine X.istore 171 [(0, zr g0 19), (1, zi y1), (2, zi 0), (3, zi 1), (4, zi 0), (5, zi 1), (6, zi 0), (7, zi y7)] i34_169 rfl rfl rfl ?_
                      refine X.iinc 174 [(0, zr g0 19), (1, zi y1), (2, zi 0), (3, zi 1), (4, zi 0), (5, zi 1), (6, zi 0), (7, zi (y7 + 1))] i34_171 rfl rfl rfl (by omega) rfl ?_
                      refine X.goto 16 i34_174 rfl rfl ?_
                      exact ih 0 1 0 1 0 (y7 + 1) (by omega) (by omega) (by omega) (by omega) (by omega) (by omega) (by omega)
                    · have h1190c : (m g0 22 (8 + y7)) = 0 := by omega
                      clear h1190 hz1189
                      refine X.aload_n 150 i34_149 rfl rfl rfl ?_
                      refine X.getR 153 i34_150 rfl rfl (by decide) rfl rfl ?_
                      refine X.bipush 155 i34_153 rfl rfl (by decide) ?_
                      refine X.iload 157 i34_155 rfl rfl rfl ?_
                      refine X.iadd 158 i34_157 rfl rfl (by omega) ?_
                      refine X.lald 159 i34_158 rfl rfl (by decide) rfl (by omega) ?_
                      refine X.lconst (y := 0) 160 i34_159 rfl rfl rfl ?_
                      refine X.lcmp 161 i34_160 rfl rfl (fun z1191 hz1191 => ?_)
                      refine X.ifle 168 164 i34_161 rfl rfl rfl (fun h1192 => ?_) (fun h1192 => ?_)
                      · have h1192c : (m g0 22 (12 + y7)) ≤ 0 := by omega
                        clear h1192 hz1191
                        refine X.cut [(0, zr g0 19), (1, zi y1), (2, zi 0), (3, zi 1), (4, zi 0), (5, zi 1), (7, zi y7)] i34_168 rfl ?_
                        refine X.iconst 169 i34_168 rfl rfl (by decide) ?_
                        refine X.istore 171 [(0, zr g0 19), (1, zi y1), (2, zi 0), (3, zi 1), (4, zi 0), (5, zi 1), (6, zi 0), (7, zi y7)] i34_169 rfl rfl rfl ?_
                        refine X.iinc 174 [(0, zr g0 19), (1, zi y1), (2, zi 0), (3, zi 1), (4, zi 0), (5, zi 1), (6, zi 0), (7, zi (y7 + 1))] i34_171 rfl rfl rfl (by omega) rfl ?_
                        refine X.goto 16 i34_174 rfl rfl ?_
                        exact ih 0 1 0 1 0 (y7 + 1) (by omega) (by omega) (by omega) (by omega) (by omega) (by omega) (by omega)
                      · have h1192c : (m g0 22 (12 + y7)) > 0 := by omega
                        clear h1192 hz1191
                        refine X.cut [(0, zr g0 19), (1, zi y1), (2, zi 0), (3, zi 1), (4, zi 0), (5, zi 1), (7, zi y7)] i34_164 rfl ?_
                        refine X.iconst 165 i34_164 rfl rfl (by decide) ?_
                        refine X.goto 169 i34_165 rfl rfl ?_
                        refine X.istore 171 [(0, zr g0 19), (1, zi y1), (2, zi 0), (3, zi 1), (4, zi 0), (5, zi 1), (6, zi 1), (7, zi y7)] i34_169 rfl rfl rfl ?_
                        refine X.iinc 174 [(0, zr g0 19), (1, zi y1), (2, zi 0), (3, zi 1), (4, zi 0), (5, zi 1), (6, zi 1), (7, zi (y7 + 1))] i34_171 rfl rfl rfl (by omega) rfl ?_
                        refine X.goto 16 i34_174 rfl rfl ?_
                        exact ih 0 1 0 1 1 (y7 + 1) (by omega) (by omega) (by omega) (by omega) (by omega) (by omega) (by omega)
                · refine X.lload 125 i34_123 rfl rfl rfl ?_
                  refine X.lconst (y := 0) 126 i34_125 rfl rfl rfl ?_
                  refine X.lcmp 127 i34_126 rfl rfl (fun z1193 hz1193 => ?_)
                  refine X.ifge 134 130 i34_127 rfl rfl rfl (fun h1194 => ?_) (fun h1194 => ?_)
                  · have h1194c : (m g0 22 (0 + y7)) ≥ 0 := by omega
                    clear h1194 hz1193
                    refine X.cut [(0, zr g0 19), (1, zi y1), (2, zi 0), (3, zi 1), (4, zi 0), (6, zi y6), (7, zi y7), (8, zl (m g0 22 (8 + y7)))] i34_134 rfl ?_
                    refine X.iconst 135 i34_134 rfl rfl (by decide) ?_
                    refine X.istore 137 [(0, zr g0 19), (1, zi y1), (2, zi 0), (3, zi 1), (4, zi 0), (5, zi 0), (6, zi y6), (7, zi y7), (8, zl (m g0 22 (8 + y7)))] i34_135 rfl rfl rfl ?_
                    refine X.iload 139 i34_137 rfl rfl rfl ?_
                    refine X.ifne 164 142 i34_139 rfl rfl rfl (fun h1195 => ?_) (fun h1195 => ?_)
                    · refine X.cut [(0, zr g0 19), (1, zi y1), (2, zi 0), (3, zi 1), (4, zi 0), (5, zi 0), (7, zi y7)] i34_164 rfl ?_
                      refine X.iconst 165 i34_164 rfl rfl (by decide) ?_
                      refine X.goto 169 i34_165 rfl rfl ?_
                      refine X.istore 171 [(0, zr g0 19), (1, zi y1), (2, zi 0), (3, zi 1), (4, zi 0), (5, zi 0), (6, zi 1), (7, zi y7)] i34_169 rfl rfl rfl ?_
                      refine X.iinc 174 [(0, zr g0 19), (1, zi y1), (2, zi 0), (3, zi 1), (4, zi 0), (5, zi 0), (6, zi 1), (7, zi (y7 + 1))] i34_171 rfl rfl rfl (by omega) rfl ?_
                      refine X.goto 16 i34_174 rfl rfl ?_
                      exact ih 0 1 0 0 1 (y7 + 1) (by omega) (by omega) (by omega) (by omega) (by omega) (by omega) (by omega)
                    · refine X.lload 144 i34_142 rfl rfl rfl ?_
                      refine X.lconst (y := 0) 145 i34_144 rfl rfl rfl ?_
                      refine X.lcmp 146 i34_145 rfl rfl (fun z1196 hz1196 => ?_)
                      refine X.ifne 168 149 i34_146 rfl rfl rfl (fun h1197 => ?_) (fun h1197 => ?_)
                      · have h1197c : (m g0 22 (8 + y7)) ≠ 0 := by omega
                        clear h1197 hz1196
                        refine X.cut [(0, zr g0 19), (1, zi y1), (2, zi 0), (3, zi 1), (4, zi 0), (5, zi 0), (7, zi y7)] i34_168 rfl ?_
                        refine X.iconst 169 i34_168 rfl rfl (by decide) ?_
                        refine X.istore 171 [(0, zr g0 19), (1, zi y1), (2, zi 0), (3, zi 1), (4, zi 0), (5, zi 0), (6, zi 0), (7, zi y7)] i34_169 rfl rfl rfl ?_
                        refine X.iinc 174 [(0, zr g0 19), (1, zi y1), (2, zi 0), (3, zi 1), (4, zi 0), (5, zi 0), (6, zi 0), (7, zi (y7 + 1))] i34_171 rfl rfl rfl (by omega) rfl ?_
                        refine X.goto 16 i34_174 rfl rfl ?_
                        exact ih 0 1 0 0 0 (y7 + 1) (by omega) (by omega) (by omega) (by omega) (by omega) (by omega) (by omega)
                      · have h1197c : (m g0 22 (8 + y7)) = 0 := by omega
                        clear h1197 hz1196
                        refine X.aload_n 150 i34_149 rfl rfl rfl ?_
                        refine X.getR 153 i34_150 rfl rfl (by decide) rfl rfl ?_
                        refine X.bipush 155 i34_153 rfl rfl (by decide) ?_
                        refine X.iload 157 i34_155 rfl rfl rfl ?_
                        refine X.iadd 158 i34_157 rfl rfl (by omega) ?_
                        refine X.lald 159 i34_158 rfl rfl (by decide) rfl (by omega) ?_
                        refine X.lconst (y := 0) 160 i34_159 rfl rfl rfl ?_
                        refine X.lcmp 161 i34_160 rfl rfl (fun z1198 hz1198 => ?_)
                        refine X.ifle 168 164 i34_161 rfl rfl rfl (fun h1199 => ?_) (fun h1199 => ?_)
                        · have h1199c : (m g0 22 (12 + y7)) ≤ 0 := by omega
                          clear h1199 hz1198
                          refine X.cut [(0, zr g0 19), (1, zi y1), (2, zi 0), (3, zi 1), (4, zi 0), (5, zi 0), (7, zi y7)] i34_168 rfl ?_
                          refine X.iconst 169 i34_168 rfl rfl (by decide) ?_
                          refine X.istore 171 [(0, zr g0 19), (1, zi y1), (2, zi 0), (3, zi 1), (4, zi 0), (5, zi 0), (6, zi 0), (7, zi y7)] i34_169 rfl rfl rfl ?_
                          refine X.iinc 174 [(0, zr g0 19), (1, zi y1), (2, zi 0), (3, zi 1), (4, zi 0), (5, zi 0), (6, zi 0), (7, zi (y7 + 1))] i34_171 rfl rfl rfl (by omega) rfl ?_
                          refine X.goto 16 i34_174 rfl rfl ?_
                          exact ih 0 1 0 0 0 (y7 + 1) (by omega) (by omega) (by omega) (by omega) (by omega) (by omega) (by omega)
                        · have h1199c : (m g0 22 (12 + y7)) > 0 := by omega
                          clear h1199 hz1198
                          refine X.cut [(0, zr g0 19), (1, zi y1), (2, zi 0), (3, zi 1), (4, zi 0), (5, zi 0), (7, zi y7)] i34_164 rfl ?_
                          refine X.iconst 165 i34_164 rfl rfl (by decide) ?_
                          refine X.goto 169 i34_165 rfl rfl ?_
                          refine X.istore 171 [(0, zr g0 19), (1, zi y1), (2, zi 0), (3, zi 1), (4, zi 0), (5, zi 0), (6, zi 1), (7, zi y7)] i34_169 rfl rfl rfl ?_
                          refine X.iinc 174 [(0, zr g0 19), (1, zi y1), (2, zi 0), (3, zi 1), (4, zi 0), (5, zi 0), (6, zi 1), (7, zi (y7 + 1))] i34_171 rfl rfl rfl (by omega) rfl ?_
                          refine X.goto 16 i34_174 rfl rfl ?_
                          exact ih 0 1 0 0 1 (y7 + 1) (by omega) (by omega) (by omega) (by omega) (by omega) (by omega) (by omega)
                  · have h1194c : (m g0 22 (0 + y7)) < 0 := by omega
                    clear h1194 hz1193
                    refine X.cut [(0, zr g0 19), (1, zi y1), (2, zi 0), (3, zi 1), (4, zi 0), (6, zi y6), (7, zi y7), (8, zl (m g0 22 (8 + y7)))] i34_130 rfl ?_
                    refine X.iconst 131 i34_130 rfl rfl (by decide) ?_
                    refine X.goto 135 i34_131 rfl rfl ?_
                    refine X.istore 137 [(0, zr g0 19), (1, zi y1), (2, zi 0), (3, zi 1), (4, zi 0), (5, zi 1), (6, zi y6), (7, zi y7), (8, zl (m g0 22 (8 + y7)))] i34_135 rfl rfl rfl ?_
                    refine X.iload 139 i34_137 rfl rfl rfl ?_
                    refine X.ifne 164 142 i34_139 rfl rfl rfl (fun h1200 => ?_) (fun h1200 => ?_)
                    · refine X.cut [(0, zr g0 19), (1, zi y1), (2, zi 0), (3, zi 1), (4, zi 0), (5, zi 1), (7, zi y7)] i34_164 rfl ?_
                      refine X.iconst 165 i34_164 rfl rfl (by decide) ?_
                      refine X.goto 169 i34_165 rfl rfl ?_
                      refine X.istore 171 [(0, zr g0 19), (1, zi y1), (2, zi 0), (3, zi 1), (4, zi 0), (5, zi 1), (6, zi 1), (7, zi y7)] i34_169 rfl rfl rfl ?_
                      refine X.iinc 174 [(0, zr g0 19), (1, zi y1), (2, zi 0), (3, zi 1), (4, zi 0), (5, zi 1), (6, zi 1), (7, zi (y7 + 1))] i34_171 rfl rfl rfl (by omega) rfl ?_
                      refine X.goto 16 i34_174 rfl rfl ?_
                      exact ih 0 1 0 1 1 (y7 + 1) (by omega) (by omega) (by omega) (by omega) (by omega) (by omega) (by omega)
                    · refine X.lload 144 i34_142 rfl rfl rfl ?_
                      refine X.lconst (y := 0) 145 i34_144 rfl rfl rfl ?_
                      refine X.lcmp 146 i34_145 rfl rfl (fun z1201 hz1201 => ?_)
                      refine X.ifne 168 149 i34_146 rfl rfl rfl (fun h1202 => ?_) (fun h1202 => ?_)
                      · have h1202c : (m g0 22 (8 + y7)) ≠ 0 := by omega
                        clear h1202 hz1201
                        refine X.cut [(0, zr g0 19), (1, zi y1), (2, zi 0), (3, zi 1), (4, zi 0), (5, zi 1), (7, zi y7)] i34_168 rfl ?_
                        refine X.iconst 169 i34_168 rfl rfl (by decide) ?_
                        refine X.istore 171 [(0, zr g0 19), (1, zi y1), (2, zi 0), (3, zi 1), (4, zi 0), (5, zi 1), (6, zi 0), (7, zi y7)] i34_169 rfl rfl rfl ?_
                        refine X.iinc 174 [(0, zr g0 19), (1, zi y1), (2, zi 0), (3, zi 1), (4, zi 0), (5, zi 1), (6, zi 0), (7, zi (y7 + 1))] i34_171 rfl rfl rfl (by omega) rfl ?_
                        refine X.goto 16 i34_174 rfl rfl ?_
                        exact ih 0 1 0 1 0 (y7 + 1) (by omega) (by omega) (by omega) (by omega) (by omega) (by omega) (by omega)
                      · have h1202c : (m g0 22 (8 + y7)) = 0 := by omega
                        clear h1202 hz1201
                        refine X.aload_n 150 i34_149 rfl rfl rfl ?_
                        refine X.getR 153 i34_150 rfl rfl (by decide) rfl rfl ?_
                        refine X.bipush 155 i34_153 rfl rfl (by decide) ?_
                        refine X.iload 157 i34_155 rfl rfl rfl ?_
                        refine X.iadd 158 i34_157 rfl rfl (by omega) ?_
                        refine X.lald 159 i34_158 rfl rfl (by decide) rfl (by omega) ?_
                        refine X.lconst (y := 0) 160 i34_159 rfl rfl rfl ?_
                        refine X.lcmp 161 i34_160 rfl rfl (fun z1203 hz1203 => ?_)
                        refine X.ifle 168 164 i34_161 rfl rfl rfl (fun h1204 => ?_) (fun h1204 => ?_)
                        · have h1204c : (m g0 22 (12 + y7)) ≤ 0 := by omega
                          clear h1204 hz1203
                          refine X.cut [(0, zr g0 19), (1, zi y1), (2, zi 0), (3, zi 1), (4, zi 0), (5, zi 1), (7, zi y7)] i34_168 rfl ?_
                          refine X.iconst 169 i34_168 rfl rfl (by decide) ?_
                          refine X.istore 171 [(0, zr g0 19), (1, zi y1), (2, zi 0), (3, zi 1), (4, zi 0), (5, zi 1), (6, zi 0), (7, zi y7)] i34_169 rfl rfl rfl ?_
                          refine X.iinc 174 [(0, zr g0 19), (1, zi y1), (2, zi 0), (3, zi 1), (4, zi 0), (5, zi 1), (6, zi 0), (7, zi (y7 + 1))] i34_171 rfl rfl rfl (by omega) rfl ?_
                          refine X.goto 16 i34_174 rfl rfl ?_
                          exact ih 0 1 0 1 0 (y7 + 1) (by omega) (by omega) (by omega) (by omega) (by omega) (by omega) (by omega)
                        · have h1204c : (m g0 22 (12 + y7)) > 0 := by omega
                          clear h1204 hz1203
                          refine X.cut [(0, zr g0 19), (1, zi y1), (2, zi 0), (3, zi 1), (4, zi 0), (5, zi 1), (7, zi y7)] i34_164 rfl ?_
                          refine X.iconst 165 i34_164 rfl rfl (by decide) ?_
                          refine X.goto 169 i34_165 rfl rfl ?_
                          refine X.istore 171 [(0, zr g0 19), (1, zi y1), (2, zi 0), (3, zi 1), (4, zi 0), (5, zi 1), (6, zi 1), (7, zi y7)] i34_169 rfl rfl rfl ?_
                          refine X.iinc 174 [(0, zr g0 19), (1, zi y1), (2, zi 0), (3, zi 1), (4, zi 0), (5, zi 1), (6, zi 1), (7, zi (y7 + 1))] i34_171 rfl rfl rfl (by omega) rfl ?_
                          refine X.goto 16 i34_174 rfl rfl ?_
                          exact ih 0 1 0 1 1 (y7 + 1) (by omega) (by omega) (by omega) (by omega) (by omega) (by omega) (by omega)
              · have h1186c : (m g0 22 (0 + y7)) > 0 := by omega
                clear h1186 hz1185
                refine X.cut [(0, zr g0 19), (1, zi y1), (2, zi 0), (3, zi 1), (5, zi y5), (6, zi y6), (7, zi y7), (8, zl (m g0 22 (8 + y7))), (10, zl (m g0 22 (0 + y7)))] i34_111 rfl ?_
                refine X.iconst 112 i34_111 rfl rfl (by decide) ?_
                refine X.goto 116 i34_112 rfl rfl ?_
                refine X.istore 118 [(0, zr g0 19), (1, zi y1), (2, zi 0), (3, zi 1), (4, zi 1), (5, zi y5), (6, zi y6), (7, zi y7), (8, zl (m g0 22 (8 + y7))), (10, zl (m g0 22 (0 + y7)))] i34_116 rfl rfl rfl ?_
                refine X.iload 120 i34_118 rfl rfl rfl ?_
                refine X.ifne 130 123 i34_120 rfl rfl rfl (fun h1205 => ?_) (fun h1205 => ?_)
                · refine X.cut [(0, zr g0 19), (1, zi y1), (2, zi 0), (3, zi 1), (4, zi 1), (6, zi y6), (7, zi y7), (8, zl (m g0 22 (8 + y7)))] i34_130 rfl ?_
                  refine X.iconst 131 i34_130 rfl rfl (by decide) ?_
                  refine X.goto 135 i34_131 rfl rfl ?_
                  refine X.istore 137 [(0, zr g0 19), (1, zi y1), (2, zi 0), (3, zi 1), (4, zi 1), (5, zi 1), (6, zi y6), (7, zi y7), (8, zl (m g0 22 (8 + y7)))] i34_135 rfl rfl rfl ?_
                  refine X.iload 139 i34_137 rfl rfl rfl ?_
                  refine X.ifne 164 142 i34_139 rfl rfl rfl (fun h1206 => ?_) (fun h1206 => ?_)
                  · refine X.cut [(0, zr g0 19), (1, zi y1), (2, zi 0), (3, zi 1), (4, zi 1), (5, zi 1), (7, zi y7)] i34_164 rfl ?_
                    refine X.iconst 165 i34_164 rfl rfl (by decide) ?_
                    refine X.goto 169 i34_165 rfl rfl ?_
                    refine X.istore 171 [(0, zr g0 19), (1, zi y1), (2, zi 0), (3, zi 1), (4, zi 1), (5, zi 1), (6, zi 1), (7, zi y7)] i34_169 rfl rfl rfl ?_
                    refine X.iinc 174 [(0, zr g0 19), (1, zi y1), (2, zi 0), (3, zi 1), (4, zi 1), (5, zi 1), (6, zi 1), (7, zi (y7 + 1))] i34_171 rfl rfl rfl (by omega) rfl ?_
                    refine X.goto 16 i34_174 rfl rfl ?_
                    exact ih 0 1 1 1 1 (y7 + 1) (by omega) (by omega) (by omega) (by omega) (by omega) (by omega) (by omega)
                  · refine X.lload 144 i34_142 rfl rfl rfl ?_
                    refine X.lconst (y := 0) 145 i34_144 rfl rfl rfl ?_
                    refine X.lcmp 146 i34_145 rfl rfl (fun z1207 hz1207 => ?_)
                    refine X.ifne 168 149 i34_146 rfl rfl rfl (fun h1208 => ?_) (fun h1208 => ?_)
                    · have h1208c : (m g0 22 (8 + y7)) ≠ 0 := by omega
                      clear h1208 hz1207
                      refine X.cut [(0, zr g0 19), (1, zi y1), (2, zi 0), (3, zi 1), (4, zi 1), (5, zi 1), (7, zi y7)] i34_168 rfl ?_
                      refine X.iconst 169 i34_168 rfl rfl (by decide) ?_
                      refine X.istore 171 [(0, zr g0 19), (1, zi y1), (2, zi 0), (3, zi 1), (4, zi 1), (5, zi 1), (6, zi 0), (7, zi y7)] i34_169 rfl rfl rfl ?_
                      refine X.iinc 174 [(0, zr g0 19), (1, zi y1), (2, zi 0), (3, zi 1), (4, zi 1), (5, zi 1), (6, zi 0), (7, zi (y7 + 1))] i34_171 rfl rfl rfl (by omega) rfl ?_
                      refine X.goto 16 i34_174 rfl rfl ?_
                      exact ih 0 1 1 1 0 (y7 + 1) (by omega) (by omega) (by omega) (by omega) (by omega) (by omega) (by omega)
                    · have h1208c : (m g0 22 (8 + y7)) = 0 := by omega
                      clear h1208 hz1207
                      refine X.aload_n 150 i34_149 rfl rfl rfl ?_
                      refine X.getR 153 i34_150 rfl rfl (by decide) rfl rfl ?_
                      refine X.bipush 155 i34_153 rfl rfl (by decide) ?_
                      refine X.iload 157 i34_155 rfl rfl rfl ?_
                      refine X.iadd 158 i34_157 rfl rfl (by omega) ?_
                      refine X.lald 159 i34_158 rfl rfl (by decide) rfl (by omega) ?_
                      refine X.lconst (y := 0) 160 i34_159 rfl rfl rfl ?_
                      refine X.lcmp 161 i34_160 rfl rfl (fun z1209 hz1209 => ?_)
                      refine X.ifle 168 164 i34_161 rfl rfl rfl (fun h1210 => ?_) (fun h1210 => ?_)
                      · have h1210c : (m g0 22 (12 + y7)) ≤ 0 := by omega
                        clear h1210 hz1209
                        refine X.cut [(0, zr g0 19), (1, zi y1), (2, zi 0), (3, zi 1), (4, zi 1), (5, zi 1), (7, zi y7)] i34_168 rfl ?_
                        refine X.iconst 169 i34_168 rfl rfl (by decide) ?_
                        refine X.istore 171 [(0, zr g0 19), (1, zi y1), (2, zi 0), (3, zi 1), (4, zi 1), (5, zi 1), (6, zi 0), (7, zi y7)] i34_169 rfl rfl rfl ?_
                        refine X.iinc 174 [(0, zr g0 19), (1, zi y1), (2, zi 0), (3, zi 1), (4, zi 1), (5, zi 1), (6, zi 0), (7, zi (y7 + 1))] i34_171 rfl rfl rfl (by omega) rfl ?_
                        refine X.goto 16 i34_174 rfl rfl ?_
                        exact ih 0 1 1 1 0 (y7 + 1) (by omega) (by omega) (by omega) (by omega) (by omega) (by omega) (by omega)
                      · have h1210c : (m g0 22 (12 + y7)) > 0 := by omega
                        clear h1210 hz1209
                        refine X.cut [(0, zr g0 19), (1, zi y1), (2, zi 0), (3, zi 1), (4, zi 1), (5, zi 1), (7, zi y7)] i34_164 rfl ?_
                        refine X.iconst 165 i34_164 rfl rfl (by decide) ?_
                        refine X.goto 169 i34_165 rfl rfl ?_
                        refine X.istore 171 [(0, zr g0 19), (1, zi y1), (2, zi 0), (3, zi 1), (4, zi 1), (5, zi 1), (6, zi 1), (7, zi y7)] i34_169 rfl rfl rfl ?_
                        refine X.iinc 174 [(0, zr g0 19), (1, zi y1), (2, zi 0), (3, zi 1), (4, zi 1), (5, zi 1), (6, zi 1), (7, zi (y7 + 1))] i34_171 rfl rfl rfl (by omega) rfl ?_
                        refine X.goto 16 i34_174 rfl rfl ?_
                        exact ih 0 1 1 1 1 (y7 + 1) (by omega) (by omega) (by omega) (by omega) (by omega) (by omega) (by omega)
                · refine X.lload 125 i34_123 rfl rfl rfl ?_
                  refine X.lconst (y := 0) 126 i34_125 rfl rfl rfl ?_
                  refine X.lcmp 127 i34_126 rfl rfl (fun z1211 hz1211 => ?_)
                  refine X.ifge 134 130 i34_127 rfl rfl rfl (fun h1212 => ?_) (fun h1212 => (by exfalso; omega))
                  have h1212c : (m g0 22 (0 + y7)) ≥ 0 := by omega
                  clear h1212 hz1211
                  refine X.cut [(0, zr g0 19), (1, zi y1), (2, zi 0), (3, zi 1), (4, zi 1), (6, zi y6), (7, zi y7), (8, zl (m g0 22 (8 + y7)))] i34_134 rfl ?_
                  refine X.iconst 135 i34_134 rfl rfl (by decide) ?_
                  refine X.istore 137 [(0, zr g0 19), (1, zi y1), (2, zi 0), (3, zi 1), (4, zi 1), (5, zi 0), (6, zi y6), (7, zi y7), (8, zl (m g0 22 (8 + y7)))] i34_135 rfl rfl rfl ?_
                  refine X.iload 139 i34_137 rfl rfl rfl ?_
                  refine X.ifne 164 142 i34_139 rfl rfl rfl (fun h1213 => ?_) (fun h1213 => ?_)
                  · refine X.cut [(0, zr g0 19), (1, zi y1), (2, zi 0), (3, zi 1), (4, zi 1), (5, zi 0), (7, zi y7)] i34_164 rfl ?_
                    refine X.iconst 165 i34_164 rfl rfl (by decide) ?_
                    refine X.goto 169 i34_165 rfl rfl ?_
                    refine X.istore 171 [(0, zr g0 19), (1, zi y1), (2, zi 0), (3, zi 1), (4, zi 1), (5, zi 0), (6, zi 1), (7, zi y7)] i34_169 rfl rfl rfl ?_
                    refine X.iinc 174 [(0, zr g0 19), (1, zi y1), (2, zi 0), (3, zi 1), (4, zi 1), (5, zi 0), (6, zi 1), (7, zi (y7 + 1))] i34_171 rfl rfl rfl (by omega) rfl ?_
                    refine X.goto 16 i34_174 rfl rfl ?_
                    exact ih 0 1 1 0 1 (y7 + 1) (by omega) (by omega) (by omega) (by omega) (by omega) (by omega) (by omega)
                  · refine X.lload 144 i34_142 rfl rfl rfl ?_
                    refine X.lconst (y := 0) 145 i34_144 rfl rfl rfl ?_
                    refine X.lcmp 146 i34_145 rfl rfl (fun z1214 hz1214 => ?_)
                    refine X.ifne 168 149 i34_146 rfl rfl rfl (fun h1215 => ?_) (fun h1215 => ?_)
                    · have h1215c : (m g0 22 (8 + y7)) ≠ 0 := by omega
                      clear h1215 hz1214
                      refine X.cut [(0, zr g0 19), (1, zi y1), (2, zi 0), (3, zi 1), (4, zi 1), (5, zi 0), (7, zi y7)] i34_168 rfl ?_
                      refine X.iconst 169 i34_168 rfl rfl (by decide) ?_
                      refine X.istore 171 [(0, zr g0 19), (1, zi y1), (2, zi 0), (3, zi 1), (4, zi 1), (5, zi 0), (6, zi 0), (7, zi y7)] i34_169 rfl rfl rfl ?_
                      refine X.iinc 174 [(0, zr g0 19), (1, zi y1), (2, zi 0), (3, zi 1), (4, zi 1), (5, zi 0), (6, zi 0), (7, zi (y7 + 1))] i34_171 rfl rfl rfl (by omega) rfl ?_
                      refine X.goto 16 i34_174 rfl rfl ?_
                      exact ih 0 1 1 0 0 (y7 + 1) (by omega) (by omega) (by omega) (by omega) (by omega) (by omega) (by omega)
                    · have h1215c : (m g0 22 (8 + y7)) = 0 := by omega
                      clear h1215 hz1214
                      refine X.aload_n 150 i34_149 rfl rfl rfl ?_
                      refine X.getR 153 i34_150 rfl rfl (by decide) rfl rfl ?_
                      refine X.bipush 155 i34_153 rfl rfl (by decide) ?_
                      refine X.iload 157 i34_155 rfl rfl rfl ?_
                      refine X.iadd 158 i34_157 rfl rfl (by omega) ?_
                      refine X.lald 159 i34_158 rfl rfl (by decide) rfl (by omega) ?_
                      refine X.lconst (y := 0) 160 i34_159 rfl rfl rfl ?_
                      refine X.lcmp 161 i34_160 rfl rfl (fun z1216 hz1216 => ?_)
                      refine X.ifle 168 164 i34_161 rfl rfl rfl (fun h1217 => ?_) (fun h1217 => ?_)
                      · have h1217c : (m g0 22 (12 + y7)) ≤ 0 := by omega
                        clear h1217 hz1216
                        refine X.cut [(0, zr g0 19), (1, zi y1), (2, zi 0), (3, zi 1), (4, zi 1), (5, zi 0), (7, zi y7)] i34_168 rfl ?_
                        refine X.iconst 169 i34_168 rfl rfl (by decide) ?_
                        refine X.istore 171 [(0, zr g0 19), (1, zi y1), (2, zi 0), (3, zi 1), (4, zi 1), (5, zi 0), (6, zi 0), (7, zi y7)] i34_169 rfl rfl rfl ?_
                        refine X.iinc 174 [(0, zr g0 19), (1, zi y1), (2, zi 0), (3, zi 1), (4, zi 1), (5, zi 0), (6, zi 0), (7, zi (y7 + 1))] i34_171 rfl rfl rfl (by omega) rfl ?_
                        refine X.goto 16 i34_174 rfl rfl ?_
                        exact ih 0 1 1 0 0 (y7 + 1) (by omega) (by omega) (by omega) (by omega) (by omega) (by omega) (by omega)
                      · have h1217c : (m g0 22 (12 + y7)) > 0 := by omega
                        clear h1217 hz1216
                        refine X.cut [(0, zr g0 19), (1, zi y1), (2, zi 0), (3, zi 1), (4, zi 1), (5, zi 0), (7, zi y7)] i34_164 rfl ?_
                        refine X.iconst 165 i34_164 rfl rfl (by decide) ?_
                        refine X.goto 169 i34_165 rfl rfl ?_
                        refine X.istore 171 [(0, zr g0 19), (1, zi y1), (2, zi 0), (3, zi 1), (4, zi 1), (5, zi 0), (6, zi 1), (7, zi y7)] i34_169 rfl rfl rfl ?_
                        refine X.iinc 174 [(0, zr g0 19), (1, zi y1), (2, zi 0), (3, zi 1), (4, zi 1), (5, zi 0), (6, zi 1), (7, zi (y7 + 1))] i34_171 rfl rfl rfl (by omega) rfl ?_
                        refine X.goto 16 i34_174 rfl rfl ?_
                        exact ih 0 1 1 0 1 (y7 + 1) (by omega) (by omega) (by omega) (by omega) (by omega) (by omega) (by omega)
      · have h1003c : (m g0 22 (8 + y7)) < z1001 := by omega
        clear h1003 hz1002
        refine X.iconst 63 i34_62 rfl rfl (by decide) ?_
        refine X.goto 67 i34_63 rfl rfl ?_
        refine X.istore 69 [(0, zr g0 19), (1, zi y1), (2, zi y2), (3, zi y3), (4, zi y4), (5, zi y5), (6, zi y6), (7, zi y7), (8, zl (m g0 22 (8 + y7))), (10, zl (m g0 22 (0 + y7))), (12, zi 1)] i34_67 rfl rfl rfl ?_
        refine X.iload_n 70 i34_69 rfl rfl rfl ?_
        refine X.ifne 78 73 i34_70 rfl rfl rfl (fun h1218 => ?_) (fun h1218 => ?_)
        · refine X.cut [(0, zr g0 19), (1, zi y1), (3, zi y3), (4, zi y4), (5, zi y5), (6, zi y6), (7, zi y7), (8, zl (m g0 22 (8 + y7))), (10, zl (m g0 22 (0 + y7))), (12, zi 1)] i34_78 rfl ?_
          refine X.iconst 79 i34_78 rfl rfl (by decide) ?_
          refine X.goto 83 i34_79 rfl rfl ?_
          refine X.istore_n 84 [(0, zr g0 19), (1, zi y1), (2, zi 1), (3, zi y3), (4, zi y4), (5, zi y5), (6, zi y6), (7, zi y7), (8, zl (m g0 22 (8 + y7))), (10, zl (m g0 22 (0 + y7))), (12, zi 1)] i34_83 rfl rfl rfl ?_
          refine X.iload_n 85 i34_84 rfl rfl rfl ?_
          refine X.ifne 93 88 i34_85 rfl rfl rfl (fun h1219 => ?_) (fun h1219 => ?_)
          · refine X.cut [(0, zr g0 19), (1, zi y1), (2, zi 1), (4, zi y4), (5, zi y5), (6, zi y6), (7, zi y7), (8, zl (m g0 22 (8 + y7))), (10, zl (m g0 22 (0 + y7)))] i34_93 rfl ?_
            refine X.iconst 94 i34_93 rfl rfl (by decide) ?_
            refine X.goto 98 i34_94 rfl rfl ?_
            refine X.istore_n 99 [(0, zr g0 19), (1, zi y1), (2, zi 1), (3, zi 1), (4, zi y4), (5, zi y5), (6, zi y6), (7, zi y7), (8, zl (m g0 22 (8 + y7))), (10, zl (m g0 22 (0 + y7)))] i34_98 rfl rfl rfl ?_
            refine X.iload 101 i34_99 rfl rfl rfl ?_
            refine X.ifne 111 104 i34_101 rfl rfl rfl (fun h1220 => ?_) (fun h1220 => ?_)
            · refine X.cut [(0, zr g0 19), (1, zi y1), (2, zi 1), (3, zi 1), (5, zi y5), (6, zi y6), (7, zi y7), (8, zl (m g0 22 (8 + y7))), (10, zl (m g0 22 (0 + y7)))] i34_111 rfl ?_
              refine X.iconst 112 i34_111 rfl rfl (by decide) ?_
              refine X.goto 116 i34_112 rfl rfl ?_
              refine X.istore 118 [(0, zr g0 19), (1, zi y1), (2, zi 1), (3, zi 1), (4, zi 1), (5, zi y5), (6, zi y6), (7, zi y7), (8, zl (m g0 22 (8 + y7))), (10, zl (m g0 22 (0 + y7)))] i34_116 rfl rfl rfl ?_
              refine X.iload 120 i34_118 rfl rfl rfl ?_
              refine X.ifne 130 123 i34_120 rfl rfl rfl (fun h1221 => ?_) (fun h1221 => ?_)
              · refine X.cut [(0, zr g0 19), (1, zi y1), (2, zi 1), (3, zi 1), (4, zi 1), (6, zi y6), (7, zi y7), (8, zl (m g0 22 (8 + y7)))] i34_130 rfl ?_
                refine X.iconst 131 i34_130 rfl rfl (by decide) ?_
                refine X.goto 135 i34_131 rfl rfl ?_
                refine X.istore 137 [(0, zr g0 19), (1, zi y1), (2, zi 1), (3, zi 1), (4, zi 1), (5, zi 1), (6, zi y6), (7, zi y7), (8, zl (m g0 22 (8 + y7)))] i34_135 rfl rfl rfl ?_
                refine X.iload 139 i34_137 rfl rfl rfl ?_
                refine X.ifne 164 142 i34_139 rfl rfl rfl (fun h1222 => ?_) (fun h1222 => ?_)
                · refine X.cut [(0, zr g0 19), (1, zi y1), (2, zi 1), (3, zi 1), (4, zi 1), (5, zi 1), (7, zi y7)] i34_164 rfl ?_
                  refine X.iconst 165 i34_164 rfl rfl (by decide) ?_
                  refine X.goto 169 i34_165 rfl rfl ?_
                  refine X.istore 171 [(0, zr g0 19), (1, zi y1), (2, zi 1), (3, zi 1), (4, zi 1), (5, zi 1), (6, zi 1), (7, zi y7)] i34_169 rfl rfl rfl ?_
                  refine X.iinc 174 [(0, zr g0 19), (1, zi y1), (2, zi 1), (3, zi 1), (4, zi 1), (5, zi 1), (6, zi 1), (7, zi (y7 + 1))] i34_171 rfl rfl rfl (by omega) rfl ?_
                  refine X.goto 16 i34_174 rfl rfl ?_
                  exact ih 1 1 1 1 1 (y7 + 1) (by omega) (by omega) (by omega) (by omega) (by omega) (by omega) (by omega)
                · refine X.lload 144 i34_142 rfl rfl rfl ?_
                  refine X.lconst (y := 0) 145 i34_144 rfl rfl rfl ?_
                  refine X.lcmp 146 i34_145 rfl rfl (fun z1223 hz1223 => ?_)
                  refine X.ifne 168 149 i34_146 rfl rfl rfl (fun h1224 => ?_) (fun h1224 => ?_)
                  · have h1224c : (m g0 22 (8 + y7)) ≠ 0 := by omega
                    clear h1224 hz1223
                    refine X.cut [(0, zr g0 19), (1, zi y1), (2, zi 1), (3, zi 1), (4, zi 1), (5, zi 1), (7, zi y7)] i34_168 rfl ?_
                    refine X.iconst 169 i34_168 rfl rfl (by decide) ?_
                    refine X.istore 171 [(0, zr g0 19), (1, zi y1), (2, zi 1), (3, zi 1), (4, zi 1), (5, zi 1), (6, zi 0), (7, zi y7)] i34_169 rfl rfl rfl ?_
                    refine X.iinc 174 [(0, zr g0 19), (1, zi y1), (2, zi 1), (3, zi 1), (4, zi 1), (5, zi 1), (6, zi 0), (7, zi (y7 + 1))] i34_171 rfl rfl rfl (by omega) rfl ?_
                    refine X.goto 16 i34_174 rfl rfl ?_
                    exact ih 1 1 1 1 0 (y7 + 1) (by omega) (by omega) (by omega) (by omega) (by omega) (by omega) (by omega)
                  · have h1224c : (m g0 22 (8 + y7)) = 0 := by omega
                    clear h1224 hz1223
                    refine X.aload_n 150 i34_149 rfl rfl rfl ?_
                    refine X.getR 153 i34_150 rfl rfl (by decide) rfl rfl ?_
                    refine X.bipush 155 i34_153 rfl rfl (by decide) ?_
                    refine X.iload 157 i34_155 rfl rfl rfl ?_
                    refine X.iadd 158 i34_157 rfl rfl (by omega) ?_
                    refine X.lald 159 i34_158 rfl rfl (by decide) rfl (by omega) ?_
                    refine X.lconst (y := 0) 160 i34_159 rfl rfl rfl ?_
                    refine X.lcmp 161 i34_160 rfl rfl (fun z1225 hz1225 => ?_)
                    refine X.ifle 168 164 i34_161 rfl rfl rfl (fun h1226 => ?_) (fun h1226 => ?_)
                    · have h1226c : (m g0 22 (12 + y7)) ≤ 0 := by omega
                      clear h1226 hz1225
                      refine X.cut [(0, zr g0 19), (1, zi y1), (2, zi 1), (3, zi 1), (4, zi 1), (5, zi 1), (7, zi y7)] i34_168 rfl ?_
                      refine X.iconst 169 i34_168 rfl rfl (by decide) ?_
                      refine X.istore 171 [(0, zr g0 19), (1, zi y1), (2, zi 1), (3, zi 1), (4, zi 1), (5, zi 1), (6, zi 0), (7, zi y7)] i34_169 rfl rfl rfl ?_
                      refine X.iinc 174 [(0, zr g0 19), (1, zi y1), (2, zi 1), (3, zi 1), (4, zi 1), (5, zi 1), (6, zi 0), (7, zi (y7 + 1))] i34_171 rfl rfl rfl (by omega) rfl ?_
                      refine X.goto 16 i34_174 rfl rfl ?_
                      exact ih 1 1 1 1 0 (y7 + 1) (by omega) (by omega) (by omega) (by omega) (by omega) (by omega) (by omega)
                    · have h1226c : (m g0 22 (12 + y7)) > 0 := by omega
                      clear h1226 hz1225
                      refine X.cut [(0, zr g0 19), (1, zi y1), (2, zi 1), (3, zi 1), (4, zi 1), (5, zi 1), (7, zi y7)] i34_164 rfl ?_
                      refine X.iconst 165 i34_164 rfl rfl (by decide) ?_
                      refine X.goto 169 i34_165 rfl rfl ?_
                      refine X.istore 171 [(0, zr g0 19), (1, zi y1), (2, zi 1), (3, zi 1), (4, zi 1), (5, zi 1), (6, zi 1), (7, zi y7)] i34_169 rfl rfl rfl ?_
                      refine X.iinc 174 [(0, zr g0 19), (1, zi y1), (2, zi 1), (3, zi 1), (4, zi 1), (5, zi 1), (6, zi 1), (7, zi (y7 + 1))] i34_171 rfl rfl rfl (by omega) rfl ?_
                      refine X.goto 16 i34_174 rfl rfl ?_
                      exact ih 1 1 1 1 1 (y7 + 1) (by omega) (by omega) (by omega) (by omega) (by omega) (by omega) (by omega)
              · refine X.lload 125 i34_123 rfl rfl rfl ?_
                refine X.lconst (y := 0) 126 i34_125 rfl rfl rfl ?_
                refine X.lcmp 127 i34_126 rfl rfl (fun z1227 hz1227 => ?_)
                refine X.ifge 134 130 i34_127 rfl rfl rfl (fun h1228 => ?_) (fun h1228 => ?_)
                · have h1228c : (m g0 22 (0 + y7)) ≥ 0 := by omega
                  clear h1228 hz1227
                  refine X.cut [(0, zr g0 19), (1, zi y1), (2, zi 1), (3, zi 1), (4, zi 1), (6, zi y6), (7, zi y7), (8, zl (m g0 22 (8 + y7)))] i34_134 rfl ?_
                  refine X.iconst 135 i34_134 rfl rfl (by decide) ?_
                  refine X.istore 137 [(0, zr g0 19), (1, zi y1), (2, zi 1), (3, zi 1), (4, zi 1), (5, zi 0), (6, zi y6), (7, zi y7), (8, zl (m g0 22 (8 + y7)))] i34_135 rfl rfl rfl ?_
                  refine X.iload 139 i34_137 rfl rfl rfl ?_
                  refine X.ifne 164 142 i34_139 rfl rfl rfl (fun h1229 => ?_) (fun h1229 => ?_)
                  · refine X.cut [(0, zr g0 19), (1, zi y1), (2, zi 1), (3, zi 1), (4, zi 1), (5, zi 0), (7, zi y7)] i34_164 rfl ?_
                    refine X.iconst 165 i34_164 rfl rfl (by decide) ?_
                    refine X.goto 169 i34_165 rfl rfl ?_
                    refine X.istore 171 [(0, zr g0 19), (1, zi y1), (2, zi 1), (3, zi 1), (4, zi 1), (5, zi 0), (6, zi 1), (7, zi y7)] i34_169 rfl rfl rfl ?_
                    refine X.iinc 174 [(0, zr g0 19), (1, zi y1), (2, zi 1), (3, zi 1), (4, zi 1), (5, zi 0), (6, zi 1), (7, zi (y7 + 1))] i34_171 rfl rfl rfl (by omega) rfl ?_
                    refine X.goto 16 i34_174 rfl rfl ?_
                    exact ih 1 1 1 0 1 (y7 + 1) (by omega) (by omega) (by omega) (by omega) (by omega) (by omega) (by omega)
                  · refine X.lload 144 i34_142 rfl rfl rfl ?_
                    refine X.lconst (y := 0) 145 i34_144 rfl rfl rfl ?_
                    refine X.lcmp 146 i34_145 rfl rfl (fun z1230 hz1230 => ?_)
                    refine X.ifne 168 149 i34_146 rfl rfl rfl (fun h1231 => ?_) (fun h1231 => ?_)
                    · have h1231c : (m g0 22 (8 + y7)) ≠ 0 := by omega
                      clear h1231 hz1230
                      refine X.cut [(0, zr g0 19), (1, zi y1), (2, zi 1), (3, zi 1), (4, zi 1), (5, zi 0), (7, zi y7)] i34_168 rfl ?_
                      refine X.iconst 169 i34_168 rfl rfl (by decide) ?_
                      refine X.istore 171 [(0, zr g0 19), (1, zi y1), (2, zi 1), (3, zi 1), (4, zi 1), (5, zi 0), (6, zi 0), (7, zi y7)] i34_169 rfl rfl rfl ?_
                      refine X.iinc 174 [(0, zr g0 19), (1, zi y1), (2, zi 1), (3, zi 1), (4, zi 1), (5, zi 0), (6, zi 0), (7, zi (y7 + 1))] i34_171 rfl rfl rfl (by omega) rfl ?_
                      refine X.goto 16 i34_174 rfl rfl ?_
                      exact ih 1 1 1 0 0 (y7 + 1) (by omega) (by omega) (by omega) (by omega) (by omega) (by omega) (by omega)
                    · have h1231c : (m g0 22 (8 + y7)) = 0 := by omega
                      clear h1231 hz1230
                      refine X.aload_n 150 i34_149 rfl rfl rfl ?_
                      refine X.getR 153 i34_150 rfl rfl (by decide) rfl rfl ?_
                      refine X.bipush 155 i34_153 rfl rfl (by decide) ?_
                      refine X.iload 157 i34_155 rfl rfl rfl ?_
                      refine X.iadd 158 i34_157 rfl rfl (by omega) ?_
                      refine X.lald 159 i34_158 rfl rfl (by decide) rfl (by omega) ?_
                      refine X.lconst (y := 0) 160 i34_159 rfl rfl rfl ?_
                      refine X.lcmp 161 i34_160 rfl rfl (fun z1232 hz1232 => ?_)
                      refine X.ifle 168 164 i34_161 rfl rfl rfl (fun h1233 => ?_) (fun h1233 => ?_)
                      · have h1233c : (m g0 22 (12 + y7)) ≤ 0 := by omega
                        clear h1233 hz1232
                        refine X.cut [(0, zr g0 19), (1, zi y1), (2, zi 1), (3, zi 1), (4, zi 1), (5, zi 0), (7, zi y7)] i34_168 rfl ?_
                        refine X.iconst 169 i34_168 rfl rfl (by decide) ?_
                        refine X.istore 171 [(0, zr g0 19), (1, zi y1), (2, zi 1), (3, zi 1), (4, zi 1), (5, zi 0), (6, zi 0), (7, zi y7)] i34_169 rfl rfl rfl ?_
                        refine X.iinc 174 [(0, zr g0 19), (1, zi y1), (2, zi 1), (3, zi 1), (4, zi 1), (5, zi 0), (6, zi 0), (7, zi (y7 + 1))] i34_171 rfl rfl rfl (by omega) rfl ?_
                        refine X.goto 16 i34_174 rfl rfl ?_
                        exact ih 1 1 1 0 0 (y7 + 1) (by omega) (by omega) (by omega) (by omega) (by omega) (by omega) (by omega)
                      · have h1233c : (m g0 22 (12 + y7)) > 0 := by omega
                        clear h1233 hz1232
                        refine X.cut [(0, zr g0 19), (1, zi y1), (2, zi 1), (3, zi 1), (4, zi 1), (5, zi 0), (7, zi y7)] i34_164 rfl ?_
                        refine X.iconst 165 i34_164 rfl rfl (by decide) ?_
                        refine X.goto 169 i34_165 rfl rfl ?_
                        refine X.istore 171 [(0, zr g0 19), (1, zi y1), (2, zi 1), (3, zi 1), (4, zi 1), (5, zi 0), (6, zi 1), (7, zi y7)] i34_169 rfl rfl rfl ?_
                        refine X.iinc 174 [(0, zr g0 19), (1, zi y1), (2, zi 1), (3, zi 1), (4, zi 1), (5, zi 0), (6, zi 1), (7, zi (y7 + 1))] i34_171 rfl rfl rfl (by omega) rfl ?_
                        refine X.goto 16 i34_174 rfl rfl ?_
                        exact ih 1 1 1 0 1 (y7 + 1) (by omega) (by omega) (by omega) (by omega) (by omega) (by omega) (by omega)
                · have h1228c : (m g0 22 (0 + y7)) < 0 := by omega
                  clear h1228 hz1227
                  refine X.cut [(0, zr g0 19), (1, zi y1), (2, zi 1), (3, zi 1), (4, zi 1), (6, zi y6), (7, zi y7), (8, zl (m g0 22 (8 + y7)))] i34_130 rfl ?_
                  refine X.iconst 131 i34_130 rfl rfl (by decide) ?_
                  refine X.goto 135 i34_131 rfl rfl ?_
                  refine X.istore 137 [(0, zr g0 19), (1, zi y1), (2, zi 1), (3, zi 1), (4, zi 1), (5, zi 1), (6, zi y6), (7, zi y7), (8, zl (m g0 22 (8 + y7)))] i34_135 rfl rfl rfl ?_
                  refine X.iload 139 i34_137 rfl rfl rfl ?_
                  refine X.ifne 164 142 i34_139 rfl rfl rfl (fun h1234 => ?_) (fun h1234 => ?_)
                  · refine X.cut [(0, zr g0 19), (1, zi y1), (2, zi 1), (3, zi 1), (4, zi 1), (5, zi 1), (7, zi y7)] i34_164 rfl ?_
                    refine X.iconst 165 i34_164 rfl rfl (by decide) ?_
                    refine X.goto 169 i34_165 rfl rfl ?_
                    refine X.istore 171 [(0, zr g0 19), (1, zi y1), (2, zi 1), (3, zi 1), (4, zi 1), (5, zi 1), (6, zi 1), (7, zi y7)] i34_169 rfl rfl rfl ?_
                    refine X.iinc 174 [(0, zr g0 19), (1, zi y1), (2, zi 1), (3, zi 1), (4, zi 1), (5, zi 1), (6, zi 1), (7, zi (y7 + 1))] i34_171 rfl rfl rfl (by omega) rfl ?_
                    refine X.goto 16 i34_174 rfl rfl ?_
                    exact ih 1 1 1 1 1 (y7 + 1) (by omega) (by omega) (by omega) (by omega) (by omega) (by omega) (by omega)
                  · refine X.lload 144 i34_142 rfl rfl rfl ?_
                    refine X.lconst (y := 0) 145 i34_144 rfl rfl rfl ?_
                    refine X.lcmp 146 i34_145 rfl rfl (fun z1235 hz1235 => ?_)
                    refine X.ifne 168 149 i34_146 rfl rfl rfl (fun h1236 => ?_) (fun h1236 => ?_)
                    · have h1236c : (m g0 22 (8 + y7)) ≠ 0 := by omega
                      clear h1236 hz1235
                      refine X.cut [(0, zr g0 19), (1, zi y1), (2, zi 1), (3, zi 1), (4, zi 1), (5, zi 1), (7, zi y7)] i34_168 rfl ?_
                      refine X.iconst 169 i34_168 rfl rfl (by decide) ?_
                      refine X.istore 171 [(0, zr g0 19), (1, zi y1), (2, zi 1), (3, zi 1), (4, zi 1), (5, zi 1), (6, zi 0), (7, zi y7)] i34_169 rfl rfl rfl ?_
                      refine X.iinc 174 [(0, zr g0 19), (1, zi y1), (2, zi 1), (3, zi 1), (4, zi 1), (5, zi 1), (6, zi 0), (7, zi (y7 + 1))] i34_171 rfl rfl rfl (by omega) rfl ?_
                      refine X.goto 16 i34_174 rfl rfl ?_
                      exact ih 1 1 1 1 0 (y7 + 1) (by omega) (by omega) (by omega) (by omega) (by omega) (by omega) (by omega)
                    · have h1236c : (m g0 22 (8 + y7)) = 0 := by omega
                      clear h1236 hz1235
                      refine X.aload_n 150 i34_149 rfl rfl rfl ?_
                      refine X.getR 153 i34_150 rfl rfl (by decide) rfl rfl ?_
                      refine X.bipush 155 i34_153 rfl rfl (by decide) ?_
                      refine X.iload 157 i34_155 rfl rfl rfl ?_
                      refine X.iadd 158 i34_157 rfl rfl (by omega) ?_
                      refine X.lald 159 i34_158 rfl rfl (by decide) rfl (by omega) ?_
                      refine X.lconst (y := 0) 160 i34_159 rfl rfl rfl ?_
                      refine X.lcmp 161 i34_160 rfl rfl (fun z1237 hz1237 => ?_)
                      refine X.ifle 168 164 i34_161 rfl rfl rfl (fun h1238 => ?_) (fun h1238 => ?_)
                      · have h1238c : (m g0 22 (12 + y7)) ≤ 0 := by omega
                        clear h1238 hz1237
                        refine X.cut [(0, zr g0 19), (1, zi y1), (2, zi 1), (3, zi 1), (4, zi 1), (5, zi 1), (7, zi y7)] i34_168 rfl ?_
                        refine X.iconst 169 i34_168 rfl rfl (by decide) ?_
                        refine X.istore 171 [(0, zr g0 19), (1, zi y1), (2, zi 1), (3, zi 1), (4, zi 1), (5, zi 1), (6, zi 0), (7, zi y7)] i34_169 rfl rfl rfl ?_
                        refine X.iinc 174 [(0, zr g0 19), (1, zi y1), (2, zi 1), (3, zi 1), (4, zi 1), (5, zi 1), (6, zi 0), (7, zi (y7 + 1))] i34_171 rfl rfl rfl (by omega) rfl ?_
                        refine X.goto 16 i34_174 rfl rfl ?_
                        exact ih 1 1 1 1 0 (y7 + 1) (by omega) (by omega) (by omega) (by omega) (by omega) (by omega) (by omega)
                      · have h1238c : (m g0 22 (12 + y7)) > 0 := by omega
                        clear h1238 hz1237
                        refine X.cut [(0, zr g0 19), (1, zi y1), (2, zi 1), (3, zi 1), (4, zi 1), (5, zi 1), (7, zi y7)] i34_164 rfl ?_
                        refine X.iconst 165 i34_164 rfl rfl (by decide) ?_
                        refine X.goto 169 i34_165 rfl rfl ?_
                        refine X.istore 171 [(0, zr g0 19), (1, zi y1), (2, zi 1), (3, zi 1), (4, zi 1), (5, zi 1), (6, zi 1), (7, zi y7)] i34_169 rfl rfl rfl ?_
                        refine X.iinc 174 [(0, zr g0 19), (1, zi y1), (2, zi 1), (3, zi 1), (4, zi 1), (5, zi 1), (6, zi 1), (7, zi (y7 + 1))] i34_171 rfl rfl rfl (by omega) rfl ?_
                        refine X.goto 16 i34_174 rfl rfl ?_
                        exact ih 1 1 1 1 1 (y7 + 1) (by omega) (by omega) (by omega) (by omega) (by omega) (by omega) (by omega)
            · refine X.lload 106 i34_104 rfl rfl rfl ?_
              refine X.lconst (y := 0) 107 i34_106 rfl rfl rfl ?_
              refine X.lcmp 108 i34_107 rfl rfl (fun z1239 hz1239 => ?_)
              refine X.ifle 115 111 i34_108 rfl rfl rfl (fun h1240 => ?_) (fun h1240 => ?_)
              · have h1240c : (m g0 22 (0 + y7)) ≤ 0 := by omega
                clear h1240 hz1239
                refine X.cut [(0, zr g0 19), (1, zi y1), (2, zi 1), (3, zi 1), (5, zi y5), (6, zi y6), (7, zi y7), (8, zl (m g0 22 (8 + y7))), (10, zl (m g0 22 (0 + y7)))] i34_115 rfl ?_
                refine X.iconst 116 i34_115 rfl rfl (by decide) ?_
                refine X.istore 118 [(0, zr g0 19), (1, zi y1), (2, zi 1), (3, zi 1), (4, zi 0), (5, zi y5), (6, zi y6), (7, zi y7), (8, zl (m g0 22 (8 + y7))), (10, zl (m g0 22 (0 + y7)))] i34_116 rfl rfl rfl ?_
                refine X.iload 120 i34_118 rfl rfl rfl ?_
                refine X.ifne 130 123 i34_120 rfl rfl rfl (fun h1241 => ?_) (fun h1241 => ?_)
                · refine X.cut [(0, zr g0 19), (1, zi y1), (2, zi 1), (3, zi 1), (4, zi 0), (6, zi y6), (7, zi y7), (8, zl (m g0 22 (8 + y7)))] i34_130 rfl ?_
                  refine X.iconst 131 i34_130 rfl rfl (by decide) ?_
                  refine X.goto 135 i34_131 rfl rfl ?_
                  refine X.istore 137 [(0, zr g0 19), (1, zi y1), (2, zi 1), (3, zi 1), (4, zi 0), (5, zi 1), (6, zi y6), (7, zi y7), (8, zl (m g0 22 (8 + y7)))] i34_135 rfl rfl rfl ?_
                  refine X.iload 139 i34_137 rfl rfl rfl ?_
                  refine X.ifne 164 142 i34_139 rfl rfl rfl (fun h1242 => ?_) (fun h1242 => ?_)
                  · refine X.cut [(0, zr g0 19), (1, zi y1), (2, zi 1), (3, zi 1), (4, zi 0), (5, zi 1), (7, zi y7)] i34_164 rfl ?_
                    refine X.iconst 165 i34_164 rfl rfl (by decide) ?_
                    refine X.goto 169 i34_165 rfl rfl ?_
                    refine X.istore 171 [(0, zr g0 19), (1, zi y1), (2, zi 1), (3, zi 1), (4, zi 0), (5, zi 1), (6, zi 1), (7, zi y7)] i34_169 rfl rfl rfl ?_
                    refine X.iinc 174 [(0, zr g0 19), (1, zi y1), (2, zi 1), (3, zi 1), (4, zi 0), (5, zi 1), (6, zi 1), (7, zi (y7 + 1))] i34_171 rfl rfl rfl (by omega) rfl ?_
                    refine X.goto 16 i34_174 rfl rfl ?_
                    exact ih 1 1 0 1 1 (y7 + 1) (by omega) (by omega) (by omega) (by omega) (by omega) (by omega) (by omega)
                  · refine X.lload 144 i34_142 rfl rfl rfl ?_
                    refine X.lconst (y := 0) 145 i34_144 rfl rfl rfl ?_
                    refine X.lcmp 146 i34_145 rfl rfl (fun z1243 hz1243 => ?_)
                    refine X.ifne 168 149 i34_146 rfl rfl rfl (fun h1244 => ?_) (fun h1244 => ?_)
                    · have h1244c : (m g0 22 (8 + y7)) ≠ 0 := by omega
                      clear h1244 hz1243
                      refine X.cut [(0, zr g0 19), (1, zi y1), (2, zi 1), (3, zi 1), (4, zi 0), (5, zi 1), (7, zi y7)] i34_168 rfl ?_
                      refine X.iconst 169 i34_168 rfl rfl (by decide) ?_
                      refine X.istore 171 [(0, zr g0 19), (1, zi y1), (2, zi 1), (3, zi 1), (4, zi 0), (5, zi 1), (6, zi 0), (7, zi y7)] i34_169 rfl rfl rfl ?_
                      refine X.iinc 174 [(0, zr g0 19), (1, zi y1), (2, zi 1), (3, zi 1), (4, zi 0), (5, zi 1), (6, zi 0), (7, zi (y7 + 1))] i34_171 rfl rfl rfl (by omega) rfl ?_
                      refine X.goto 16 i34_174 rfl rfl ?_
                      exact ih 1 1 0 1 0 (y7 + 1) (by omega) (by omega) (by omega) (by omega) (by omega) (by omega) (by omega)
                    · have h1244c : (m g0 22 (8 + y7)) = 0 := by omega
                      clear h1244 hz1243
                      refine X.aload_n 150 i34_149 rfl rfl rfl ?_
                      refine X.getR 153 i34_150 rfl rfl (by decide) rfl rfl ?_
                      refine X.bipush 155 i34_153 rfl rfl (by decide) ?_
                      refine X.iload 157 i34_155 rfl rfl rfl ?_
                      refine X.iadd 158 i34_157 rfl rfl (by omega) ?_
                      refine X.lald 159 i34_158 rfl rfl (by decide) rfl (by omega) ?_
                      refine X.lconst (y := 0) 160 i34_159 rfl rfl rfl ?_
                      refine X.lcmp 161 i34_160 rfl rfl (fun z1245 hz1245 => ?_)
                      refine X.ifle 168 164 i34_161 rfl rfl rfl (fun h1246 => ?_) (fun h1246 => ?_)
                      · have h1246c : (m g0 22 (12 + y7)) ≤ 0 := by omega
                        clear h1246 hz1245
                        refine X.cut [(0, zr g0 19), (1, zi y1), (2, zi 1), (3, zi 1), (4, zi 0), (5, zi 1), (7, zi y7)] i34_168 rfl ?_
                        refine X.iconst 169 i34_168 rfl rfl (by decide) ?_
                        refine X.istore 171 [(0, zr g0 19), (1, zi y1), (2, zi 1), (3, zi 1), (4, zi 0), (5, zi 1), (6, zi 0), (7, zi y7)] i34_169 rfl rfl rfl ?_
                        refine X.iinc 174 [(0, zr g0 19), (1, zi y1), (2, zi 1), (3, zi 1), (4, zi 0), (5, zi 1), (6, zi 0), (7, zi (y7 + 1))] i34_171 rfl rfl rfl (by omega) rfl ?_
                        refine X.goto 16 i34_174 rfl rfl ?_
                        exact ih 1 1 0 1 0 (y7 + 1) (by omega) (by omega) (by omega) (by omega) (by omega) (by omega) (by omega)
                      · have h1246c : (m g0 22 (12 + y7)) > 0 := by omega
                        clear h1246 hz1245
                        refine X.cut [(0, zr g0 19), (1, zi y1), (2, zi 1), (3, zi 1), (4, zi 0), (5, zi 1), (7, zi y7)] i34_164 rfl ?_
                        refine X.iconst 165 i34_164 rfl rfl (by decide) ?_
                        refine X.goto 169 i34_165 rfl rfl ?_
                        refine X.istore 171 [(0, zr g0 19), (1, zi y1), (2, zi 1), (3, zi 1), (4, zi 0), (5, zi 1), (6, zi 1), (7, zi y7)] i34_169 rfl rfl rfl ?_
                        refine X.iinc 174 [(0, zr g0 19), (1, zi y1), (2, zi 1), (3, zi 1), (4, zi 0), (5, zi 1), (6, zi 1), (7, zi (y7 + 1))] i34_171 rfl rfl rfl (by omega) rfl ?_
                        refine X.goto 16 i34_174 rfl rfl ?_
                        exact ih 1 1 0 1 1 (y7 + 1) (by omega) (by omega) (by omega) (by omega) (by omega) (by omega) (by omega)
                · refine X.lload 125 i34_123 rfl rfl rfl ?_
                  refine X.lconst (y := 0) 126 i34_125 rfl rfl rfl ?_
                  refine X.lcmp 127 i34_126 rfl rfl (fun z1247 hz1247 => ?_)
                  refine X.ifge 134 130 i34_127 rfl rfl rfl (fun h1248 => ?_) (fun h1248 => ?_)
                  · have h1248c : (m g0 22 (0 + y7)) ≥ 0 := by omega
                    clear h1248 hz1247
                    refine X.cut [(0, zr g0 19), (1, zi y1), (2, zi 1), (3, zi 1), (4, zi 0), (6, zi y6), (7, zi y7), (8, zl (m g0 22 (8 + y7)))] i34_134 rfl ?_
                    refine X.iconst 135 i34_134 rfl rfl (by decide) ?_
                    refine X.istore 137 [(0, zr g0 19), (1, zi y1), (2, zi 1), (3, zi 1), (4, zi 0), (5, zi 0), (6, zi y6), (7, zi y7), (8, zl (m g0 22 (8 + y7)))] i34_135 rfl rfl rfl ?_
                    refine X.iload 139 i34_137 rfl rfl rfl ?_
                    refine X.ifne 164 142 i34_139 rfl rfl rfl (fun h1249 => ?_) (fun h1249 => ?_)
                    · refine X.cut [(0, zr g0 19), (1, zi y1), (2, zi 1), (3, zi 1), (4, zi 0), (5, zi 0), (7, zi y7)] i34_164 rfl ?_
                      refine X.iconst 165 i34_164 rfl rfl (by decide) ?_
                      refine X.goto 169 i34_165 rfl rfl ?_
                      refine X.istore 171 [(0, zr g0 19), (1, zi y1), (2, zi 1), (3, zi 1), (4, zi 0), (5, zi 0), (6, zi 1), (7, zi y7)] i34_169 rfl rfl rfl ?_
                      refine X.iinc 174 [(0, zr g0 19), (1, zi y1), (2, zi 1), (3, zi 1), (4, zi 0), (5, zi 0), (6, zi 1), (7, zi (y7 + 1))] i34_171 rfl rfl rfl (by omega) rfl ?_
                      refine X.goto 16 i34_174 rfl rfl ?_
                      exact ih 1 1 0 0 1 (y7 + 1) (by omega) (by omega) (by omega) (by omega) (by omega) (by omega) (by omega)
                    · refine X.lload 144 i34_142 rfl rfl rfl ?_
                      refine X.lconst (y := 0) 145 i34_144 rfl rfl rfl ?_
                      refine X.lcmp 146 i34_145 rfl rfl (fun z1250 hz1250 => ?_)
                      refine X.ifne 168 149 i34_146 rfl rfl rfl (fun h1251 => ?_) (fun h1251 => ?_)
                      · have h1251c : (m g0 22 (8 + y7)) ≠ 0 := by omega
                        clear h1251 hz1250
                        refine X.cut [(0, zr g0 19), (1, zi y1), (2, zi 1), (3, zi 1), (4, zi 0), (5, zi 0), (7, zi y7)] i34_168 rfl ?_
                        refine X.iconst 169 i34_168 rfl rfl (by decide) ?_
                        refine X.istore 171 [(0, zr g0 19), (1, zi y1), (2, zi 1), (3, zi 1), (4, zi 0), (5, zi 0), (6, zi 0), (7, zi y7)] i34_169 rfl rfl rfl ?_
                        refine X.iinc 174 [(0, zr g0 19), (1, zi y1), (2, zi 1), (3, zi 1), (4, zi 0), (5, zi 0), (6, zi 0), (7, zi (y7 + 1))] i34_171 rfl rfl rfl (by omega) rfl ?_
                        refine X.goto 16 i34_174 rfl rfl ?_
                        exact ih 1 1 0 0 0 (y7 + 1) (by omega) (by omega) (by omega) (by omega) (by omega) (by omega) (by omega)
                      · have h1251c : (m g0 22 (8 + y7)) = 0 := by omega
                        clear h1251 hz1250
                        refine X.aload_n 150 i34_149 rfl rfl rfl ?_
                        refine X.getR 153 i34_150 rfl rfl (by decide) rfl rfl ?_
                        refine X.bipush 155 i34_153 rfl rfl (by decide) ?_
                        refine X.iload 157 i34_155 rfl rfl rfl ?_
                        refine X.iadd 158 i34_157 rfl rfl (by omega) ?_
                        refine X.lald 159 i34_158 rfl rfl (by decide) rfl (by omega) ?_
                        refine X.lconst (y := 0) 160 i34_159 rfl rfl rfl ?_
                        refine X.lcmp 161 i34_160 rfl rfl (fun z1252 hz1252 => ?_)
                        refine X.ifle 168 164 i34_161 rfl rfl rfl (fun h1253 => ?_) (fun h1253 => ?_)
                        · have h1253c : (m g0 22 (12 + y7)) ≤ 0 := by omega
                          clear h1253 hz1252
                          refine X.cut [(0, zr g0 19), (1, zi y1), (2, zi 1), (3, zi 1), (4, zi 0), (5, zi 0), (7, zi y7)] i34_168 rfl ?_
                          refine X.iconst 169 i34_168 rfl rfl (by decide) ?_
                          refine X.istore 171 [(0, zr g0 19), (1, zi y1), (2, zi 1), (3, zi 1), (4, zi 0), (5, zi 0), (6, zi 0), (7, zi y7)] i34_169 rfl rfl rfl ?_
                          refine X.iinc 174 [(0, zr g0 19), (1, zi y1), (2, zi 1), (3, zi 1), (4, zi 0), (5, zi 0), (6, zi 0), (7, zi (y7 + 1))] i34_171 rfl rfl rfl (by omega) rfl ?_
                          refine X.goto 16 i34_174 rfl rfl ?_
                          exact ih 1 1 0 0 0 (y7 + 1) (by omega) (by omega) (by omega) (by omega) (by omega) (by omega) (by omega)
                        · have h1253c : (m g0 22 (12 + y7)) > 0 := by omega
                          clear h1253 hz1252
                          refine X.cut [(0, zr g0 19), (1, zi y1), (2, zi 1), (3, zi 1), (4, zi 0), (5, zi 0), (7, zi y7)] i34_164 rfl ?_
                          refine X.iconst 165 i34_164 rfl rfl (by decide) ?_
                          refine X.goto 169 i34_165 rfl rfl ?_
                          refine X.istore 171 [(0, zr g0 19), (1, zi y1), (2, zi 1), (3, zi 1), (4, zi 0), (5, zi 0), (6, zi 1), (7, zi y7)] i34_169 rfl rfl rfl ?_
                          refine X.iinc 174 [(0, zr g0 19), (1, zi y1), (2, zi 1), (3, zi 1), (4, zi 0), (5, zi 0), (6, zi 1), (7, zi (y7 + 1))] i34_171 rfl rfl rfl (by omega) rfl ?_
                          refine X.goto 16 i34_174 rfl rfl ?_
                          exact ih 1 1 0 0 1 (y7 + 1) (by omega) (by omega) (by omega) (by omega) (by omega) (by omega) (by omega)
                  · have h1248c : (m g0 22 (0 + y7)) < 0 := by omega
                    clear h1248 hz1247
                    refine X.cut [(0, zr g0 19), (1, zi y1), (2, zi 1), (3, zi 1), (4, zi 0), (6, zi y6), (7, zi y7), (8, zl (m g0 22 (8 + y7)))] i34_130 rfl ?_
                    refine X.iconst 131 i34_130 rfl rfl (by decide) ?_
                    refine X.goto 135 i34_131 rfl rfl ?_
                    refine X.istore 137 [(0, zr g0 19), (1, zi y1), (2, zi 1), (3, zi 1), (4, zi 0), (5, zi 1), (6, zi y6), (7, zi y7), (8, zl (m g0 22 (8 + y7)))] i34_135 rfl rfl rfl ?_
                    refine X.iload 139 i34_137 rfl rfl rfl ?_
                    refine X.ifne 164 142 i34_139 rfl rfl rfl (fun h1254 => ?_) (fun h1254 => ?_)
                    · refine X.cut [(0, zr g0 19), (1, zi y1), (2, zi 1), (3, zi 1), (4, zi 0), (5, zi 1), (7, zi y7)] i34_164 rfl ?_
                      refine X.iconst 165 i34_164 rfl rfl (by decide) ?_
                      refine X.goto 169 i34_165 rfl rfl ?_
                      refine X.istore 171 [(0, zr g0 19), (1, zi y1), (2, zi 1), (3, zi 1), (4, zi 0), (5, zi 1), (6, zi 1), (7, zi y7)] i34_169 rfl rfl rfl ?_
                      refine X.iinc 174 [(0, zr g0 19), (1, zi y1), (2, zi 1), (3, zi 1), (4, zi 0), (5, zi 1), (6, zi 1), (7, zi (y7 + 1))] i34_171 rfl rfl rfl (by omega) rfl ?_
                      refine X.goto 16 i34_174 rfl rfl ?_
                      exact ih 1 1 0 1 1 (y7 + 1) (by omega) (by omega) (by omega) (by omega) (by omega) (by omega) (by omega)
                    · refine X.lload 144 i34_142 rfl rfl rfl ?_
                      refine X.lconst (y := 0) 145 i34_144 rfl rfl rfl ?_
                      refine X.lcmp 146 i34_145 rfl rfl (fun z1255 hz1255 => ?_)
                      refine X.ifne 168 149 i34_146 rfl rfl rfl (fun h1256 => ?_) (fun h1256 => ?_)
                      · have h1256c : (m g0 22 (8 + y7)) ≠ 0 := by omega
                        clear h1256 hz1255
                        refine X.cut [(0, zr g0 19), (1, zi y1), (2, zi 1), (3, zi 1), (4, zi 0), (5, zi 1), (7, zi y7)] i34_168 rfl ?_
                        refine X.iconst 169 i34_168 rfl rfl (by decide) ?_
                        refine X.istore 171 [(0, zr g0 19), (1, zi y1), (2, zi 1), (3, zi 1), (4, zi 0), (5, zi 1), (6, zi 0), (7, zi y7)] i34_169 rfl rfl rfl ?_
                        refine X.iinc 174 [(0, zr g0 19), (1, zi y1), (2, zi 1), (3, zi 1), (4, zi 0), (5, zi 1), (6, zi 0), (7, zi (y7 + 1))] i34_171 rfl rfl rfl (by omega) rfl ?_
                        refine X.goto 16 i34_174 rfl rfl ?_
                        exact ih 1 1 0 1 0 (y7 + 1) (by omega) (by omega) (by omega) (by omega) (by omega) (by omega) (by omega)
                      · have h1256c : (m g0 22 (8 + y7)) = 0 := by omega
                        clear h1256 hz1255
                        refine X.aload_n 150 i34_149 rfl rfl rfl ?_
                        refine X.getR 153 i34_150 rfl rfl (by decide) rfl rfl ?_
                        refine X.bipush 155 i34_153 rfl rfl (by decide) ?_
                        refine X.iload 157 i34_155 rfl rfl rfl ?_
                        refine X.iadd 158 i34_157 rfl rfl (by omega) ?_
                        refine X.lald 159 i34_158 rfl rfl (by decide) rfl (by omega) ?_
                        refine X.lconst (y := 0) 160 i34_159 rfl rfl rfl ?_
                        refine X.lcmp 161 i34_160 rfl rfl (fun z1257 hz1257 => ?_)
                        refine X.ifle 168 164 i34_161 rfl rfl rfl (fun h1258 => ?_) (fun h1258 => ?_)
                        · have h1258c : (m g0 22 (12 + y7)) ≤ 0 := by omega
                          clear h1258 hz1257
                          refine X.cut [(0, zr g0 19), (1, zi y1), (2, zi 1), (3, zi 1), (4, zi 0), (5, zi 1), (7, zi y7)] i34_168 rfl ?_
                          refine X.iconst 169 i34_168 rfl rfl (by decide) ?_
                          refine X.istore 171 [(0, zr g0 19), (1, zi y1), (2, zi 1), (3, zi 1), (4, zi 0), (5, zi 1), (6, zi 0), (7, zi y7)] i34_169 rfl rfl rfl ?_
                          refine X.iinc 174 [(0, zr g0 19), (1, zi y1), (2, zi 1), (3, zi 1), (4, zi 0), (5, zi 1), (6, zi 0), (7, zi (y7 + 1))] i34_171 rfl rfl rfl (by omega) rfl ?_
                          refine X.goto 16 i34_174 rfl rfl ?_
                          exact ih 1 1 0 1 0 (y7 + 1) (by omega) (by omega) (by omega) (by omega) (by omega) (by omega) (by omega)
                        · have h1258c : (m g0 22 (12 + y7)) > 0 := by omega
                          clear h1258 hz1257
                          refine X.cut [(0, zr g0 19), (1, zi y1), (2, zi 1), (3, zi 1), (4, zi 0), (5, zi 1), (7, zi y7)] i34_164 rfl ?_
                          refine X.iconst 165 i34_164 rfl rfl (by decide) ?_
                          refine X.goto 169 i34_165 rfl rfl ?_
                          refine X.istore 171 [(0, zr g0 19), (1, zi y1), (2, zi 1), (3, zi 1), (4, zi 0), (5, zi 1), (6, zi 1), (7, zi y7)] i34_169 rfl rfl rfl ?_
                          refine X.iinc 174 [(0, zr g0 19), (1, zi y1), (2, zi 1), (3, zi 1), (4, zi 0), (5, zi 1), (6, zi 1), (7, zi (y7 + 1))] i34_171 rfl rfl rfl (by omega) rfl ?_
                          refine X.goto 16 i34_174 rfl rfl ?_
                          exact ih 1 1 0 1 1 (y7 + 1) (by omega) (by omega) (by omega) (by omega) (by omega) (by omega) (by omega)
              · have h1240c : (m g0 22 (0 + y7)) > 0 := by omega
                clear h1240 hz1239
                refine X.cut [(0, zr g0 19), (1, zi y1), (2, zi 1), (3, zi 1), (5, zi y5), (6, zi y6), (7, zi y7), (8, zl (m g0 22 (8 + y7))), (10, zl (m g0 22 (0 + y7)))] i34_111 rfl ?_
                refine X.iconst 112 i34_111 rfl rfl (by decide) ?_
                refine X.goto 116 i34_112 rfl rfl ?_
                refine X.istore 118 [(0, zr g0 19), (1, zi y1), (2, zi 1), (3, zi 1), (4, zi 1), (5, zi y5), (6, zi y6), (7, zi y7), (8, zl (m g0 22 (8 + y7))), (10, zl (m g0 22 (0 + y7)))] i34_116 rfl rfl rfl ?_
                refine X.iload 120 i34_118 rfl rfl rfl ?_
                refine X.ifne 130 123 i34_120 rfl rfl rfl (fun h1259 => ?_) (fun h1259 => ?_)
                · refine X.cut [(0, zr g0 19), (1, zi y1), (2, zi 1), (3, zi 1), (4, zi 1), (6, zi y6), (7, zi y7), (8, zl (m g0 22 (8 + y7)))] i34_130 rfl ?_
                  refine X.iconst 131 i34_130 rfl rfl (by decide) ?_
                  refine X.goto 135 i34_131 rfl rfl ?_
                  refine X.istore 137 [(0, zr g0 19), (1, zi y1), (2, zi 1), (3, zi 1), (4, zi 1), (5, zi 1), (6, zi y6), (7, zi y7), (8, zl (m g0 22 (8 + y7)))] i34_135 rfl rfl rfl ?_
                  refine X.iload 139 i34_137 rfl rfl rfl ?_
                  refine X.ifne 164 142 i34_139 rfl rfl rfl (fun h1260 => ?_) (fun h1260 => ?_)
                  · refine X.cut [(0, zr g0 19), (1, zi y1), (2, zi 1), (3, zi 1), (4, zi 1), (5, zi 1), (7, zi y7)] i34_164 rfl ?_
                    refine X.iconst 165 i34_164 rfl rfl (by decide) ?_
                    refine X.goto 169 i34_165 rfl rfl ?_
                    refine X.istore 171 [(0, zr g0 19), (1, zi y1), (2, zi 1), (3, zi 1), (4, zi 1), (5, zi 1), (6, zi 1), (7, zi y7)] i34_169 rfl rfl rfl ?_
                    refine X.iinc 174 [(0, zr g0 19), (1, zi y1), (2, zi 1), (3, zi 1), (4, zi 1), (5, zi 1), (6, zi 1), (7, zi (y7 + 1))] i34_171 rfl rfl rfl (by omega) rfl ?_
                    refine X.goto 16 i34_174 rfl rfl ?_
                    exact ih 1 1 1 1 1 (y7 + 1) (by omega) (by omega) (by omega) (by omega) (by omega) (by omega) (by omega)
                  · refine X.lload 144 i34_142 rfl rfl rfl ?_
                    refine X.lconst (y := 0) 145 i34_144 rfl rfl rfl ?_
                    refine X.lcmp 146 i34_145 rfl rfl (fun z1261 hz1261 => ?_)
                    refine X.ifne 168 149 i34_146 rfl rfl rfl (fun h1262 => ?_) (fun h1262 => ?_)
                    · have h1262c : (m g0 22 (8 + y7)) ≠ 0 := by omega
                      clear h1262 hz1261
                      refine X.cut [(0, zr g0 19), (1, zi y1), (2, zi 1), (3, zi 1), (4, zi 1), (5, zi 1), (7, zi y7)] i34_168 rfl ?_
                      refine X.iconst 169 i34_168 rfl rfl (by decide) ?_
                      refine X.istore 171 [(0, zr g0 19), (1, zi y1), (2, zi 1), (3, zi 1), (4, zi 1), (5, zi 1), (6, zi 0), (7, zi y7)] i34_169 rfl rfl rfl ?_
                      refine X.iinc 174 [(0, zr g0 19), (1, zi y1), (2, zi 1), (3, zi 1), (4, zi 1), (5, zi 1), (6, zi 0), (7, zi (y7 + 1))] i34_171 rfl rfl rfl (by omega) rfl ?_
                      refine X.goto 16 i34_174 rfl rfl ?_
                      exact ih 1 1 1 1 0 (y7 + 1) (by omega) (by omega) (by omega) (by omega) (by omega) (by omega) (by omega)
                    · have h1262c : (m g0 22 (8 + y7)) = 0 := by omega
                      clear h1262 hz1261
                      refine X.aload_n 150 i34_149 rfl rfl rfl ?_
                      refine X.getR 153 i34_150 rfl rfl (by decide) rfl rfl ?_
                      refine X.bipush 155 i34_153 rfl rfl (by decide) ?_
                      refine X.iload 157 i34_155 rfl rfl rfl ?_
                      refine X.iadd 158 i34_157 rfl rfl (by omega) ?_
                      refine X.lald 159 i34_158 rfl rfl (by decide) rfl (by omega) ?_
                      refine X.lconst (y := 0) 160 i34_159 rfl rfl rfl ?_
                      refine X.lcmp 161 i34_160 rfl rfl (fun z1263 hz1263 => ?_)
                      refine X.ifle 168 164 i34_161 rfl rfl rfl (fun h1264 => ?_) (fun h1264 => ?_)
                      · have h1264c : (m g0 22 (12 + y7)) ≤ 0 := by omega
                        clear h1264 hz1263
                        refine X.cut [(0, zr g0 19), (1, zi y1), (2, zi 1), (3, zi 1), (4, zi 1), (5, zi 1), (7, zi y7)] i34_168 rfl ?_
                        refine X.iconst 169 i34_168 rfl rfl (by decide) ?_
                        refine X.istore 171 [(0, zr g0 19), (1, zi y1), (2, zi 1), (3, zi 1), (4, zi 1), (5, zi 1), (6, zi 0), (7, zi y7)] i34_169 rfl rfl rfl ?_
                        refine X.iinc 174 [(0, zr g0 19), (1, zi y1), (2, zi 1), (3, zi 1), (4, zi 1), (5, zi 1), (6, zi 0), (7, zi (y7 + 1))] i34_171 rfl rfl rfl (by omega) rfl ?_
                        refine X.goto 16 i34_174 rfl rfl ?_
                        exact ih 1 1 1 1 0 (y7 + 1) (by omega) (by omega) (by omega) (by omega) (by omega) (by omega) (by omega)
                      · have h1264c : (m g0 22 (12 + y7)) > 0 := by omega
                        clear h1264 hz1263
                        refine X.cut [(0, zr g0 19), (1, zi y1), (2, zi 1), (3, zi 1), (4, zi 1), (5, zi 1), (7, zi y7)] i34_164 rfl ?_
                        refine X.iconst 165 i34_164 rfl rfl (by decide) ?_
                        refine X.goto 169 i34_165 rfl rfl ?_
                        refine X.istore 171 [(0, zr g0 19), (1, zi y1), (2, zi 1), (3, zi 1), (4, zi 1), (5, zi 1), (6, zi 1), (7, zi y7)] i34_169 rfl rfl rfl ?_
                        refine X.iinc 174 [(0, zr g0 19), (1, zi y1), (2, zi 1), (3, zi 1), (4, zi 1), (5, zi 1), (6, zi 1), (7, zi (y7 + 1))] i34_171 rfl rfl rfl (by omega) rfl ?_
                        refine X.goto 16 i34_174 rfl rfl ?_
                        exact ih 1 1 1 1 1 (y7 + 1) (by omega) (by omega) (by omega) (by omega) (by omega) (by omega) (by omega)
                · refine X.lload 125 i34_123 rfl rfl rfl ?_
                  refine X.lconst (y := 0) 126 i34_125 rfl rfl rfl ?_
                  refine X.lcmp 127 i34_126 rfl rfl (fun z1265 hz1265 => ?_)
                  refine X.ifge 134 130 i34_127 rfl rfl rfl (fun h1266 => ?_) (fun h1266 => (by exfalso; omega))
                  have h1266c : (m g0 22 (0 + y7)) ≥ 0 := by omega
                  clear h1266 hz1265
                  refine X.cut [(0, zr g0 19), (1, zi y1), (2, zi 1), (3, zi 1), (4, zi 1), (6, zi y6), (7, zi y7), (8, zl (m g0 22 (8 + y7)))] i34_134 rfl ?_
                  refine X.iconst 135 i34_134 rfl rfl (by decide) ?_
                  refine X.istore 137 [(0, zr g0 19), (1, zi y1), (2, zi 1), (3, zi 1), (4, zi 1), (5, zi 0), (6, zi y6), (7, zi y7), (8, zl (m g0 22 (8 + y7)))] i34_135 rfl rfl rfl ?_
                  refine X.iload 139 i34_137 rfl rfl rfl ?_
                  refine X.ifne 164 142 i34_139 rfl rfl rfl (fun h1267 => ?_) (fun h1267 => ?_)
                  · refine X.cut [(0, zr g0 19), (1, zi y1), (2, zi 1), (3, zi 1), (4, zi 1), (5, zi 0), (7, zi y7)] i34_164 rfl ?_
                    refine X.iconst 165 i34_164 rfl rfl (by decide) ?_
                    refine X.goto 169 i34_165 rfl rfl ?_
                    refine X.istore 171 [(0, zr g0 19), (1, zi y1), (2, zi 1), (3, zi 1), (4, zi 1), (5, zi 0), (6, zi 1), (7, zi y7)] i34_169 rfl rfl rfl ?_
                    refine X.iinc 174 [(0, zr g0 19), (1, zi y1), (2, zi 1), (3, zi 1), (4, zi 1), (5, zi 0), (6, zi 1), (7, zi (y7 + 1))] i34_171 rfl rfl rfl (by omega) rfl ?_
                    refine X.goto 16 i34_174 rfl rfl ?_
                    exact ih 1 1 1 0 1 (y7 + 1) (by omega) (by omega) (by omega) (by omega) (by omega) (by omega) (by omega)
                  · refine X.lload 144 i34_142 rfl rfl rfl ?_
                    refine X.lconst (y := 0) 145 i34_144 rfl rfl rfl ?_
                    refine X.lcmp 146 i34_145 rfl rfl (fun z1268 hz1268 => ?_)
                    refine X.ifne 168 149 i34_146 rfl rfl rfl (fun h1269 => ?_) (fun h1269 => ?_)
                    · have h1269c : (m g0 22 (8 + y7)) ≠ 0 := by omega
                      clear h1269 hz1268
                      refine X.cut [(0, zr g0 19), (1, zi y1), (2, zi 1), (3, zi 1), (4, zi 1), (5, zi 0), (7, zi y7)] i34_168 rfl ?_
                      refine X.iconst 169 i34_168 rfl rfl (by decide) ?_
                      refine X.istore 171 [(0, zr g0 19), (1, zi y1), (2, zi 1), (3, zi 1), (4, zi 1), (5, zi 0), (6, zi 0), (7, zi y7)] i34_169 rfl rfl rfl ?_
                      refine X.iinc 174 [(0, zr g0 19), (1, zi y1), (2, zi 1), (3, zi 1), (4, zi 1), (5, zi 0), (6, zi 0), (7, zi (y7 + 1))] i34_171 rfl rfl rfl (by omega) rfl ?_
                      refine X.goto 16 i34_174 rfl rfl ?_
                      exact ih 1 1 1 0 0 (y7 + 1) (by omega) (by omega) (by omega) (by omega) (by omega) (by omega) (by omega)
                    · have h1269c : (m g0 22 (8 + y7)) = 0 := by omega
                      clear h1269 hz1268
                      refine X.aload_n 150 i34_149 rfl rfl rfl ?_
                      refine X.getR 153 i34_150 rfl rfl (by decide) rfl rfl ?_
                      refine X.bipush 155 i34_153 rfl rfl (by decide) ?_
                      refine X.iload 157 i34_155 rfl rfl rfl ?_
                      refine X.iadd 158 i34_157 rfl rfl (by omega) ?_
                      refine X.lald 159 i34_158 rfl rfl (by decide) rfl (by omega) ?_
                      refine X.lconst (y := 0) 160 i34_159 rfl rfl rfl ?_
                      refine X.lcmp 161 i34_160 rfl rfl (fun z1270 hz1270 => ?_)
                      refine X.ifle 168 164 i34_161 rfl rfl rfl (fun h1271 => ?_) (fun h1271 => ?_)
                      · have h1271c : (m g0 22 (12 + y7)) ≤ 0 := by omega
                        clear h1271 hz1270
                        refine X.cut [(0, zr g0 19), (1, zi y1), (2, zi 1), (3, zi 1), (4, zi 1), (5, zi 0), (7, zi y7)] i34_168 rfl ?_
                        refine X.iconst 169 i34_168 rfl rfl (by decide) ?_
                        refine X.istore 171 [(0, zr g0 19), (1, zi y1), (2, zi 1), (3, zi 1), (4, zi 1), (5, zi 0), (6, zi 0), (7, zi y7)] i34_169 rfl rfl rfl ?_
                        refine X.iinc 174 [(0, zr g0 19), (1, zi y1), (2, zi 1), (3, zi 1), (4, zi 1), (5, zi 0), (6, zi 0), (7, zi (y7 + 1))] i34_171 rfl rfl rfl (by omega) rfl ?_
                        refine X.goto 16 i34_174 rfl rfl ?_
                        exact ih 1 1 1 0 0 (y7 + 1) (by omega) (by omega) (by omega) (by omega) (by omega) (by omega) (by omega)
                      · have h1271c : (m g0 22 (12 + y7)) > 0 := by omega
                        clear h1271 hz1270
                        refine X.cut [(0, zr g0 19), (1, zi y1), (2, zi 1), (3, zi 1), (4, zi 1), (5, zi 0), (7, zi y7)] i34_164 rfl ?_
                        refine X.iconst 165 i34_164 rfl rfl (by decide) ?_
                        refine X.goto 169 i34_165 rfl rfl ?_
                        refine X.istore 171 [(0, zr g0 19), (1, zi y1), (2, zi 1), (3, zi 1), (4, zi 1), (5, zi 0), (6, zi 1), (7, zi y7)] i34_169 rfl rfl rfl ?_
                        refine X.iinc 174 [(0, zr g0 19), (1, zi y1), (2, zi 1), (3, zi 1), (4, zi 1), (5, zi 0), (6, zi 1), (7, zi (y7 + 1))] i34_171 rfl rfl rfl (by omega) rfl ?_
                        refine X.goto 16 i34_174 rfl rfl ?_
                        exact ih 1 1 1 0 1 (y7 + 1) (by omega) (by omega) (by omega) (by omega) (by omega) (by omega) (by omega)
          · refine X.iload 90 i34_88 rfl rfl rfl ?_
            refine X.ifne 97 93 i34_90 rfl rfl rfl (fun h1272 => ?_) (fun h1272 => (by exfalso; omega))
            refine X.cut [(0, zr g0 19), (1, zi y1), (2, zi 1), (4, zi y4), (5, zi y5), (6, zi y6), (7, zi y7), (8, zl (m g0 22 (8 + y7))), (10, zl (m g0 22 (0 + y7)))] i34_97 rfl ?_
            refine X.iconst 98 i34_97 rfl rfl (by decide) ?_
            refine X.istore_n 99 [(0, zr g0 19), (1, zi y1), (2, zi 1), (3, zi 0), (4, zi y4), (5, zi y5), (6, zi y6), (7, zi y7), (8, zl (m g0 22 (8 + y7))), (10, zl (m g0 22 (0 + y7)))] i34_98 rfl rfl rfl ?_
            refine X.iload 101 i34_99 rfl rfl rfl ?_
            refine X.ifne 111 104 i34_101 rfl rfl rfl (fun h1273 => ?_) (fun h1273 => ?_)
            · refine X.cut [(0, zr g0 19), (1, zi y1), (2, zi 1), (3, zi 0), (5, zi y5), (6, zi y6), (7, zi y7), (8, zl (m g0 22 (8 + y7))), (10, zl (m g0 22 (0 + y7)))] i34_111 rfl ?_
              refine X.iconst 112 i34_111 rfl rfl (by decide) ?_
              refine X.goto 116 i34_112 rfl rfl ?_
              refine X.istore 118 [(0, zr g0 19), (1, zi y1), (2, zi 1), (3, zi 0), (4, zi 1), (5, zi y5), (6, zi y6), (7, zi y7), (8, zl (m g0 22 (8 + y7))), (10, zl (m g0 22 (0 + y7)))] i34_116 rfl rfl rfl ?_
              refine X.iload 120 i34_118 rfl rfl rfl ?_
              refine X.ifne 130 123 i34_120 rfl rfl rfl (fun h1274 => ?_) (fun h1274 => ?_)
              · refine X.cut [(0, zr g0 19), (1, zi y1), (2, zi 1), (3, zi 0), (4, zi 1), (6, zi y6), (7, zi y7), (8, zl (m g0 22 (8 + y7)))] i34_130 rfl ?_
                refine X.iconst 131 i34_130 rfl rfl (by decide) ?_
                refine X.goto 135 i34_131 rfl rfl ?_
                refine X.istore 137 [(0, zr g0 19), (1, zi y1), (2, zi 1), (3, zi 0), (4, zi 1), (5, zi 1), (6, zi y6), (7, zi y7), (8, zl (m g0 22 (8 + y7)))] i34_135 rfl rfl rfl ?_
                refine X.iload 139 i34_137 rfl rfl rfl ?_
                refine X.ifne 164 142 i34_139 rfl rfl rfl (fun h1275 => ?_) (fun h1275 => ?_)
                · refine X.cut [(0, zr g0 19), (1, zi y1), (2, zi 1), (3, zi 0), (4, zi 1), (5, zi 1), (7, zi y7)] i34_164 rfl ?_
                  refine X.iconst 165 i34_164 rfl rfl (by decide) ?_
                  refine X.goto 169 i34_165 rfl rfl ?_
                  refine X.istore 171 [(0, zr g0 19), (1, zi y1), (2, zi 1), (3, zi 0), (4, zi 1), (5, zi 1), (6, zi 1), (7, zi y7)] i34_169 rfl rfl rfl ?_
                  refine X.iinc 174 [(0, zr g0 19), (1, zi y1), (2, zi 1), (3, zi 0), (4, zi 1), (5, zi 1), (6, zi 1), (7, zi (y7 + 1))] i34_171 rfl rfl rfl (by omega) rfl ?_
                  refine X.goto 16 i34_174 rfl rfl ?_
                  exact ih 1 0 1 1 1 (y7 + 1) (by omega) (by omega) (by omega) (by omega) (by omega) (by omega) (by omega)
                · refine X.lload 144 i34_142 rfl rfl rfl ?_
                  refine X.lconst (y := 0) 145 i34_144 rfl rfl rfl ?_
                  refine X.lcmp 146 i34_145 rfl rfl (fun z1276 hz1276 => ?_)
                  refine X.ifne 168 149 i34_146 rfl rfl rfl (fun h1277 => ?_) (fun h1277 => ?_)
                  · have h1277c : (m g0 22 (8 + y7)) ≠ 0 := by omega
                    clear h1277 hz1276
                    refine X.cut [(0, zr g0 19), (1, zi y1), (2, zi 1), (3, zi 0), (4, zi 1), (5, zi 1), (7, zi y7)] i34_168 rfl ?_
                    refine X.iconst 169 i34_168 rfl rfl (by decide) ?_
                    refine X.istore 171 [(0, zr g0 19), (1, zi y1), (2, zi 1), (3, zi 0), (4, zi 1), (5, zi 1), (6, zi 0), (7, zi y7)] i34_169 rfl rfl rfl ?_
                    refine X.iinc 174 [(0, zr g0 19), (1, zi y1), (2, zi 1), (3, zi 0), (4, zi 1), (5, zi 1), (6, zi 0), (7, zi (y7 + 1))] i34_171 rfl rfl rfl (by omega) rfl ?_
                    refine X.goto 16 i34_174 rfl rfl ?_
                    exact ih 1 0 1 1 0 (y7 + 1) (by omega) (by omega) (by omega) (by omega) (by omega) (by omega) (by omega)
                  · have h1277c : (m g0 22 (8 + y7)) = 0 := by omega
                    clear h1277 hz1276
                    refine X.aload_n 150 i34_149 rfl rfl rfl ?_
                    refine X.getR 153 i34_150 rfl rfl (by decide) rfl rfl ?_
                    refine X.bipush 155 i34_153 rfl rfl (by decide) ?_
                    refine X.iload 157 i34_155 rfl rfl rfl ?_
                    refine X.iadd 158 i34_157 rfl rfl (by omega) ?_
                    refine X.lald 159 i34_158 rfl rfl (by decide) rfl (by omega) ?_
                    refine X.lconst (y := 0) 160 i34_159 rfl rfl rfl ?_
                    refine X.lcmp 161 i34_160 rfl rfl (fun z1278 hz1278 => ?_)
                    refine X.ifle 168 164 i34_161 rfl rfl rfl (fun h1279 => ?_) (fun h1279 => ?_)
                    · have h1279c : (m g0 22 (12 + y7)) ≤ 0 := by omega
                      clear h1279 hz1278
                      refine X.cut [(0, zr g0 19), (1, zi y1), (2, zi 1), (3, zi 0), (4, zi 1), (5, zi 1), (7, zi y7)] i34_168 rfl ?_
                      refine X.iconst 169 i34_168 rfl rfl (by decide) ?_
                      refine X.istore 171 [(0, zr g0 19), (1, zi y1), (2, zi 1), (3, zi 0), (4, zi 1), (5, zi 1), (6, zi 0), (7, zi y7)] i34_169 rfl rfl rfl ?_
                      refine X.iinc 174 [(0, zr g0 19), (1, zi y1), (2, zi 1), (3, zi 0), (4, zi 1), (5, zi 1), (6, zi 0), (7, zi (y7 + 1))] i34_171 rfl rfl rfl (by omega) rfl ?_
                      refine X.goto 16 i34_174 rfl rfl ?_
                      exact ih 1 0 1 1 0 (y7 + 1) (by omega) (by omega) (by omega) (by omega) (by omega) (by omega) (by omega)
                    · have h1279c : (m g0 22 (12 + y7)) > 0 := by omega
                      clear h1279 hz1278
                      refine X.cut [(0, zr g0 19), (1, zi y1), (2, zi 1), (3, zi 0), (4, zi 1), (5, zi 1), (7, zi y7)] i34_164 rfl ?_
                      refine X.iconst 165 i34_164 rfl rfl (by decide) ?_
                      refine X.goto 169 i34_165 rfl rfl ?_
                      refine X.istore 171 [(0, zr g0 19), (1, zi y1), (2, zi 1), (3, zi 0), (4, zi 1), (5, zi 1), (6, zi 1), (7, zi y7)] i34_169 rfl rfl rfl ?_
                      refine X.iinc 174 [(0, zr g0 19), (1, zi y1), (2, zi 1), (3, zi 0), (4, zi 1), (5, zi 1), (6, zi 1), (7, zi (y7 + 1))] i34_171 rfl rfl rfl (by omega) rfl ?_
                      refine X.goto 16 i34_174 rfl rfl ?_
                      exact ih 1 0 1 1 1 (y7 + 1) (by omega) (by omega) (by omega) (by omega) (by omega) (by omega) (by omega)
              · refine X.lload 125 i34_123 rfl rfl rfl ?_
                refine X.lconst (y := 0) 126 i34_125 rfl rfl rfl ?_
                refine X.lcmp 127 i34_126 rfl rfl (fun z1280 hz1280 => ?_)
                refine X.ifge 134 130 i34_127 rfl rfl rfl (fun h1281 => ?_) (fun h1281 => ?_)
                · have h1281c : (m g0 22 (0 + y7)) ≥ 0 := by omega
                  clear h1281 hz1280
                  refine X.cut [(0, zr g0 19), (1, zi y1), (2, zi 1), (3, zi 0), (4, zi 1), (6, zi y6), (7, zi y7), (8, zl (m g0 22 (8 + y7)))] i34_134 rfl ?_
                  refine X.iconst 135 i34_134 rfl rfl (by decide) ?_
                  refine X.istore 137 [(0, zr g0 19), (1, zi y1), (2, zi 1), (3, zi 0), (4, zi 1), (5, zi 0), (6, zi y6), (7, zi y7), (8, zl (m g0 22 (8 + y7)))] i34_135 rfl rfl rfl ?_
                  refine X.iload 139 i34_137 rfl rfl rfl ?_
                  refine X.ifne 164 142 i34_139 rfl rfl rfl (fun h1282 => ?_) (fun h1282 => ?_)
                  · refine X.cut [(0, zr g0 19), (1, zi y1), (2, zi 1), (3, zi 0), (4, zi 1), (5, zi 0), (7, zi y7)] i34_164 rfl ?_
                    refine X.iconst 165 i34_164 rfl rfl (by decide) ?_
                    refine X.goto 169 i34_165 rfl rfl ?_
                    refine X.istore 171 [(0, zr g0 19), (1, zi y1), (2, zi 1), (3, zi 0), (4, zi 1), (5, zi 0), (6, zi 1), (7, zi y7)] i34_169 rfl rfl rfl ?_
                    refine X.iinc 174 [(0, zr g0 19), (1, zi y1), (2, zi 1), (3, zi 0), (4, zi 1), (5, zi 0), (6, zi 1), (7, zi (y7 + 1))] i34_171 rfl rfl rfl (by omega) rfl ?_
                    refine X.goto 16 i34_174 rfl rfl ?_
                    exact ih 1 0 1 0 1 (y7 + 1) (by omega) (by omega) (by omega) (by omega) (by omega) (by omega) (by omega)
                  · refine X.lload 144 i34_142 rfl rfl rfl ?_
                    refine X.lconst (y := 0) 145 i34_144 rfl rfl rfl ?_
                    refine X.lcmp 146 i34_145 rfl rfl (fun z1283 hz1283 => ?_)
                    refine X.ifne 168 149 i34_146 rfl rfl rfl (fun h1284 => ?_) (fun h1284 => ?_)
                    · have h1284c : (m g0 22 (8 + y7)) ≠ 0 := by omega
                      clear h1284 hz1283
                      refine X.cut [(0, zr g0 19), (1, zi y1), (2, zi 1), (3, zi 0), (4, zi 1), (5, zi 0), (7, zi y7)] i34_168 rfl ?_
                      refine X.iconst 169 i34_168 rfl rfl (by decide) ?_
                      refine X.istore 171 [(0, zr g0 19), (1, zi y1), (2, zi 1), (3, zi 0), (4, zi 1), (5, zi 0), (6, zi 0), (7, zi y7)] i34_169 rfl rfl rfl ?_
                      refine X.iinc 174 [(0, zr g0 19), (1, zi y1), (2, zi 1), (3, zi 0), (4, zi 1), (5, zi 0), (6, zi 0), (7, zi (y7 + 1))] i34_171 rfl rfl rfl (by omega) rfl ?_
                      refine X.goto 16 i34_174 rfl rfl ?_
                      exact ih 1 0 1 0 0 (y7 + 1) (by omega) (by omega) (by omega) (by omega) (by omega) (by omega) (by omega)
                    · have h1284c : (m g0 22 (8 + y7)) = 0 := by omega
                      clear h1284 hz1283
                      refine X.aload_n 150 i34_149 rfl rfl rfl ?_
                      refine X.getR 153 i34_150 rfl rfl (by decide) rfl rfl ?_
                      refine X.bipush 155 i34_153 rfl rfl (by decide) ?_
                      refine X.iload 157 i34_155 rfl rfl rfl ?_
                      refine X.iadd 158 i34_157 rfl rfl (by omega) ?_
                      refine X.lald 159 i34_158 rfl rfl (by decide) rfl (by omega) ?_
                      refine X.lconst (y := 0) 160 i34_159 rfl rfl rfl ?_
                      refine X.lcmp 161 i34_160 rfl rfl (fun z1285 hz1285 => ?_)
                      refine X.ifle 168 164 i34_161 rfl rfl rfl (fun h1286 => ?_) (fun h1286 => ?_)
                      · have h1286c : (m g0 22 (12 + y7)) ≤ 0 := by omega
                        clear h1286 hz1285
                        refine X.cut [(0, zr g0 19), (1, zi y1), (2, zi 1), (3, zi 0), (4, zi 1), (5, zi 0), (7, zi y7)] i34_168 rfl ?_
                        refine X.iconst 169 i34_168 rfl rfl (by decide) ?_
                        refine X.istore 171 [(0, zr g0 19), (1, zi y1), (2, zi 1), (3, zi 0), (4, zi 1), (5, zi 0), (6, zi 0), (7, zi y7)] i34_169 rfl rfl rfl ?_
                        refine X.iinc 174 [(0, zr g0 19), (1, zi y1), (2, zi 1), (3, zi 0), (4, zi 1), (5, zi 0), (6, zi 0), (7, zi (y7 + 1))] i34_171 rfl rfl rfl (by omega) rfl ?_
                        refine X.goto 16 i34_174 rfl rfl ?_
                        exact ih 1 0 1 0 0 (y7 + 1) (by omega) (by omega) (by omega) (by omega) (by omega) (by omega) (by omega)
                      · have h1286c : (m g0 22 (12 + y7)) > 0 := by omega
                        clear h1286 hz1285
                        refine X.cut [(0, zr g0 19), (1, zi y1), (2, zi 1), (3, zi 0), (4, zi 1), (5, zi 0), (7, zi y7)] i34_164 rfl ?_
                        refine X.iconst 165 i34_164 rfl rfl (by decide) ?_
                        refine X.goto 169 i34_165 rfl rfl ?_
                        refine X.istore 171 [(0, zr g0 19), (1, zi y1), (2, zi 1), (3, zi 0), (4, zi 1), (5, zi 0), (6, zi 1), (7, zi y7)] i34_169 rfl rfl rfl ?_
                        refine X.iinc 174 [(0, zr g0 19), (1, zi y1), (2, zi 1), (3, zi 0), (4, zi 1), (5, zi 0), (6, zi 1), (7, zi (y7 + 1))] i34_171 rfl rfl rfl (by omega) rfl ?_
                        refine X.goto 16 i34_174 rfl rfl ?_
                        exact ih 1 0 1 0 1 (y7 + 1) (by omega) (by omega) (by omega) (by omega) (by omega) (by omega) (by omega)
                · have h1281c : (m g0 22 (0 + y7)) < 0 := by omega
                  clear h1281 hz1280
                  refine X.cut [(0, zr g0 19), (1, zi y1), (2, zi 1), (3, zi 0), (4, zi 1), (6, zi y6), (7, zi y7), (8, zl (m g0 22 (8 + y7)))] i34_130 rfl ?_
                  refine X.iconst 131 i34_130 rfl rfl (by decide) ?_
                  refine X.goto 135 i34_131 rfl rfl ?_
                  refine X.istore 137 [(0, zr g0 19), (1, zi y1), (2, zi 1), (3, zi 0), (4, zi 1), (5, zi 1), (6, zi y6), (7, zi y7), (8, zl (m g0 22 (8 + y7)))] i34_135 rfl rfl rfl ?_
                  refine X.iload 139 i34_137 rfl rfl rfl ?_
                  refine X.ifne 164 142 i34_139 rfl rfl rfl (fun h1287 => ?_) (fun h1287 => ?_)
                  · refine X.cut [(0, zr g0 19), (1, zi y1), (2, zi 1), (3, zi 0), (4, zi 1), (5, zi 1), (7, zi y7)] i34_164 rfl ?_
                    refine X.iconst 165 i34_164 rfl rfl (by decide) ?_
                    refine X.goto 169 i34_165 rfl rfl ?_
                    refine X.istore 171 [(0, zr g0 19), (1, zi y1), (2, zi 1), (3, zi 0), (4, zi 1), (5, zi 1), (6, zi 1), (7, zi y7)] i34_169 rfl rfl rfl ?_
                    refine X.iinc 174 [(0, zr g0 19), (1, zi y1), (2, zi 1), (3, zi 0), (4, zi 1), (5, zi 1), (6, zi 1), (7, zi (y7 + 1))] i34_171 rfl rfl rfl (by omega) rfl ?_
                    refine X.goto 16 i34_174 rfl rfl ?_
                    exact ih 1 0 1 1 1 (y7 + 1) (by omega) (by omega) (by omega) (by omega) (by omega) (by omega) (by omega)
                  · refine X.lload 144 i34_142 rfl rfl rfl ?_
                    refine X.lconst (y := 0) 145 i34_144 rfl rfl rfl ?_
                    refine X.lcmp 146 i34_145 rfl rfl (fun z1288 hz1288 => ?_)
                    refine X.ifne 168 149 i34_146 rfl rfl rfl (fun h1289 => ?_) (fun h1289 => ?_)
                    · have h1289c : (m g0 22 (8 + y7)) ≠ 0 := by omega
                      clear h1289 hz1288
                      refine X.cut [(0, zr g0 19), (1, zi y1), (2, zi 1), (3, zi 0), (4, zi 1), (5, zi 1), (7, zi y7)] i34_168 rfl ?_
                      refine X.iconst 169 i34_168 rfl rfl (by decide) ?_
                      refine X.istore 171 [(0, zr g0 19), (1, zi y1), (2, zi 1), (3, zi 0), (4, zi 1), (5, zi 1), (6, zi 0), (7, zi y7)] i34_169 rfl rfl rfl ?_
                      refine X.iinc 174 [(0, zr g0 19), (1, zi y1), (2, zi 1), (3, zi 0), (4, zi 1), (5, zi 1), (6, zi 0), (7, zi (y7 + 1))] i34_171 rfl rfl rfl (by omega) rfl ?_
                      refine X.goto 16 i34_174 rfl rfl ?_
                      exact ih 1 0 1 1 0 (y7 + 1) (by omega) (by omega) (by omega) (by omega) (by omega) (by omega) (by omega)
                    · have h1289c : (m g0 22 (8 + y7)) = 0 := by omega
                      clear h1289 hz1288
                      refine X.aload_n 150 i34_149 rfl rfl rfl ?_
                      refine X.getR 153 i34_150 rfl rfl (by decide) rfl rfl ?_
                      refine X.bipush 155 i34_153 rfl rfl (by decide) ?_
                      refine X.iload 157 i34_155 rfl rfl rfl ?_
                      refine X.iadd 158 i34_157 rfl rfl (by omega) ?_
                      refine X.lald 159 i34_158 rfl rfl (by decide) rfl (by omega) ?_
                      refine X.lconst (y := 0) 160 i34_159 rfl rfl rfl ?_
                      refine X.lcmp 161 i34_160 rfl rfl (fun z1290 hz1290 => ?_)
                      refine X.ifle 168 164 i34_161 rfl rfl rfl (fun h1291 => ?_) (fun h1291 => ?_)
                      · have h1291c : (m g0 22 (12 + y7)) ≤ 0 := by omega
                        clear h1291 hz1290
                        refine X.cut [(0, zr g0 19), (1, zi y1), (2, zi 1), (3, zi 0), (4, zi 1), (5, zi 1), (7, zi y7)] i34_168 rfl ?_
                        refine X.iconst 169 i34_168 rfl rfl (by decide) ?_
                        refine X.istore 171 [(0, zr g0 19), (1, zi y1), (2, zi 1), (3, zi 0), (4, zi 1), (5, zi 1), (6, zi 0), (7, zi y7)] i34_169 rfl rfl rfl ?_
                        refine X.iinc 174 [(0, zr g0 19), (1, zi y1), (2, zi 1), (3, zi 0), (4, zi 1), (5, zi 1), (6, zi 0), (7, zi (y7 + 1))] i34_171 rfl rfl rfl (by omega) rfl ?_
                        refine X.goto 16 i34_174 rfl rfl ?_
                        exact ih 1 0 1 1 0 (y7 + 1) (by omega) (by omega) (by omega) (by omega) (by omega) (by omega) (by omega)
                      · have h1291c : (m g0 22 (12 + y7)) > 0 := by omega
                        clear h1291 hz1290
                        refine X.cut [(0, zr g0 19), (1, zi y1), (2, zi 1), (3, zi 0), (4, zi 1), (5, zi 1), (7, zi y7)] i34_164 rfl ?_
                        refine X.iconst 165 i34_164 rfl rfl (by decide) ?_
                        refine X.goto 169 i34_165 rfl rfl ?_
                        refine X.istore 171 [(0, zr g0 19), (1, zi y1), (2, zi 1), (3, zi 0), (4, zi 1), (5, zi 1), (6, zi 1), (7, zi y7)] i34_169 rfl rfl rfl ?_
                        refine X.iinc 174 [(0, zr g0 19), (1, zi y1), (2, zi 1), (3, zi 0), (4, zi 1), (5, zi 1), (6, zi 1), (7, zi (y7 + 1))] i34_171 rfl rfl rfl (by omega) rfl ?_
                        refine X.goto 16 i34_174 rfl rfl ?_
                        exact ih 1 0 1 1 1 (y7 + 1) (by omega) (by omega) (by omega) (by omega) (by omega) (by omega) (by omega)
            · refine X.lload 106 i34_104 rfl rfl rfl ?_
              refine X.lconst (y := 0) 107 i34_106 rfl rfl rfl ?_
              refine X.lcmp 108 i34_107 rfl rfl (fun z1292 hz1292 => ?_)
              refine X.ifle 115 111 i34_108 rfl rfl rfl (fun h1293 => ?_) (fun h1293 => ?_)
              · have h1293c : (m g0 22 (0 + y7)) ≤ 0 := by omega
                clear h1293 hz1292
                refine X.cut [(0, zr g0 19), (1, zi y1), (2, zi 1), (3, zi 0), (5, zi y5), (6, zi y6), (7, zi y7), (8, zl (m g0 22 (8 + y7))), (10, zl (m g0 22 (0 + y7)))] i34_115 rfl ?_
                refine X.iconst 116 i34_115 rfl rfl (by decide) ?_
                refine X.istore 118 [(0, zr g0 19), (1, zi y1), (2, zi 1), (3, zi 0), (4, zi 0), (5, zi y5), (6, zi y6), (7, zi y7), (8, zl (m g0 22 (8 + y7))), (10, zl (m g0 22 (0 + y7)))] i34_116 rfl rfl rfl ?_
                refine X.iload 120 i34_118 rfl rfl rfl ?_
                refine X.ifne 130 123 i34_120 rfl rfl rfl (fun h1294 => ?_) (fun h1294 => ?_)
                · refine X.cut [(0, zr g0 19), (1, zi y1), (2, zi 1), (3, zi 0), (4, zi 0), (6, zi y6), (7, zi y7), (8, zl (m g0 22 (8 + y7)))] i34_130 rfl ?_
                  refine X.iconst 131 i34_130 rfl rfl (by decide) ?_
                  refine X.goto 135 i34_131 rfl rfl ?_
                  refine X.istore 137 [(0, zr g0 19), (1, zi y1), (2, zi 1), (3, zi 0), (4, zi 0), (5, zi 1), (6, zi y6), (7, zi y7), (8, zl (m g0 22 (8 + y7)))] i34_135 rfl rfl rfl ?_
                  refine X.iload 139 i34_137 rfl rfl rfl ?_
                  refine X.ifne 164 142 i34_139 rfl rfl rfl (fun h1295 => ?_) (fun h1295 => ?_)
                  · refine X.cut [(0, zr g0 19), (1, zi y1), (2, zi 1), (3, zi 0), (4, zi 0), (5, zi 1), (7, zi y7)] i34_164 rfl ?_
                    refine X.iconst 165 i34_164 rfl rfl (by decide) ?_
                    refine X.goto 169 i34_165 rfl rfl ?_
                    refine X.istore 171 [(0, zr g0 19), (1, zi y1), (2, zi 1), (3, zi 0), (4, zi 0), (5, zi 1), (6, zi 1), (7, zi y7)] i34_169 rfl rfl rfl ?_
                    refine X.iinc 174 [(0, zr g0 19), (1, zi y1), (2, zi 1), (3, zi 0), (4, zi 0), (5, zi 1), (6, zi 1), (7, zi (y7 + 1))] i34_171 rfl rfl rfl (by omega) rfl ?_
                    refine X.goto 16 i34_174 rfl rfl ?_
                    exact ih 1 0 0 1 1 (y7 + 1) (by omega) (by omega) (by omega) (by omega) (by omega) (by omega) (by omega)
                  · refine X.lload 144 i34_142 rfl rfl rfl ?_
                    refine X.lconst (y := 0) 145 i34_144 rfl rfl rfl ?_
                    refine X.lcmp 146 i34_145 rfl rfl (fun z1296 hz1296 => ?_)
                    refine X.ifne 168 149 i34_146 rfl rfl rfl (fun h1297 => ?_) (fun h1297 => ?_)
                    · have h1297c : (m g0 22 (8 + y7)) ≠ 0 := by omega
                      clear h1297 hz1296
                      refine X.cut [(0, zr g0 19), (1, zi y1), (2, zi 1), (3, zi 0), (4, zi 0), (5, zi 1), (7, zi y7)] i34_168 rfl ?_
                      refine X.iconst 169 i34_168 rfl rfl (by decide) ?_
                      refine X.istore 171 [(0, zr g0 19), (1, zi y1), (2, zi 1), (3, zi 0), (4, zi 0), (5, zi 1), (6, zi 0), (7, zi y7)] i34_169 rfl rfl rfl ?_
                      refine X.iinc 174 [(0, zr g0 19), (1, zi y1), (2, zi 1), (3, zi 0), (4, zi 0), (5, zi 1), (6, zi 0), (7, zi (y7 + 1))] i34_171 rfl rfl rfl (by omega) rfl ?_
                      refine X.goto 16 i34_174 rfl rfl ?_
                      exact ih 1 0 0 1 0 (y7 + 1) (by omega) (by omega) (by omega) (by omega) (by omega) (by omega) (by omega)
                    · have h1297c : (m g0 22 (8 + y7)) = 0 := by omega
                      clear h1297 hz1296
                      refine X.aload_n 150 i34_149 rfl rfl rfl ?_
                      refine X.getR 153 i34_150 rfl rfl (by decide) rfl rfl ?_
                      refine X.bipush 155 i34_153 rfl rfl (by decide) ?_
                      refine X.iload 157 i34_155 rfl rfl rfl ?_
                      refine X.iadd 158 i34_157 rfl rfl (by omega) ?_
                      refine X.lald 159 i34_158 rfl rfl (by decide) rfl (by omega) ?_
                      refine X.lconst (y := 0) 160 i34_159 rfl rfl rfl ?_
                      refine X.lcmp 161 i34_160 rfl rfl (fun z1298 hz1298 => ?_)
                      refine X.ifle 168 164 i34_161 rfl rfl rfl (fun h1299 => ?_) (fun h1299 => ?_)
                      · have h1299c : (m g0 22 (12 + y7)) ≤ 0 := by omega
                        clear h1299 hz1298
                        refine X.cut [(0, zr g0 19), (1, zi y1), (2, zi 1), (3, zi 0), (4, zi 0), (5, zi 1), (7, zi y7)] i34_168 rfl ?_
                        refine X.iconst 169 i34_168 rfl rfl (by decide) ?_
                        refine X.istore 171 [(0, zr g0 19), (1, zi y1), (2, zi 1), (3, zi 0), (4, zi 0), (5, zi 1), (6, zi 0), (7, zi y7)] i34_169 rfl rfl rfl ?_
                        refine X.iinc 174 [(0, zr g0 19), (1, zi y1), (2, zi 1), (3, zi 0), (4, zi 0), (5, zi 1), (6, zi 0), (7, zi (y7 + 1))] i34_171 rfl rfl rfl (by omega) rfl ?_
                        refine X.goto 16 i34_174 rfl rfl ?_
                        exact ih 1 0 0 1 0 (y7 + 1) (by omega) (by omega) (by omega) (by omega) (by omega) (by omega) (by omega)
                      · have h1299c : (m g0 22 (12 + y7)) > 0 := by omega
                        clear h1299 hz1298
                        refine X.cut [(0, zr g0 19), (1, zi y1), (2, zi 1), (3, zi 0), (4, zi 0), (5, zi 1), (7, zi y7)] i34_164 rfl ?_
                        refine X.iconst 165 i34_164 rfl rfl (by decide) ?_
                        refine X.goto 169 i34_165 rfl rfl ?_
                        refine X.istore 171 [(0, zr g0 19), (1, zi y1), (2, zi 1), (3, zi 0), (4, zi 0), (5, zi 1), (6, zi 1), (7, zi y7)] i34_169 rfl rfl rfl ?_
                        refine X.iinc 174 [(0, zr g0 19), (1, zi y1), (2, zi 1), (3, zi 0), (4, zi 0), (5, zi 1), (6, zi 1), (7, zi (y7 + 1))] i34_171 rfl rfl rfl (by omega) rfl ?_
                        refine X.goto 16 i34_174 rfl rfl ?_
                        exact ih 1 0 0 1 1 (y7 + 1) (by omega) (by omega) (by omega) (by omega) (by omega) (by omega) (by omega)
                · refine X.lload 125 i34_123 rfl rfl rfl ?_
                  refine X.lconst (y := 0) 126 i34_125 rfl rfl rfl ?_
                  refine X.lcmp 127 i34_126 rfl rfl (fun z1300 hz1300 => ?_)
                  refine X.ifge 134 130 i34_127 rfl rfl rfl (fun h1301 => ?_) (fun h1301 => ?_)
                  · have h1301c : (m g0 22 (0 + y7)) ≥ 0 := by omega
                    clear h1301 hz1300
                    refine X.cut [(0, zr g0 19), (1, zi y1), (2, zi 1), (3, zi 0), (4, zi 0), (6, zi y6), (7, zi y7), (8, zl (m g0 22 (8 + y7)))] i34_134 rfl ?_
                    refine X.iconst 135 i34_134 rfl rfl (by decide) ?_
                    refine X.istore 137 [(0, zr g0 19), (1, zi y1), (2, zi 1), (3, zi 0), (4, zi 0), (5, zi 0), (6, zi y6), (7, zi y7), (8, zl (m g0 22 (8 + y7)))] i34_135 rfl rfl rfl ?_
                    refine X.iload 139 i34_137 rfl rfl rfl ?_
                    refine X.ifne 164 142 i34_139 rfl rfl rfl (fun h1302 => ?_) (fun h1302 => ?_)
                    · refine X.cut [(0, zr g0 19), (1, zi y1), (2, zi 1), (3, zi 0), (4, zi 0), (5, zi 0), (7, zi y7)] i34_164 rfl ?_
                      refine X.iconst 165 i34_164 rfl rfl (by decide) ?_
                      refine X.goto 169 i34_165 rfl rfl ?_
                      refine X.istore 171 [(0, zr g0 19), (1, zi y1), (2, zi 1), (3, zi 0), (4, zi 0), (5, zi 0), (6, zi 1), (7, zi y7)] i34_169 rfl rfl rfl ?_
                      refine X.iinc 174 [(0, zr g0 19), (1, zi y1), (2, zi 1), (3, zi 0), (4, zi 0), (5, zi 0), (6, zi 1), (7, zi (y7 + 1))] i34_171 rfl rfl rfl (by omega) rfl ?_
                      refine X.goto 16 i34_174 rfl rfl ?_
                      exact ih 1 0 0 0 1 (y7 + 1) (by omega) (by omega) (by omega) (by omega) (by omega) (by omega) (by omega)
                    · refine X.lload 144 i34_142 rfl rfl rfl ?_
                      refine X.lconst (y := 0) 145 i34_144 rfl rfl rfl ?_
                      refine X.lcmp 146 i34_145 rfl rfl (fun z1303 hz1303 => ?_)
                      refine X.ifne 168 149 i34_146 rfl rfl rfl (fun h1304 => ?_) (fun h1304 => ?_)
                      · have h1304c : (m g0 22 (8 + y7)) ≠ 0 := by omega
                        clear h1304 hz1303
                        refine X.cut [(0, zr g0 19), (1, zi y1), (2, zi 1), (3, zi 0), (4, zi 0), (5, zi 0), (7, zi y7)] i34_168 rfl ?_
                        refine X.iconst 169 i34_168 rfl rfl (by decide) ?_
                        refine X.istore 171 [(0, zr g0 19), (1, zi y1), (2, zi 1), (3, zi 0), (4, zi 0), (5, zi 0), (6, zi 0), (7, zi y7)] i34_169 rfl rfl rfl ?_
                        refine X.iinc 174 [(0, zr g0 19), (1, zi y1), (2, zi 1), (3, zi 0), (4, zi 0), (5, zi 0), (6, zi 0), (7, zi (y7 + 1))] i34_171 rfl rfl rfl (by omega) rfl ?_
                        refine X.goto 16 i34_174 rfl rfl ?_
                        exact ih 1 0 0 0 0 (y7 + 1) (by omega) (by omega) (by omega) (by omega) (by omega) (by omega) (by omega)
                      · have h1304c : (m g0 22 (8 + y7)) = 0 := by omega
                        clear h1304 hz1303
                        refine X.aload_n 150 i34_149 rfl rfl rfl ?_
                        refine X.getR 153 i34_150 rfl rfl (by decide) rfl rfl ?_
                        refine X.bipush 155 i34_153 rfl rfl (by decide) ?_
                        refine X.iload 157 i34_155 rfl rfl rfl ?_
                        refine X.iadd 158 i34_157 rfl rfl (by omega) ?_
                        refine X.lald 159 i34_158 rfl rfl (by decide) rfl (by omega) ?_
                        refine X.lconst (y := 0) 160 i34_159 rfl rfl rfl ?_
                        refine X.lcmp 161 i34_160 rfl rfl (fun z1305 hz1305 => ?_)
                        refine X.ifle 168 164 i34_161 rfl rfl rfl (fun h1306 => ?_) (fun h1306 => ?_)
                        · have h1306c : (m g0 22 (12 + y7)) ≤ 0 := by omega
                          clear h1306 hz1305
                          refine X.cut [(0, zr g0 19), (1, zi y1), (2, zi 1), (3, zi 0), (4, zi 0), (5, zi 0), (7, zi y7)] i34_168 rfl ?_
                          refine X.iconst 169 i34_168 rfl rfl (by decide) ?_
                          refine X.istore 171 [(0, zr g0 19), (1, zi y1), (2, zi 1), (3, zi 0), (4, zi 0), (5, zi 0), (6, zi 0), (7, zi y7)] i34_169 rfl rfl rfl ?_
                          refine X.iinc 174 [(0, zr g0 19), (1, zi y1), (2, zi 1), (3, zi 0), (4, zi 0), (5, zi 0), (6, zi 0), (7, zi (y7 + 1))] i34_171 rfl rfl rfl (by omega) rfl ?_
                          refine X.goto 16 i34_174 rfl rfl ?_
                          exact ih 1 0 0 0 0 (y7 + 1) (by omega) (by omega) (by omega) (by omega) (by omega) (by omega) (by omega)
                        · have h1306c : (m g0 22 (12 + y7)) > 0 := by omega
                          clear h1306 hz1305
                          refine X.cut [(0, zr g0 19), (1, zi y1), (2, zi 1), (3, zi 0), (4, zi 0), (5, zi 0), (7, zi y7)] i34_164 rfl ?_
                          refine X.iconst 165 i34_164 rfl rfl (by decide) ?_
                          refine X.goto 169 i34_165 rfl rfl ?_
                          refine X.istore 171 [(0, zr g0 19), (1, zi y1), (2, zi 1), (3, zi 0), (4, zi 0), (5, zi 0), (6, zi 1), (7, zi y7)] i34_169 rfl rfl rfl ?_
                          refine X.iinc 174 [(0, zr g0 19), (1, zi y1), (2, zi 1), (3, zi 0), (4, zi 0), (5, zi 0), (6, zi 1), (7, zi (y7 + 1))] i34_171 rfl rfl rfl (by omega) rfl ?_
                          refine X.goto 16 i34_174 rfl rfl ?_
                          exact ih 1 0 0 0 1 (y7 + 1) (by omega) (by omega) (by omega) (by omega) (by omega) (by omega) (by omega)
                  · have h1301c : (m g0 22 (0 + y7)) < 0 := by omega
                    clear h1301 hz1300
                    refine X.cut [(0, zr g0 19), (1, zi y1), (2, zi 1), (3, zi 0), (4, zi 0), (6, zi y6), (7, zi y7), (8, zl (m g0 22 (8 + y7)))] i34_130 rfl ?_
                    refine X.iconst 131 i34_130 rfl rfl (by decide) ?_
                    refine X.goto 135 i34_131 rfl rfl ?_
                    refine X.istore 137 [(0, zr g0 19), (1, zi y1), (2, zi 1), (3, zi 0), (4, zi 0), (5, zi 1), (6, zi y6), (7, zi y7), (8, zl (m g0 22 (8 + y7)))] i34_135 rfl rfl rfl ?_
                    refine X.iload 139 i34_137 rfl rfl rfl ?_
                    refine X.ifne 164 142 i34_139 rfl rfl rfl (fun h1307 => ?_) (fun h1307 => ?_)
                    · refine X.cut [(0, zr g0 19), (1, zi y1), (2, zi 1), (3, zi 0), (4, zi 0), (5, zi 1), (7, zi y7)] i34_164 rfl ?_
                      refine X.iconst 165 i34_164 rfl rfl (by decide) ?_
                      refine X.goto 169 i34_165 rfl rfl ?_
                      refine X.istore 171 [(0, zr g0 19), (1, zi y1), (2, zi 1), (3, zi 0), (4, zi 0), (5, zi 1), (6, zi 1), (7, zi y7)] i34_169 rfl rfl rfl ?_
                      refine X.iinc 174 [(0, zr g0 19), (1, zi y1), (2, zi 1), (3, zi 0), (4, zi 0), (5, zi 1), (6, zi 1), (7, zi (y7 + 1))] i34_171 rfl rfl rfl (by omega) rfl ?_
                      refine X.goto 16 i34_174 rfl rfl ?_
                      exact ih 1 0 0 1 1 (y7 + 1) (by omega) (by omega) (by omega) (by omega) (by omega) (by omega) (by omega)
                    · refine X.lload 144 i34_142 rfl rfl rfl ?_
                      refine X.lconst (y := 0) 145 i34_144 rfl rfl rfl ?_
                      refine X.lcmp 146 i34_145 rfl rfl (fun z1308 hz1308 => ?_)
                      refine X.ifne 168 149 i34_146 rfl rfl rfl (fun h1309 => ?_) (fun h1309 => ?_)
                      · have h1309c : (m g0 22 (8 + y7)) ≠ 0 := by omega
                        clear h1309 hz1308
                        refine X.cut [(0, zr g0 19), (1, zi y1), (2, zi 1), (3, zi 0), (4, zi 0), (5, zi 1), (7, zi y7)] i34_168 rfl ?_
                        refine X.iconst 169 i34_168 rfl rfl (by decide) ?_
                        refine X.istore 171 [(0, zr g0 19), (1, zi y1), (2, zi 1), (3, zi 0), (4, zi 0), (5, zi 1), (6, zi 0), (7, zi y7)] i34_169 rfl rfl rfl ?_
                        refine X.iinc 174 [(0, zr g0 19), (1, zi y1), (2, zi 1), (3, zi 0), (4, zi 0), (5, zi 1), (6, zi 0), (7, zi (y7 + 1))] i34_171 rfl rfl rfl (by omega) rfl ?_
                        refine X.goto 16 i34_174 rfl rfl ?_
                        exact ih 1 0 0 1 0 (y7 + 1) (by omega) (by omega) (by omega) (by omega) (by omega) (by omega) (by omega)
                      · have h1309c : (m g0 22 (8 + y7)) = 0 := by omega
                        clear h1309 hz1308
                        refine X.aload_n 150 i34_149 rfl rfl rfl ?_
                        refine X.getR 153 i34_150 rfl rfl (by decide) rfl rfl ?_
                        refine X.bipush 155 i34_153 rfl rfl (by decide) ?_
                        refine X.iload 157 i34_155 rfl rfl rfl ?_
                        refine X.iadd 158 i34_157 rfl rfl (by omega) ?_
                        refine X.lald 159 i34_158 rfl rfl (by decide) rfl (by omega) ?_
                        refine X.lconst (y := 0) 160 i34_159 rfl rfl rfl ?_
                        refine X.lcmp 161 i34_160 rfl rfl (fun z1310 hz1310 => ?_)
                        refine X.ifle 168 164 i34_161 rfl rfl rfl (fun h1311 => ?_) (fun h1311 => ?_)
                        · have h1311c : (m g0 22 (12 + y7)) ≤ 0 := by omega
                          clear h1311 hz1310
                          refine X.cut [(0, zr g0 19), (1, zi y1), (2, zi 1), (3, zi 0), (4, zi 0), (5, zi 1), (7, zi y7)] i34_168 rfl ?_
                          refine X.iconst 169 i34_168 rfl rfl (by decide) ?_
                          refine X.istore 171 [(0, zr g0 19), (1, zi y1), (2, zi 1), (3, zi 0), (4, zi 0), (5, zi 1), (6, zi 0), (7, zi y7)] i34_169 rfl rfl rfl ?_
                          refine X.iinc 174 [(0, zr g0 19), (1, zi y1), (2, zi 1), (3, zi 0), (4, zi 0), (5, zi 1), (6, zi 0), (7, zi (y7 + 1))] i34_171 rfl rfl rfl (by omega) rfl ?_
                          refine X.goto 16 i34_174 rfl rfl ?_
                          exact ih 1 0 0 1 0 (y7 + 1) (by omega) (by omega) (by omega) (by omega) (by omega) (by omega) (by omega)
                        · have h1311c : (m g0 22 (12 + y7)) > 0 := by omega
                          clear h1311 hz1310
                          refine X.cut [(0, zr g0 19), (1, zi y1), (2, zi 1), (3, zi 0), (4, zi 0), (5, zi 1), (7, zi y7)] i34_164 rfl ?_
                          refine X.iconst 165 i34_164 rfl rfl (by decide) ?_
                          refine X.goto 169 i34_165 rfl rfl ?_
                          refine X.istore 171 [(0, zr g0 19), (1, zi y1), (2, zi 1), (3, zi 0), (4, zi 0), (5, zi 1), (6, zi 1), (7, zi y7)] i34_169 rfl rfl rfl ?_
                          refine X.iinc 174 [(0, zr g0 19), (1, zi y1), (2, zi 1), (3, zi 0), (4, zi 0), (5, zi 1), (6, zi 1), (7, zi (y7 + 1))] i34_171 rfl rfl rfl (by omega) rfl ?_
                          refine X.goto 16 i34_174 rfl rfl ?_
                          exact ih 1 0 0 1 1 (y7 + 1) (by omega) (by omega) (by omega) (by omega) (by omega) (by omega) (by omega)
              · have h1293c : (m g0 22 (0 + y7)) > 0 := by omega
                clear h1293 hz1292
                refine X.cut [(0, zr g0 19), (1, zi y1), (2, zi 1), (3, zi 0), (5, zi y5), (6, zi y6), (7, zi y7), (8, zl (m g0 22 (8 + y7))), (10, zl (m g0 22 (0 + y7)))] i34_111 rfl ?_
                refine X.iconst 112 i34_111 rfl rfl (by decide) ?_
                refine X.goto 116 i34_112 rfl rfl ?_
                refine X.istore 118 [(0, zr g0 19), (1, zi y1), (2, zi 1), (3, zi 0), (4, zi 1), (5, zi y5), (6, zi y6), (7, zi y7), (8, zl (m g0 22 (8 + y7))), (10, zl (m g0 22 (0 + y7)))] i34_116 rfl rfl rfl ?_
                refine X.iload 120 i34_118 rfl rfl rfl ?_
                refine X.ifne 130 123 i34_120 rfl rfl rfl (fun h1312 => ?_) (fun h1312 => ?_)
                · refine X.cut [(0, zr g0 19), (1, zi y1), (2, zi 1), (3, zi 0), (4, zi 1), (6, zi y6), (7, zi y7), (8, zl (m g0 22 (8 + y7)))] i34_130 rfl ?_
                  refine X.iconst 131 i34_130 rfl rfl (by decide) ?_
                  refine X.goto 135 i34_131 rfl rfl ?_
                  refine X.istore 137 [(0, zr g0 19), (1, zi y1), (2, zi 1), (3, zi 0), (4, zi 1), (5, zi 1), (6, zi y6), (7, zi y7), (8, zl (m g0 22 (8 + y7)))] i34_135 rfl rfl rfl ?_
                  refine X.iload 139 i34_137 rfl rfl rfl ?_
                  refine X.ifne 164 142 i34_139 rfl rfl rfl (fun h1313 => ?_) (fun h1313 => ?_)
                  · refine X.cut [(0, zr g0 19), (1, zi y1), (2, zi 1), (3, zi 0), (4, zi 1), (5, zi 1), (7, zi y7)] i34_164 rfl ?_
                    refine X.iconst 165 i34_164 rfl rfl (by decide) ?_
                    refine X.goto 169 i34_165 rfl rfl ?_
                    refine X.istore 171 [(0, zr g0 19), (1, zi y1), (2, zi 1), (3, zi 0), (4, zi 1), (5, zi 1), (6, zi 1), (7, zi y7)] i34_169 rfl rfl rfl ?_
                    refine X.iinc 174 [(0, zr g0 19), (1, zi y1), (2, zi 1), (3, zi 0), (4, zi 1), (5, zi 1), (6, zi 1), (7, zi (y7 + 1))] i34_171 rfl rfl rfl (by omega) rfl ?_
                    refine X.goto 16 i34_174 rfl rfl ?_
                    exact ih 1 0 1 1 1 (y7 + 1) (by omega) (by omega) (by omega) (by omega) (by omega) (by omega) (by omega)
                  · refine X.lload 144 i34_142 rfl rfl rfl ?_
                    refine X.lconst (y := 0) 145 i34_144 rfl rfl rfl ?_
                    refine X.lcmp 146 i34_145 rfl rfl (fun z1314 hz1314 => ?_)
                    refine X.ifne 168 149 i34_146 rfl rfl rfl (fun h1315 => ?_) (fun h1315 => ?_)
                    · have h1315c : (m g0 22 (8 + y7)) ≠ 0 := by omega
                      clear h1315 hz1314
                      refine X.cut [(0, zr g0 19), (1, zi y1), (2, zi 1), (3, zi 0), (4, zi 1), (5, zi 1), (7, zi y7)] i34_168 rfl ?_
                      refine X.iconst 169 i34_168 rfl rfl (by decide) ?_
                      refine X.istore 171 [(0, zr g0 19), (1, zi y1), (2, zi 1), (3, zi 0), (4, zi 1), (5, zi 1), (6, zi 0), (7, zi y7)] i34_169 rfl rfl rfl ?_
                      refine X.iinc 174 [(0, zr g0 19), (1, zi y1), (2, zi 1), (3, zi 0), (4, zi 1), (5, zi 1), (6, zi 0), (7, zi (y7 + 1))] i34_171 rfl rfl rfl (by omega) rfl ?_
                      refine X.goto 16 i34_174 rfl rfl ?_
                      exact ih 1 0 1 1 0 (y7 + 1) (by omega) (by omega) (by omega) (by omega) (by omega) (by omega) (by omega)
                    · have h1315c : (m g0 22 (8 + y7)) = 0 := by omega
                      clear h1315 hz1314
                      refine X.aload_n 150 i34_149 rfl rfl rfl ?_
                      refine X.getR 153 i34_150 rfl rfl (by decide) rfl rfl ?_
                      refine X.bipush 155 i34_153 rfl rfl (by decide) ?_
                      refine X.iload 157 i34_155 rfl rfl rfl ?_
                      refine X.iadd 158 i34_157 rfl rfl (by omega) ?_
                      refine X.lald 159 i34_158 rfl rfl (by decide) rfl (by omega) ?_
                      refine X.lconst (y := 0) 160 i34_159 rfl rfl rfl ?_
                      refine X.lcmp 161 i34_160 rfl rfl (fun z1316 hz1316 => ?_)
                      refine X.ifle 168 164 i34_161 rfl rfl rfl (fun h1317 => ?_) (fun h1317 => ?_)
                      · have h1317c : (m g0 22 (12 + y7)) ≤ 0 := by omega
                        clear h1317 hz1316
                        refine X.cut [(0, zr g0 19), (1, zi y1), (2, zi 1), (3, zi 0), (4, zi 1), (5, zi 1), (7, zi y7)] i34_168 rfl ?_
                        refine X.iconst 169 i34_168 rfl rfl (by decide) ?_
                        refine X.istore 171 [(0, zr g0 19), (1, zi y1), (2, zi 1), (3, zi 0), (4, zi 1), (5, zi 1), (6, zi 0), (7, zi y7)] i34_169 rfl rfl rfl ?_
                        refine X.iinc 174 [(0, zr g0 19), (1, zi y1), (2, zi 1), (3, zi 0), (4, zi 1), (5, zi 1), (6, zi 0), (7, zi (y7 + 1))] i34_171 rfl rfl rfl (by omega) rfl ?_
                        refine X.goto 16 i34_174 rfl rfl ?_
                        exact ih 1 0 1 1 0 (y7 + 1) (by omega) (by omega) (by omega) (by omega) (by omega) (by omega) (by omega)
                      · have h1317c : (m g0 22 (12 + y7)) > 0 := by omega
                        clear h1317 hz1316
                        refine X.cut [(0, zr g0 19), (1, zi y1), (2, zi 1), (3, zi 0), (4, zi 1), (5, zi 1), (7, zi y7)] i34_164 rfl ?_
                        refine X.iconst 165 i34_164 rfl rfl (by decide) ?_
                        refine X.goto 169 i34_165 rfl rfl ?_
                        refine X.istore 171 [(0, zr g0 19), (1, zi y1), (2, zi 1), (3, zi 0), (4, zi 1), (5, zi 1), (6, zi 1), (7, zi y7)] i34_169 rfl rfl rfl ?_
                        refine X.iinc 174 [(0, zr g0 19), (1, zi y1), (2, zi 1), (3, zi 0), (4, zi 1), (5, zi 1), (6, zi 1), (7, zi (y7 + 1))] i34_171 rfl rfl rfl (by omega) rfl ?_
                        refine X.goto 16 i34_174 rfl rfl ?_
                        exact ih 1 0 1 1 1 (y7 + 1) (by omega) (by omega) (by omega) (by omega) (by omega) (by omega) (by omega)
                · refine X.lload 125 i34_123 rfl rfl rfl ?_
                  refine X.lconst (y := 0) 126 i34_125 rfl rfl rfl ?_
                  refine X.lcmp 127 i34_126 rfl rfl (fun z1318 hz1318 => ?_)
                  refine X.ifge 134 130 i34_127 rfl rfl rfl (fun h1319 => ?_) (fun h1319 => (by exfalso; omega))
                  have h1319c : (m g0 22 (0 + y7)) ≥ 0 := by omega
                  clear h1319 hz1318
                  refine X.cut [(0, zr g0 19), (1, zi y1), (2, zi 1), (3, zi 0), (4, zi 1), (6, zi y6), (7, zi y7), (8, zl (m g0 22 (8 + y7)))] i34_134 rfl ?_
                  refine X.iconst 135 i34_134 rfl rfl (by decide) ?_
                  refine X.istore 137 [(0, zr g0 19), (1, zi y1), (2, zi 1), (3, zi 0), (4, zi 1), (5, zi 0), (6, zi y6), (7, zi y7), (8, zl (m g0 22 (8 + y7)))] i34_135 rfl rfl rfl ?_
                  refine X.iload 139 i34_137 rfl rfl rfl ?_
                  refine X.ifne 164 142 i34_139 rfl rfl rfl (fun h1320 => ?_) (fun h1320 => ?_)
                  · refine X.cut [(0, zr g0 19), (1, zi y1), (2, zi 1), (3, zi 0), (4, zi 1), (5, zi 0), (7, zi y7)] i34_164 rfl ?_
                    refine X.iconst 165 i34_164 rfl rfl (by decide) ?_
                    refine X.goto 169 i34_165 rfl rfl ?_
                    refine X.istore 171 [(0, zr g0 19), (1, zi y1), (2, zi 1), (3, zi 0), (4, zi 1), (5, zi 0), (6, zi 1), (7, zi y7)] i34_169 rfl rfl rfl ?_
                    refine X.iinc 174 [(0, zr g0 19), (1, zi y1), (2, zi 1), (3, zi 0), (4, zi 1), (5, zi 0), (6, zi 1), (7, zi (y7 + 1))] i34_171 rfl rfl rfl (by omega) rfl ?_
                    refine X.goto 16 i34_174 rfl rfl ?_
                    exact ih 1 0 1 0 1 (y7 + 1) (by omega) (by omega) (by omega) (by omega) (by omega) (by omega) (by omega)
                  · refine X.lload 144 i34_142 rfl rfl rfl ?_
                    refine X.lconst (y := 0) 145 i34_144 rfl rfl rfl ?_
                    refine X.lcmp 146 i34_145 rfl rfl (fun z1321 hz1321 => ?_)
                    refine X.ifne 168 149 i34_146 rfl rfl rfl (fun h1322 => ?_) (fun h1322 => ?_)
                    · have h1322c : (m g0 22 (8 + y7)) ≠ 0 := by omega
                      clear h1322 hz1321
                      refine X.cut [(0, zr g0 19), (1, zi y1), (2, zi 1), (3, zi 0), (4, zi 1), (5, zi 0), (7, zi y7)] i34_168 rfl ?_
                      refine X.iconst 169 i34_168 rfl rfl (by decide) ?_
                      refine X.istore 171 [(0, zr g0 19), (1, zi y1), (2, zi 1), (3, zi 0), (4, zi 1), (5, zi 0), (6, zi 0), (7, zi y7)] i34_169 rfl rfl rfl ?_
                      refine X.iinc 174 [(0, zr g0 19), (1, zi y1), (2, zi 1), (3, zi 0), (4, zi 1), (5, zi 0), (6, zi 0), (7, zi (y7 + 1))] i34_171 rfl rfl rfl (by omega) rfl ?_
                      refine X.goto 16 i34_174 rfl rfl ?_
                      exact ih 1 0 1 0 0 (y7 + 1) (by omega) (by omega) (by omega) (by omega) (by omega) (by omega) (by omega)
                    · have h1322c : (m g0 22 (8 + y7)) = 0 := by omega
                      clear h1322 hz1321
                      refine X.aload_n 150 i34_149 rfl rfl rfl ?_
                      refine X.getR 153 i34_150 rfl rfl (by decide) rfl rfl ?_
                      refine X.bipush 155 i34_153 rfl rfl (by decide) ?_
                      refine X.iload 157 i34_155 rfl rfl rfl ?_
                      refine X.iadd 158 i34_157 rfl rfl (by omega) ?_
                      refine X.lald 159 i34_158 rfl rfl (by decide) rfl (by omega) ?_
                      refine X.lconst (y := 0) 160 i34_159 rfl rfl rfl ?_
                      refine X.lcmp 161 i34_160 rfl rfl (fun z1323 hz1323 => ?_)
                      refine X.ifle 168 164 i34_161 rfl rfl rfl (fun h1324 => ?_) (fun h1324 => ?_)
                      · have h1324c : (m g0 22 (12 + y7)) ≤ 0 := by omega
                        clear h1324 hz1323
                        refine X.cut [(0, zr g0 19), (1, zi y1), (2, zi 1), (3, zi 0), (4, zi 1), (5, zi 0), (7, zi y7)] i34_168 rfl ?_
                        refine X.iconst 169 i34_168 rfl rfl (by decide) ?_
                        refine X.istore 171 [(0, zr g0 19), (1, zi y1), (2, zi 1), (3, zi 0), (4, zi 1), (5, zi 0), (6, zi 0), (7, zi y7)] i34_169 rfl rfl rfl ?_
                        refine X.iinc 174 [(0, zr g0 19), (1, zi y1), (2, zi 1), (3, zi 0), (4, zi 1), (5, zi 0), (6, zi 0), (7, zi (y7 + 1))] i34_171 rfl rfl rfl (by omega) rfl ?_
                        refine X.goto 16 i34_174 rfl rfl ?_
                        exact ih 1 0 1 0 0 (y7 + 1) (by omega) (by omega) (by omega) (by omega) (by omega) (by omega) (by omega)
                      · have h1324c : (m g0 22 (12 + y7)) > 0 := by omega
                        clear h1324 hz1323
                        refine X.cut [(0, zr g0 19), (1, zi y1), (2, zi 1), (3, zi 0), (4, zi 1), (5, zi 0), (7, zi y7)] i34_164 rfl ?_
                        refine X.iconst 165 i34_164 rfl rfl (by decide) ?_
                        refine X.goto 169 i34_165 rfl rfl ?_
                        refine X.istore 171 [(0, zr g0 19), (1, zi y1), (2, zi 1), (3, zi 0), (4, zi 1), (5, zi 0), (6, zi 1), (7, zi y7)] i34_169 rfl rfl rfl ?_
                        refine X.iinc 174 [(0, zr g0 19), (1, zi y1), (2, zi 1), (3, zi 0), (4, zi 1), (5, zi 0), (6, zi 1), (7, zi (y7 + 1))] i34_171 rfl rfl rfl (by omega) rfl ?_
                        refine X.goto 16 i34_174 rfl rfl ?_
                        exact ih 1 0 1 0 1 (y7 + 1) (by omega) (by omega) (by omega) (by omega) (by omega) (by omega) (by omega)
        · refine X.iload 75 i34_73 rfl rfl rfl ?_
          refine X.ifeq 82 78 i34_75 rfl rfl rfl (fun h1325 => (by exfalso; omega)) (fun h1325 => ?_)
          refine X.cut [(0, zr g0 19), (1, zi y1), (3, zi y3), (4, zi y4), (5, zi y5), (6, zi y6), (7, zi y7), (8, zl (m g0 22 (8 + y7))), (10, zl (m g0 22 (0 + y7))), (12, zi 1)] i34_78 rfl ?_
          refine X.iconst 79 i34_78 rfl rfl (by decide) ?_
          refine X.goto 83 i34_79 rfl rfl ?_
          refine X.istore_n 84 [(0, zr g0 19), (1, zi y1), (2, zi 1), (3, zi y3), (4, zi y4), (5, zi y5), (6, zi y6), (7, zi y7), (8, zl (m g0 22 (8 + y7))), (10, zl (m g0 22 (0 + y7))), (12, zi 1)] i34_83 rfl rfl rfl ?_
          refine X.iload_n 85 i34_84 rfl rfl rfl ?_
          refine X.ifne 93 88 i34_85 rfl rfl rfl (fun h1326 => ?_) (fun h1326 => ?_)
          · refine X.cut [(0, zr g0 19), (1, zi y1), (2, zi 1), (4, zi y4), (5, zi y5), (6, zi y6), (7, zi y7), (8, zl (m g0 22 (8 + y7))), (10, zl (m g0 22 (0 + y7)))] i34_93 rfl ?_
            refine X.iconst 94 i34_93 rfl rfl (by decide) ?_
            refine X.goto 98 i34_94 rfl rfl ?_
            refine X.istore_n 99 [(0, zr g0 19), (1, zi y1), (2, zi 1), (3, zi 1), (4, zi y4), (5, zi y5), (6, zi y6), (7, zi y7), (8, zl (m g0 22 (8 + y7))), (10, zl (m g0 22 (0 + y7)))] i34_98 rfl rfl rfl ?_
            refine X.iload 101 i34_99 rfl rfl rfl ?_
            refine X.ifne 111 104 i34_101 rfl rfl rfl (fun h1327 => ?_) (fun h1327 => ?_)
            · refine X.cut [(0, zr g0 19), (1, zi y1), (2, zi 1), (3, zi 1), (5, zi y5), (6, zi y6), (7, zi y7), (8, zl (m g0 22 (8 + y7))), (10, zl (m g0 22 (0 + y7)))] i34_111 rfl ?_
              refine X.iconst 112 i34_111 rfl rfl (by decide) ?_
              refine X.goto 116 i34_112 rfl rfl ?_
              refine X.istore 118 [(0, zr g0 19), (1, zi y1), (2, zi 1), (3, zi 1), (4, zi 1), (5, zi y5), (6, zi y6), (7, zi y7), (8, zl (m g0 22 (8 + y7))), (10, zl (m g0 22 (0 + y7)))] i34_116 rfl rfl rfl ?_
              refine X.iload 120 i34_118 rfl rfl rfl ?_
              refine X.ifne 130 123 i34_120 rfl rfl rfl (fun h1328 => ?_) (fun h1328 => ?_)
              · refine X.cut [(0, zr g0 19), (1, zi y1), (2, zi 1), (3, zi 1), (4, zi 1), (6, zi y6), (7, zi y7), (8, zl (m g0 22 (8 + y7)))] i34_130 rfl ?_
                refine X.iconst 131 i34_130 rfl rfl (by decide) ?_
                refine X.goto 135 i34_131 rfl rfl ?_
                refine X.istore 137 [(0, zr g0 19), (1, zi y1), (2, zi 1), (3, zi 1), (4, zi 1), (5, zi 1), (6, zi y6), (7, zi y7), (8, zl (m g0 22 (8 + y7)))] i34_135 rfl rfl rfl ?_
                refine X.iload 139 i34_137 rfl rfl rfl ?_
                refine X.ifne 164 142 i34_139 rfl rfl rfl (fun h1329 => ?_) (fun h1329 => ?_)
                · refine X.cut [(0, zr g0 19), (1, zi y1), (2, zi 1), (3, zi 1), (4, zi 1), (5, zi 1), (7, zi y7)] i34_164 rfl ?_
                  refine X.iconst 165 i34_164 rfl rfl (by decide) ?_
                  refine X.goto 169 i34_165 rfl rfl ?_
                  refine X.istore 171 [(0, zr g0 19), (1, zi y1), (2, zi 1), (3, zi 1), (4, zi 1), (5, zi 1), (6, zi 1), (7, zi y7)] i34_169 rfl rfl rfl ?_
                  refine X.iinc 174 [(0, zr g0 19), (1, zi y1), (2, zi 1), (3, zi 1), (4, zi 1), (5, zi 1), (6, zi 1), (7, zi (y7 + 1))] i34_171 rfl rfl rfl (by omega) rfl ?_
                  refine X.goto 16 i34_174 rfl rfl ?_
                  exact ih 1 1 1 1 1 (y7 + 1) (by omega) (by omega) (by omega) (by omega) (by omega) (by omega) (by omega)
                · refine X.lload 144 i34_142 rfl rfl rfl ?_
                  refine X.lconst (y := 0) 145 i34_144 rfl rfl rfl ?_
                  refine X.lcmp 146 i34_145 rfl rfl (fun z1330 hz1330 => ?_)
                  refine X.ifne 168 149 i34_146 rfl rfl rfl (fun h1331 => ?_) (fun h1331 => ?_)
                  · have h1331c : (m g0 22 (8 + y7)) ≠ 0 := by omega
                    clear h1331 hz1330
                    refine X.cut [(0, zr g0 19), (1, zi y1), (2, zi 1), (3, zi 1), (4, zi 1), (5, zi 1), (7, zi y7)] i34_168 rfl ?_
                    refine X.iconst 169 i34_168 rfl rfl (by decide) ?_
                    refine X.istore 171 [(0, zr g0 19), (1, zi y1), (2, zi 1), (3, zi 1), (4, zi 1), (5, zi 1), (6, zi 0), (7, zi y7)] i34_169 rfl rfl rfl ?_
                    refine X.iinc 174 [(0, zr g0 19), (1, zi y1), (2, zi 1), (3, zi 1), (4, zi 1), (5, zi 1), (6, zi 0), (7, zi (y7 + 1))] i34_171 rfl rfl rfl (by omega) rfl ?_
                    refine X.goto 16 i34_174 rfl rfl ?_
                    exact ih 1 1 1 1 0 (y7 + 1) (by omega) (by omega) (by omega) (by omega) (by omega) (by omega) (by omega)
                  · have h1331c : (m g0 22 (8 + y7)) = 0 := by omega
                    clear h1331 hz1330
                    refine X.aload_n 150 i34_149 rfl rfl rfl ?_
                    refine X.getR 153 i34_150 rfl rfl (by decide) rfl rfl ?_
                    refine X.bipush 155 i34_153 rfl rfl (by decide) ?_
                    refine X.iload 157 i34_155 rfl rfl rfl ?_
                    refine X.iadd 158 i34_157 rfl rfl (by omega) ?_
                    refine X.lald 159 i34_158 rfl rfl (by decide) rfl (by omega) ?_
                    refine X.lconst (y := 0) 160 i34_159 rfl rfl rfl ?_
                    refine X.lcmp 161 i34_160 rfl rfl (fun z1332 hz1332 => ?_)
                    refine X.ifle 168 164 i34_161 rfl rfl rfl (fun h1333 => ?_) (fun h1333 => ?_)
                    · have h1333c : (m g0 22 (12 + y7)) ≤ 0 := by omega
                      clear h1333 hz1332
                      refine X.cut [(0, zr g0 19), (1, zi y1), (2, zi 1), (3, zi 1), (4, zi 1), (5, zi 1), (7, zi y7)] i34_168 rfl ?_
                      refine X.iconst 169 i34_168 rfl rfl (by decide) ?_
                      refine X.istore 171 [(0, zr g0 19), (1, zi y1), (2, zi 1), (3, zi 1), (4, zi 1), (5, zi 1), (6, zi 0), (7, zi y7)] i34_169 rfl rfl rfl ?_
                      refine X.iinc 174 [(0, zr g0 19), (1, zi y1), (2, zi 1), (3, zi 1), (4, zi 1), (5, zi 1), (6, zi 0), (7, zi (y7 + 1))] i34_171 rfl rfl rfl (by omega) rfl ?_
                      refine X.goto 16 i34_174 rfl rfl ?_
                      exact ih 1 1 1 1 0 (y7 + 1) (by omega) (by omega) (by omega) (by omega) (by omega) (by omega) (by omega)
                    · have h1333c : (m g0 22 (12 + y7)) > 0 := by omega
                      clear h1333 hz1332
                      refine X.cut [(0, zr g0 19), (1, zi y1), (2, zi 1), (3, zi 1), (4, zi 1), (5, zi 1), (7, zi y7)] i34_164 rfl ?_
                      refine X.iconst 165 i34_164 rfl rfl (by decide) ?_
                      refine X.goto 169 i34_165 rfl rfl ?_
                      refine X.istore 171 [(0, zr g0 19), (1, zi y1), (2, zi 1), (3, zi 1), (4, zi 1), (5, zi 1), (6, zi 1), (7, zi y7)] i34_169 rfl rfl rfl ?_
                      refine X.iinc 174 [(0, zr g0 19), (1, zi y1), (2, zi 1), (3, zi 1), (4, zi 1), (5, zi 1), (6, zi 1), (7, zi (y7 + 1))] i34_171 rfl rfl rfl (by omega) rfl ?_
                      refine X.goto 16 i34_174 rfl rfl ?_
                      exact ih 1 1 1 1 1 (y7 + 1) (by omega) (by omega) (by omega) (by omega) (by omega) (by omega) (by omega)
              · refine X.lload 125 i34_123 rfl rfl rfl ?_
                refine X.lconst (y := 0) 126 i34_125 rfl rfl rfl ?_
                refine X.lcmp 127 i34_126 rfl rfl (fun z1334 hz1334 => ?_)
                refine X.ifge 134 130 i34_127 rfl rfl rfl (fun h1335 => ?_) (fun h1335 => ?_)
                · have h1335c : (m g0 22 (0 + y7)) ≥ 0 := by omega
                  clear h1335 hz1334
                  refine X.cut [(0, zr g0 19), (1, zi y1), (2, zi 1), (3, zi 1), (4, zi 1), (6, zi y6), (7, zi y7), (8, zl (m g0 22 (8 + y7)))] i34_134 rfl ?_
                  refine X.iconst 135 i34_134 rfl rfl (by decide) ?_
                  refine X.istore 137 [(0, zr g0 19), (1, zi y1), (2, zi 1), (3, zi 1), (4, zi 1), (5, zi 0), (6, zi y6), (7, zi y7), (8, zl (m g0 22 (8 + y7)))] i34_135 rfl rfl rfl ?_
                  refine X.iload 139 i34_137 rfl rfl rfl ?_
                  refine X.ifne 164 142 i34_139 rfl rfl rfl (fun h1336 => ?_) (fun h1336 => ?_)
                  · refine X.cut [(0, zr g0 19), (1, zi y1), (2, zi 1), (3, zi 1), (4, zi 1), (5, zi 0), (7, zi y7)] i34_164 rfl ?_
                    refine X.iconst 165 i34_164 rfl rfl (by decide) ?_
                    refine X.goto 169 i34_165 rfl rfl ?_
                    refine X.istore 171 [(0, zr g0 19), (1, zi y1), (2, zi 1), (3, zi 1), (4, zi 1), (5, zi 0), (6, zi 1), (7, zi y7)] i34_169 rfl rfl rfl ?_
                    refine X.iinc 174 [(0, zr g0 19), (1, zi y1), (2, zi 1), (3, zi 1), (4, zi 1), (5, zi 0), (6, zi 1), (7, zi (y7 + 1))] i34_171 rfl rfl rfl (by omega) rfl ?_
                    refine X.goto 16 i34_174 rfl rfl ?_
                    exact ih 1 1 1 0 1 (y7 + 1) (by omega) (by omega) (by omega) (by omega) (by omega) (by omega) (by omega)
                  · refine X.lload 144 i34_142 rfl rfl rfl ?_
                    refine X.lconst (y := 0) 145 i34_144 rfl rfl rfl ?_
                    refine X.lcmp 146 i34_145 rfl rfl (fun z1337 hz1337 => ?_)
                    refine X.ifne 168 149 i34_146 rfl rfl rfl (fun h1338 => ?_) (fun h1338 => ?_)
                    · have h1338c : (m g0 22 (8 + y7)) ≠ 0 := by omega
                      clear h1338 hz1337
                      refine X.cut [(0, zr g0 19), (1, zi y1), (2, zi 1), (3, zi 1), (4, zi 1), (5, zi 0), (7, zi y7)] i34_168 rfl ?_
                      refine X.iconst 169 i34_168 rfl rfl (by decide) ?_
                      refine X.istore 171 [(0, zr g0 19), (1, zi y1), (2, zi 1), (3, zi 1), (4, zi 1), (5, zi 0), (6, zi 0), (7, zi y7)] i34_169 rfl rfl rfl ?_
                      refine X.iinc 174 [(0, zr g0 19), (1, zi y1), (2, zi 1), (3, zi 1), (4, zi 1), (5, zi 0), (6, zi 0), (7, zi (y7 + 1))] i34_171 rfl rfl rfl (by omega) rfl ?_
                      refine X.goto 16 i34_174 rfl rfl ?_
                      exact ih 1 1 1 0 0 (y7 + 1) (by omega) (by omega) (by omega) (by omega) (by omega) (by omega) (by omega)
                    · have h1338c : (m g0 22 (8 + y7)) = 0 := by omega
                      clear h1338 hz1337
                      refine X.aload_n 150 i34_149 rfl rfl rfl ?_
                      refine X.getR 153 i34_150 rfl rfl (by decide) rfl rfl ?_
                      refine X.bipush 155 i34_153 rfl rfl (by decide) ?_
                      refine X.iload 157 i34_155 rfl rfl rfl ?_
                      refine X.iadd 158 i34_157 rfl rfl (by omega) ?_
                      refine X.lald 159 i34_158 rfl rfl (by decide) rfl (by omega) ?_
                      refine X.lconst (y := 0) 160 i34_159 rfl rfl rfl ?_
                      refine X.lcmp 161 i34_160 rfl rfl (fun z1339 hz1339 => ?_)
                      refine X.ifle 168 164 i34_161 rfl rfl rfl (fun h1340 => ?_) (fun h1340 => ?_)
                      · have h1340c : (m g0 22 (12 + y7)) ≤ 0 := by omega
                        clear h1340 hz1339
                        refine X.cut [(0, zr g0 19), (1, zi y1), (2, zi 1), (3, zi 1), (4, zi 1), (5, zi 0), (7, zi y7)] i34_168 rfl ?_
                        refine X.iconst 169 i34_168 rfl rfl (by decide) ?_
                        refine X.istore 171 [(0, zr g0 19), (1, zi y1), (2, zi 1), (3, zi 1), (4, zi 1), (5, zi 0), (6, zi 0), (7, zi y7)] i34_169 rfl rfl rfl ?_
                        refine X.iinc 174 [(0, zr g0 19), (1, zi y1), (2, zi 1), (3, zi 1), (4, zi 1), (5, zi 0), (6, zi 0), (7, zi (y7 + 1))] i34_171 rfl rfl rfl (by omega) rfl ?_
                        refine X.goto 16 i34_174 rfl rfl ?_
                        exact ih 1 1 1 0 0 (y7 + 1) (by omega) (by omega) (by omega) (by omega) (by omega) (by omega) (by omega)
                      · have h1340c : (m g0 22 (12 + y7)) > 0 := by omega
                        clear h1340 hz1339
                        refine X.cut [(0, zr g0 19), (1, zi y1), (2, zi 1), (3, zi 1), (4, zi 1), (5, zi 0), (7, zi y7)] i34_164 rfl ?_
                        refine X.iconst 165 i34_164 rfl rfl (by decide) ?_
                        refine X.goto 169 i34_165 rfl rfl ?_
                        refine X.istore 171 [(0, zr g0 19), (1, zi y1), (2, zi 1), (3, zi 1), (4, zi 1), (5, zi 0), (6, zi 1), (7, zi y7)] i34_169 rfl rfl rfl ?_
                        refine X.iinc 174 [(0, zr g0 19), (1, zi y1), (2, zi 1), (3, zi 1), (4, zi 1), (5, zi 0), (6, zi 1), (7, zi (y7 + 1))] i34_171 rfl rfl rfl (by omega) rfl ?_
                        refine X.goto 16 i34_174 rfl rfl ?_
                        exact ih 1 1 1 0 1 (y7 + 1) (by omega) (by omega) (by omega) (by omega) (by omega) (by omega) (by omega)
                · have h1335c : (m g0 22 (0 + y7)) < 0 := by omega
                  clear h1335 hz1334
                  refine X.cut [(0, zr g0 19), (1, zi y1), (2, zi 1), (3, zi 1), (4, zi 1), (6, zi y6), (7, zi y7), (8, zl (m g0 22 (8 + y7)))] i34_130 rfl ?_
                  refine X.iconst 131 i34_130 rfl rfl (by decide) ?_
                  refine X.goto 135 i34_131 rfl rfl ?_
                  refine X.istore 137 [(0, zr g0 19), (1, zi y1), (2, zi 1), (3, zi 1), (4, zi 1), (5, zi 1), (6, zi y6), (7, zi y7), (8, zl (m g0 22 (8 + y7)))] i34_135 rfl rfl rfl ?_
                  refine X.iload 139 i34_137 rfl rfl rfl ?_
                  refine X.ifne 164 142 i34_139 rfl rfl rfl (fun h1341 => ?_) (fun h1341 => ?_)
                  · refine X.cut [(0, zr g0 19), (1, zi y1), (2, zi 1), (3, zi 1), (4, zi 1), (5, zi 1), (7, zi y7)] i34_164 rfl ?_
                    refine X.iconst 165 i34_164 rfl rfl (by decide) ?_
                    refine X.goto 169 i34_165 rfl rfl ?_
                    refine X.istore 171 [(0, zr g0 19), (1, zi y1), (2, zi 1), (3, zi 1), (4, zi 1), (5, zi 1), (6, zi 1), (7, zi y7)] i34_169 rfl rfl rfl ?_
                    refine X.iinc 174 [(0, zr g0 19), (1, zi y1), (2, zi 1), (3, zi 1), (4, zi 1), (5, zi 1), (6, zi 1), (7, zi (y7 + 1))] i34_171 rfl rfl rfl (by omega) rfl ?_
                    refine X.goto 16 i34_174 rfl rfl ?_
                    exact ih 1 1 1 1 1 (y7 + 1) (by omega) (by omega) (by omega) (by omega) (by omega) (by omega) (by omega)
                  · refine X.lload 144 i34_142 rfl rfl rfl ?_
                    refine X.lconst (y := 0) 145 i34_144 rfl rfl rfl ?_
                    refine X.lcmp 146 i34_145 rfl rfl (fun z1342 hz1342 => ?_)
                    refine X.ifne 168 149 i34_146 rfl rfl rfl (fun h1343 => ?_) (fun h1343 => ?_)
                    · have h1343c : (m g0 22 (8 + y7)) ≠ 0 := by omega
                      clear h1343 hz1342
                      refine X.cut [(0, zr g0 19), (1, zi y1), (2, zi 1), (3, zi 1), (4, zi 1), (5, zi 1), (7, zi y7)] i34_168 rfl ?_
                      refine X.iconst 169 i34_168 rfl rfl (by decide) ?_
                      refine X.istore 171 [(0, zr g0 19), (1, zi y1), (2, zi 1), (3, zi 1), (4, zi 1), (5, zi 1), (6, zi 0), (7, zi y7)] i34_169 rfl rfl rfl ?_
                      refine X.iinc 174 [(0, zr g0 19), (1, zi y1), (2, zi 1), (3, zi 1), (4, zi 1), (5, zi 1), (6, zi 0), (7, zi (y7 + 1))] i34_171 rfl rfl rfl (by omega) rfl ?_
                      refine X.goto 16 i34_174 rfl rfl ?_
                      exact ih 1 1 1 1 0 (y7 + 1) (by omega) (by omega) (by omega) (by omega) (by omega) (by omega) (by omega)
                    · have h1343c : (m g0 22 (8 + y7)) = 0 := by omega
                      clear h1343 hz1342
                      refine X.aload_n 150 i34_149 rfl rfl rfl ?_
                      refine X.getR 153 i34_150 rfl rfl (by decide) rfl rfl ?_
                      refine X.bipush 155 i34_153 rfl rfl (by decide) ?_
                      refine X.iload 157 i34_155 rfl rfl rfl ?_
                      refine X.iadd 158 i34_157 rfl rfl (by omega) ?_
                      refine X.lald 159 i34_158 rfl rfl (by decide) rfl (by omega) ?_
                      refine X.lconst (y := 0) 160 i34_159 rfl rfl rfl ?_
                      refine X.lcmp 161 i34_160 rfl rfl (fun z1344 hz1344 => ?_)
                      refine X.ifle 168 164 i34_161 rfl rfl rfl (fun h1345 => ?_) (fun h1345 => ?_)
                      · have h1345c : (m g0 22 (12 + y7)) ≤ 0 := by omega
                        clear h1345 hz1344
                        refine X.cut [(0, zr g0 19), (1, zi y1), (2, zi 1), (3, zi 1), (4, zi 1), (5, zi 1), (7, zi y7)] i34_168 rfl ?_
                        refine X.iconst 169 i34_168 rfl rfl (by decide) ?_
                        refine X.istore 171 [(0, zr g0 19), (1, zi y1), (2, zi 1), (3, zi 1), (4, zi 1), (5, zi 1), (6, zi 0), (7, zi y7)] i34_169 rfl rfl rfl ?_
                        refine X.iinc 174 [(0, zr g0 19), (1, zi y1), (2, zi 1), (3, zi 1), (4, zi 1), (5, zi 1), (6, zi 0), (7, zi (y7 + 1))] i34_171 rfl rfl rfl (by omega) rfl ?_
                        refine X.goto 16 i34_174 rfl rfl ?_
                        exact ih 1 1 1 1 0 (y7 + 1) (by omega) (by omega) (by omega) (by omega) (by omega) (by omega) (by omega)
                      · have h1345c : (m g0 22 (12 + y7)) > 0 := by omega
                        clear h1345 hz1344
                        refine X.cut [(0, zr g0 19), (1, zi y1), (2, zi 1), (3, zi 1), (4, zi 1), (5, zi 1), (7, zi y7)] i34_164 rfl ?_
                        refine X.iconst 165 i34_164 rfl rfl (by decide) ?_
                        refine X.goto 169 i34_165 rfl rfl ?_
                        refine X.istore 171 [(0, zr g0 19), (1, zi y1), (2, zi 1), (3, zi 1), (4, zi 1), (5, zi 1), (6, zi 1), (7, zi y7)] i34_169 rfl rfl rfl ?_
                        refine X.iinc 174 [(0, zr g0 19), (1, zi y1), (2, zi 1), (3, zi 1), (4, zi 1), (5, zi 1), (6, zi 1), (7, zi (y7 + 1))] i34_171 rfl rfl rfl (by omega) rfl ?_
                        refine X.goto 16 i34_174 rfl rfl ?_
                        exact ih 1 1 1 1 1 (y7 + 1) (by omega) (by omega) (by omega) (by omega) (by omega) (by omega) (by omega)
            · refine X.lload 106 i34_104 rfl rfl rfl ?_
              refine X.lconst (y := 0) 107 i34_106 rfl rfl rfl ?_
              refine X.lcmp 108 i34_107 rfl rfl (fun z1346 hz1346 => ?_)
              refine X.ifle 115 111 i34_108 rfl rfl rfl (fun h1347 => ?_) (fun h1347 => ?_)
              · have h1347c : (m g0 22 (0 + y7)) ≤ 0 := by omega
                clear h1347 hz1346
                refine X.cut [(0, zr g0 19), (1, zi y1), (2, zi 1), (3, zi 1), (5, zi y5), (6, zi y6), (7, zi y7), (8, zl (m g0 22 (8 + y7))), (10, zl (m g0 22 (0 + y7)))] i34_115 rfl ?_
                refine X.iconst 116 i34_115 rfl rfl (by decide) ?_
                refine X.istore 118 [(0, zr g0 19), (1, zi y1), (2, zi 1), (3, zi 1), (4, zi 0), (5, zi y5), (6, zi y6), (7, zi y7), (8, zl (m g0 22 (8 + y7))), (10, zl (m g0 22 (0 + y7)))] i34_116 rfl rfl rfl ?_
                refine X.iload 120 i34_118 rfl rfl rfl ?_
                refine X.ifne 130 123 i34_120 rfl rfl rfl (fun h1348 => ?_) (fun h1348 => ?_)
                · refine X.cut [(0, zr g0 19), (1, zi y1), (2, zi 1), (3, zi 1), (4, zi 0), (6, zi y6), (7, zi y7), (8, zl (m g0 22 (8 + y7)))] i34_130 rfl ?_
                  refine X.iconst 131 i34_130 rfl rfl (by decide) ?_
                  refine X.goto 135 i34_131 rfl rfl ?_
                  refine X.istore 137 [(0, zr g0 19), (1, zi y1), (2, zi 1), (3, zi 1), (4, zi 0), (5, zi 1), (6, zi y6), (7, zi y7), (8, zl (m g0 22 (8 + y7)))] i34_135 rfl rfl rfl ?_
                  refine X.iload 139 i34_137 rfl rfl rfl ?_
                  refine X.ifne 164 142 i34_139 rfl rfl rfl (fun h1349 => ?_) (fun h1349 => ?_)
                  · refine X.cut [(0, zr g0 19), (1, zi y1), (2, zi 1), (3, zi 1), (4, zi 0), (5, zi 1), (7, zi y7)] i34_164 rfl ?_
                    refine X.iconst 165 i34_164 rfl rfl (by decide) ?_
                    refine X.goto 169 i34_165 rfl rfl ?_
                    refine X.istore 171 [(0, zr g0 19), (1, zi y1), (2, zi 1), (3, zi 1), (4, zi 0), (5, zi 1), (6, zi 1), (7, zi y7)] i34_169 rfl rfl rfl ?_
                    refine X.iinc 174 [(0, zr g0 19), (1, zi y1), (2, zi 1), (3, zi 1), (4, zi 0), (5, zi 1), (6, zi 1), (7, zi (y7 + 1))] i34_171 rfl rfl rfl (by omega) rfl ?_
                    refine X.goto 16 i34_174 rfl rfl ?_
                    exact ih 1 1 0 1 1 (y7 + 1) (by omega) (by omega) (by omega) (by omega) (by omega) (by omega) (by omega)
                  · refine X.lload 144 i34_142 rfl rfl rfl ?_
                    refine X.lconst (y := 0) 145 i34_144 rfl rfl rfl ?_
                    refine X.lcmp 146 i34_145 rfl rfl (fun z1350 hz1350 => ?_)
                    refine X.ifne 168 149 i34_146 rfl rfl rfl (fun h1351 => ?_) (fun h1351 => ?_)
                    · have h1351c : (m g0 22 (8 + y7)) ≠ 0 := by omega
                      clear h1351 hz1350
                      refine X.cut [(0, zr g0 19), (1, zi y1), (2, zi 1), (3, zi 1), (4, zi 0), (5, zi 1), (7, zi y7)] i34_168 rfl ?_
                      refine X.iconst 169 i34_168 rfl rfl (by decide) ?_
                      refine X.istore 171 [(0, zr g0 19), (1, zi y1), (2, zi 1), (3, zi 1), (4, zi 0), (5, zi 1), (6, zi 0), (7, zi y7)] i34_169 rfl rfl rfl ?_
                      refine X.iinc 174 [(0, zr g0 19), (1, zi y1), (2, zi 1), (3, zi 1), (4, zi 0), (5, zi 1), (6, zi 0), (7, zi (y7 + 1))] i34_171 rfl rfl rfl (by omega) rfl ?_
                      refine X.goto 16 i34_174 rfl rfl ?_
                      exact ih 1 1 0 1 0 (y7 + 1) (by omega) (by omega) (by omega) (by omega) (by omega) (by omega) (by omega)
                    · have h1351c : (m g0 22 (8 + y7)) = 0 := by omega
                      clear h1351 hz1350
                      refine X.aload_n 150 i34_149 rfl rfl rfl ?_
                      refine X.getR 153 i34_150 rfl rfl (by decide) rfl rfl ?_
                      refine X.bipush 155 i34_153 rfl rfl (by decide) ?_
                      refine X.iload 157 i34_155 rfl rfl rfl ?_
                      refine X.iadd 158 i34_157 rfl rfl (by omega) ?_
                      refine X.lald 159 i34_158 rfl rfl (by decide) rfl (by omega) ?_
                      refine X.lconst (y := 0) 160 i34_159 rfl rfl rfl ?_
                      refine X.lcmp 161 i34_160 rfl rfl (fun z1352 hz1352 => ?_)
                      refine X.ifle 168 164 i34_161 rfl rfl rfl (fun h1353 => ?_) (fun h1353 => ?_)
                      · have h1353c : (m g0 22 (12 + y7)) ≤ 0 := by omega
                        clear h1353 hz1352
                        refine X.cut [(0, zr g0 19), (1, zi y1), (2, zi 1), (3, zi 1), (4, zi 0), (5, zi 1), (7, zi y7)] i34_168 rfl ?_
                        refine X.iconst 169 i34_168 rfl rfl (by decide) ?_
                        refine X.istore 171 [(0, zr g0 19), (1, zi y1), (2, zi 1), (3, zi 1), (4, zi 0), (5, zi 1), (6, zi 0), (7, zi y7)] i34_169 rfl rfl rfl ?_
                        refine X.iinc 174 [(0, zr g0 19), (1, zi y1), (2, zi 1), (3, zi 1), (4, zi 0), (5, zi 1), (6, zi 0), (7, zi (y7 + 1))] i34_171 rfl rfl rfl (by omega) rfl ?_
                        refine X.goto 16 i34_174 rfl rfl ?_
                        exact ih 1 1 0 1 0 (y7 + 1) (by omega) (by omega) (by omega) (by omega) (by omega) (by omega) (by omega)
                      · have h1353c : (m g0 22 (12 + y7)) > 0 := by omega
                        clear h1353 hz1352
                        refine X.cut [(0, zr g0 19), (1, zi y1), (2, zi 1), (3, zi 1), (4, zi 0), (5, zi 1), (7, zi y7)] i34_164 rfl ?_
                        refine X.iconst 165 i34_164 rfl rfl (by decide) ?_
                        refine X.goto 169 i34_165 rfl rfl ?_
                        refine X.istore 171 [(0, zr g0 19), (1, zi y1), (2, zi 1), (3, zi 1), (4, zi 0), (5, zi 1), (6, zi 1), (7, zi y7)] i34_169 rfl rfl rfl ?_
                        refine X.iinc 174 [(0, zr g0 19), (1, zi y1), (2, zi 1), (3, zi 1), (4, zi 0), (5, zi 1), (6, zi 1), (7, zi (y7 + 1))] i34_171 rfl rfl rfl (by omega) rfl ?_
                        refine X.goto 16 i34_174 rfl rfl ?_
                        exact ih 1 1 0 1 1 (y7 + 1) (by omega) (by omega) (by omega) (by omega) (by omega) (by omega) (by omega)
                · refine X.lload 125 i34_123 rfl rfl rfl ?_
                  refine X.lconst (y := 0) 126 i34_125 rfl rfl rfl ?_
                  refine X.lcmp 127 i34_126 rfl rfl (fun z1354 hz1354 => ?_)
                  refine X.ifge 134 130 i34_127 rfl rfl rfl (fun h1355 => ?_) (fun h1355 => ?_)
                  · have h1355c : (m g0 22 (0 + y7)) ≥ 0 := by omega
                    clear h1355 hz1354
                    refine X.cut [(0, zr g0 19), (1, zi y1), (2, zi 1), (3, zi 1), (4, zi 0), (6, zi y6), (7, zi y7), (8, zl (m g0 22 (8 + y7)))] i34_134 rfl ?_
                    refine X.iconst 135 i34_134 rfl rfl (by decide) ?_
                    refine X.istore 137 [(0, zr g0 19), (1, zi y1), (2, zi 1), (3, zi 1), (4, zi 0), (5, zi 0), (6, zi y6), (7, zi y7), (8, zl (m g0 22 (8 + y7)))] i34_135 rfl rfl rfl ?_
                    refine X.iload 139 i34_137 rfl rfl rfl ?_
                    refine X.ifne 164 142 i34_139 rfl rfl rfl (fun h1356 => ?_) (fun h1356 => ?_)
                    · refine X.cut [(0, zr g0 19), (1, zi y1), (2, zi 1), (3, zi 1), (4, zi 0), (5, zi 0), (7, zi y7)] i34_164 rfl ?_
                      refine X.iconst 165 i34_164 rfl rfl (by decide) ?_
                      refine X.goto 169 i34_165 rfl rfl ?_
                      refine X.istore 171 [(0, zr g0 19), (1, zi y1), (2, zi 1), (3, zi 1), (4, zi 0), (5, zi 0), (6, zi 1), (7, zi y7)] i34_169 rfl rfl rfl ?_
                      refine X.iinc 174 [(0, zr g0 19), (1, zi y1), (2, zi 1), (3, zi 1), (4, zi 0), (5, zi 0), (6, zi 1), (7, zi (y7 + 1))] i34_171 rfl rfl rfl (by omega) rfl ?_
                      refine X.goto 16 i34_174 rfl rfl ?_
                      exact ih 1 1 0 0 1 (y7 + 1) (by omega) (by omega) (by omega) (by omega) (by omega) (by omega) (by omega)
                    · refine X.lload 144 i34_142 rfl rfl rfl ?_
                      refine X.lconst (y := 0) 145 i34_144 rfl rfl rfl ?_
                      refine X.lcmp 146 i34_145 rfl rfl (fun z1357 hz1357 => ?_)
                      refine X.ifne 168 149 i34_146 rfl rfl rfl (fun h1358 => ?_) (fun h1358 => ?_)
                      · have h1358c : (m g0 22 (8 + y7)) ≠ 0 := by omega
                        clear h1358 hz1357
                        refine X.cut [(0, zr g0 19), (1, zi y1), (2, zi 1), (3, zi 1), (4, zi 0), (5, zi 0), (7, zi y7)] i34_168 rfl ?_
                        refine X.iconst 169 i34_168 rfl rfl (by decide) ?_
                        refine X.istore 171 [(0, zr g0 19), (1, zi y1), (2, zi 1), (3, zi 1), (4, zi 0), (5, zi 0), (6, zi 0), (7, zi y7)] i34_169 rfl rfl rfl ?_
                        refine X.iinc 174 [(0, zr g0 19), (1, zi y1), (2, zi 1), (3, zi 1), (4, zi 0), (5, zi 0), (6, zi 0), (7, zi (y7 + 1))] i34_171 rfl rfl rfl (by omega) rfl ?_
                        refine X.goto 16 i34_174 rfl rfl ?_
                        exact ih 1 1 0 0 0 (y7 + 1) (by omega) (by omega) (by omega) (by omega) (by omega) (by omega) (by omega)
                      · have h1358c : (m g0 22 (8 + y7)) = 0 := by omega
                        clear h1358 hz1357
                        refine X.aload_n 150 i34_149 rfl rfl rfl ?_
                        refine X.getR 153 i34_150 rfl rfl (by decide) rfl rfl ?_
                        refine X.bipush 155 i34_153 rfl rfl (by decide) ?_
                        refine X.iload 157 i34_155 rfl rfl rfl ?_
                        refine X.iadd 158 i34_157 rfl rfl (by omega) ?_
                        refine X.lald 159 i34_158 rfl rfl (by decide) rfl (by omega) ?_
                        refine X.lconst (y := 0) 160 i34_159 rfl rfl rfl ?_
                        refine X.lcmp 161 i34_160 rfl rfl (fun z1359 hz1359 => ?_)
                        refine X.ifle 168 164 i34_161 rfl rfl rfl (fun h1360 => ?_) (fun h1360 => ?_)
                        · have h1360c : (m g0 22 (12 + y7)) ≤ 0 := by omega
                          clear h1360 hz1359
                          refine X.cut [(0, zr g0 19), (1, zi y1), (2, zi 1), (3, zi 1), (4, zi 0), (5, zi 0), (7, zi y7)] i34_168 rfl ?_
                          refine X.iconst 169 i34_168 rfl rfl (by decide) ?_
                          refine X.istore 171 [(0, zr g0 19), (1, zi y1), (2, zi 1), (3, zi 1), (4, zi 0), (5, zi 0), (6, zi 0), (7, zi y7)] i34_169 rfl rfl rfl ?_
                          refine X.iinc 174 [(0, zr g0 19), (1, zi y1), (2, zi 1), (3, zi 1), (4, zi 0), (5, zi 0), (6, zi 0), (7, zi (y7 + 1))] i34_171 rfl rfl rfl (by omega) rfl ?_
                          refine X.goto 16 i34_174 rfl rfl ?_
                          exact ih 1 1 0 0 0 (y7 + 1) (by omega) (by omega) (by omega) (by omega) (by omega) (by omega) (by omega)
                        · have h1360c : (m g0 22 (12 + y7)) > 0 := by omega
                          clear h1360 hz1359
                          refine X.cut [(0, zr g0 19), (1, zi y1), (2, zi 1), (3, zi 1), (4, zi 0), (5, zi 0), (7, zi y7)] i34_164 rfl ?_
                          refine X.iconst 165 i34_164 rfl rfl (by decide) ?_
                          refine X.goto 169 i34_165 rfl rfl ?_
                          refine X.istore 171 [(0, zr g0 19), (1, zi y1), (2, zi 1), (3, zi 1), (4, zi 0), (5, zi 0), (6, zi 1), (7, zi y7)] i34_169 rfl rfl rfl ?_
                          refine X.iinc 174 [(0, zr g0 19), (1, zi y1), (2, zi 1), (3, zi 1), (4, zi 0), (5, zi 0), (6, zi 1), (7, zi (y7 + 1))] i34_171 rfl rfl rfl (by omega) rfl ?_
                          refine X.goto 16 i34_174 rfl rfl ?_
                          exact ih 1 1 0 0 1 (y7 + 1) (by omega) (by omega) (by omega) (by omega) (by omega) (by omega) (by omega)
                  · have h1355c : (m g0 22 (0 + y7)) < 0 := by omega
                    clear h1355 hz1354
                    refine X.cut [(0, zr g0 19), (1, zi y1), (2, zi 1), (3, zi 1), (4, zi 0), (6, zi y6), (7, zi y7), (8, zl (m g0 22 (8 + y7)))] i34_130 rfl ?_
                    refine X.iconst 131 i34_130 rfl rfl (by decide) ?_
                    refine X.goto 135 i34_131 rfl rfl ?_
                    refine X.istore 137 [(0, zr g0 19), (1, zi y1), (2, zi 1), (3, zi 1), (4, zi 0), (5, zi 1), (6, zi y6), (7, zi y7), (8, zl (m g0 22 (8 + y7)))] i34_135 rfl rfl rfl ?_
                    refine X.iload 139 i34_137 rfl rfl rfl ?_
                    refine X.ifne 164 142 i34_139 rfl rfl rfl (fun h1361 => ?_) (fun h1361 => ?_)
                    · refine X.cut [(0, zr g0 19), (1, zi y1), (2, zi 1), (3, zi 1), (4, zi 0), (5, zi 1), (7, zi y7)] i34_164 rfl ?_
                      refine X.iconst 165 i34_164 rfl rfl (by decide) ?_
                      refine X.goto 169 i34_165 rfl rfl ?_
                      refine X.istore 171 [(0, zr g0 19), (1, zi y1), (2, zi 1), (3, zi 1), (4, zi 0), (5, zi 1), (6, zi 1), (7, zi y7)] i34_169 rfl rfl rfl ?_
                      refine X.iinc 174 [(0, zr g0 19), (1, zi y1), (2, zi 1), (3, zi 1), (4, zi 0), (5, zi 1), (6, zi 1), (7, zi (y7 + 1))] i34_171 rfl rfl rfl (by omega) rfl ?_
                      refine X.goto 16 i34_174 rfl rfl ?_
                      exact ih 1 1 0 1 1 (y7 + 1) (by omega) (by omega) (by omega) (by omega) (by omega) (by omega) (by omega)
                    · refine X.lload 144 i34_142 rfl rfl rfl ?_
                      refine X.lconst (y := 0) 145 i34_144 rfl rfl rfl ?_
                      refine X.lcmp 146 i34_145 rfl rfl (fun z1362 hz1362 => ?_)
                      refine X.ifne 168 149 i34_146 rfl rfl rfl (fun h1363 => ?_) (fun h1363 => ?_)
                      · have h1363c : (m g0 22 (8 + y7)) ≠ 0 := by omega
                        clear h1363 hz1362
                        refine X.cut [(0, zr g0 19), (1, zi y1), (2, zi 1), (3, zi 1), (4, zi 0), (5, zi 1), (7, zi y7)] i34_168 rfl ?_
                        refine X.iconst 169 i34_168 rfl rfl (by decide) ?_
                        refine X.istore 171 [(0, zr g0 19), (1, zi y1), (2, zi 1), (3, zi 1), (4, zi 0), (5, zi 1), (6, zi 0), (7, zi y7)] i34_169 rfl rfl rfl ?_
                        refine X.iinc 174 [(0, zr g0 19), (1, zi y1), (2, zi 1), (3, zi 1), (4, zi 0), (5, zi 1), (6, zi 0), (7, zi (y7 + 1))] i34_171 rfl rfl rfl (by omega) rfl ?_
                        refine X.goto 16 i34_174 rfl rfl ?_
                        exact ih 1 1 0 1 0 (y7 + 1) (by omega) (by omega) (by omega) (by omega) (by omega) (by omega) (by omega)
                      · have h1363c : (m g0 22 (8 + y7)) = 0 := by omega
                        clear h1363 hz1362
                        refine X.aload_n 150 i34_149 rfl rfl rfl ?_
                        refine X.getR 153 i34_150 rfl rfl (by decide) rfl rfl ?_
                        refine X.bipush 155 i34_153 rfl rfl (by decide) ?_
                        refine X.iload 157 i34_155 rfl rfl rfl ?_
                        refine X.iadd 158 i34_157 rfl rfl (by omega) ?_
                        refine X.lald 159 i34_158 rfl rfl (by decide) rfl (by omega) ?_
                        refine X.lconst (y := 0) 160 i34_159 rfl rfl rfl ?_
                        refine X.lcmp 161 i34_160 rfl rfl (fun z1364 hz1364 => ?_)
                        refine X.ifle 168 164 i34_161 rfl rfl rfl (fun h1365 => ?_) (fun h1365 => ?_)
                        · have h1365c : (m g0 22 (12 + y7)) ≤ 0 := by omega
                          clear h1365 hz1364
                          refine X.cut [(0, zr g0 19), (1, zi y1), (2, zi 1), (3, zi 1), (4, zi 0), (5, zi 1), (7, zi y7)] i34_168 rfl ?_
                          refine X.iconst 169 i34_168 rfl rfl (by decide) ?_
                          refine X.istore 171 [(0, zr g0 19), (1, zi y1), (2, zi 1), (3, zi 1), (4, zi 0), (5, zi 1), (6, zi 0), (7, zi y7)] i34_169 rfl rfl rfl ?_
                          refine X.iinc 174 [(0, zr g0 19), (1, zi y1), (2, zi 1), (3, zi 1), (4, zi 0), (5, zi 1), (6, zi 0), (7, zi (y7 + 1))] i34_171 rfl rfl rfl (by omega) rfl ?_
                          refine X.goto 16 i34_174 rfl rfl ?_
                          exact ih 1 1 0 1 0 (y7 + 1) (by omega) (by omega) (by omega) (by omega) (by omega) (by omega) (by omega)
                        · have h1365c : (m g0 22 (12 + y7)) > 0 := by omega
                          clear h1365 hz1364
                          refine X.cut [(0, zr g0 19), (1, zi y1), (2, zi 1), (3, zi 1), (4, zi 0), (5, zi 1), (7, zi y7)] i34_164 rfl ?_
                          refine X.iconst 165 i34_164 rfl rfl (by decide) ?_
                          refine X.goto 169 i34_165 rfl rfl ?_
                          refine X.istore 171 [(0, zr g0 19), (1, zi y1), (2, zi 1), (3, zi 1), (4, zi 0), (5, zi 1), (6, zi 1), (7, zi y7)] i34_169 rfl rfl rfl ?_
                          refine X.iinc 174 [(0, zr g0 19), (1, zi y1), (2, zi 1), (3, zi 1), (4, zi 0), (5, zi 1), (6, zi 1), (7, zi (y7 + 1))] i34_171 rfl rfl rfl (by omega) rfl ?_
                          refine X.goto 16 i34_174 rfl rfl ?_
                          exact ih 1 1 0 1 1 (y7 + 1) (by omega) (by omega) (by omega) (by omega) (by omega) (by omega) (by omega)
              · have h1347c : (m g0 22 (0 + y7)) > 0 := by omega
                clear h1347 hz1346
                refine X.cut [(0, zr g0 19), (1, zi y1), (2, zi 1), (3, zi 1), (5, zi y5), (6, zi y6), (7, zi y7), (8, zl (m g0 22 (8 + y7))), (10, zl (m g0 22 (0 + y7)))] i34_111 rfl ?_
                refine X.iconst 112 i34_111 rfl rfl (by decide) ?_
                refine X.goto 116 i34_112 rfl rfl ?_
                refine X.istore 118 [(0, zr g0 19), (1, zi y1), (2, zi 1), (3, zi 1), (4, zi 1), (5, zi y5), (6, zi y6), (7, zi y7), (8, zl (m g0 22 (8 + y7))), (10, zl (m g0 22 (0 + y7)))] i34_116 rfl rfl rfl ?_
                refine X.iload 120 i34_118 rfl rfl rfl ?_
                refine X.ifne 130 123 i34_120 rfl rfl rfl (fun h1366 => ?_) (fun h1366 => ?_)
                · refine X.cut [(0, zr g0 19), (1, zi y1), (2, zi 1), (3, zi 1), (4, zi 1), (6, zi y6), (7, zi y7), (8, zl (m g0 22 (8 + y7)))] i34_130 rfl ?_
                  refine X.iconst 131 i34_130 rfl rfl (by decide) ?_
                  refine X.goto 135 i34_131 rfl rfl ?_
                  refine X.istore 137 [(0, zr g0 19), (1, zi y1), (2, zi 1), (3, zi 1), (4, zi 1), (5, zi 1), (6, zi y6), (7, zi y7), (8, zl (m g0 22 (8 + y7)))] i34_135 rfl rfl rfl ?_
                  refine X.iload 139 i34_137 rfl rfl rfl ?_
                  refine X.ifne 164 142 i34_139 rfl rfl rfl (fun h1367 => ?_) (fun h1367 => ?_)
                  · refine X.cut [(0, zr g0 19), (1, zi y1), (2, zi 1), (3, zi 1), (4, zi 1), (5, zi 1), (7, zi y7)] i34_164 rfl ?_
                    refine X.iconst 165 i34_164 rfl rfl (by decide) ?_
                    refine X.goto 169 i34_165 rfl rfl ?_
                    refine X.istore 171 [(0, zr g0 19), (1, zi y1), (2, zi 1), (3, zi 1), (4, zi 1), (5, zi 1), (6, zi 1), (7, zi y7)] i34_169 rfl rfl rfl ?_
                    refine X.iinc 174 [(0, zr g0 19), (1, zi y1), (2, zi 1), (3, zi 1), (4, zi 1), (5, zi 1), (6, zi 1), (7, zi (y7 + 1))] i34_171 rfl rfl rfl (by omega) rfl ?_
                    refine X.goto 16 i34_174 rfl rfl ?_
                    exact ih 1 1 1 1 1 (y7 + 1) (by omega) (by omega) (by omega) (by omega) (by omega) (by omega) (by omega)
                  · refine X.lload 144 i34_142 rfl rfl rfl ?_
                    refine X.lconst (y := 0) 145 i34_144 rfl rfl rfl ?_
                    refine X.lcmp 146 i34_145 rfl rfl (fun z1368 hz1368 => ?_)
                    refine X.ifne 168 149 i34_146 rfl rfl rfl (fun h1369 => ?_) (fun h1369 => ?_)
                    · have h1369c : (m g0 22 (8 + y7)) ≠ 0 := by omega
                      clear h1369 hz1368
                      refine X.cut [(0, zr g0 19), (1, zi y1), (2, zi 1), (3, zi 1), (4, zi 1), (5, zi 1), (7, zi y7)] i34_168 rfl ?_
                      refine X.iconst 169 i34_168 rfl rfl (by decide) ?_
                      refine X.istore 171 [(0, zr g0 19), (1, zi y1), (2, zi 1), (3, zi 1), (4, zi 1), (5, zi 1), (6, zi 0), (7, zi y7)] i34_169 rfl rfl rfl ?_
                      refine X.iinc 174 [(0, zr g0 19), (1, zi y1), (2, zi 1), (3, zi 1), (4, zi 1), (5, zi 1), (6, zi 0), (7, zi (y7 + 1))] i34_171 rfl rfl rfl (by omega) rfl ?_
                      refine X.goto 16 i34_174 rfl rfl ?_
                      exact ih 1 1 1 1 0 (y7 + 1) (by omega) (by omega) (by omega) (by omega) (by omega) (by omega) (by omega)
                    · have h1369c : (m g0 22 (8 + y7)) = 0 := by omega
                      clear h1369 hz1368
                      refine X.aload_n 150 i34_149 rfl rfl rfl ?_
                      refine X.getR 153 i34_150 rfl rfl (by decide) rfl rfl ?_
                      refine X.bipush 155 i34_153 rfl rfl (by decide) ?_
                      refine X.iload 157 i34_155 rfl rfl rfl ?_
                      refine X.iadd 158 i34_157 rfl rfl (by omega) ?_
                      refine X.lald 159 i34_158 rfl rfl (by decide) rfl (by omega) ?_
                      refine X.lconst (y := 0) 160 i34_159 rfl rfl rfl ?_
                      refine X.lcmp 161 i34_160 rfl rfl (fun z1370 hz1370 => ?_)
                      refine X.ifle 168 164 i34_161 rfl rfl rfl (fun h1371 => ?_) (fun h1371 => ?_)
                      · have h1371c : (m g0 22 (12 + y7)) ≤ 0 := by omega
                        clear h1371 hz1370
                        refine X.cut [(0, zr g0 19), (1, zi y1), (2, zi 1), (3, zi 1), (4, zi 1), (5, zi 1), (7, zi y7)] i34_168 rfl ?_
                        refine X.iconst 169 i34_168 rfl rfl (by decide) ?_
                        refine X.istore 171 [(0, zr g0 19), (1, zi y1), (2, zi 1), (3, zi 1), (4, zi 1), (5, zi 1), (6, zi 0), (7, zi y7)] i34_169 rfl rfl rfl ?_
                        refine X.iinc 174 [(0, zr g0 19), (1, zi y1), (2, zi 1), (3, zi 1), (4, zi 1), (5, zi 1), (6, zi 0), (7, zi (y7 + 1))] i34_171 rfl rfl rfl (by omega) rfl ?_
                        refine X.goto 16 i34_174 rfl rfl ?_
                        exact ih 1 1 1 1 0 (y7 + 1) (by omega) (by omega) (by omega) (by omega) (by omega) (by omega) (by omega)
                      · have h1371c : (m g0 22 (12 + y7)) > 0 := by omega
                        clear h1371 hz1370
                        refine X.cut [(0, zr g0 19), (1, zi y1), (2, zi 1), (3, zi 1), (4, zi 1), (5, zi 1), (7, zi y7)] i34_164 rfl ?_
                        refine X.iconst 165 i34_164 rfl rfl (by decide) ?_
                        refine X.goto 169 i34_165 rfl rfl ?_
                        refine X.istore 171 [(0, zr g0 19), (1, zi y1), (2, zi 1), (3, zi 1), (4, zi 1), (5, zi 1), (6, zi 1), (7, zi y7)] i34_169 rfl rfl rfl ?_
                        refine X.iinc 174 [(0, zr g0 19), (1, zi y1), (2, zi 1), (3, zi 1), (4, zi 1), (5, zi 1), (6, zi 1), (7, zi (y7 + 1))] i34_171 rfl rfl rfl (by omega) rfl ?_
                        refine X.goto 16 i34_174 rfl rfl ?_
                        exact ih 1 1 1 1 1 (y7 + 1) (by omega) (by omega) (by omega) (by omega) (by omega) (by omega) (by omega)
                · refine X.lload 125 i34_123 rfl rfl rfl ?_
                  refine X.lconst (y := 0) 126 i34_125 rfl rfl rfl ?_
                  refine X.lcmp 127 i34_126 rfl rfl (fun z1372 hz1372 => ?_)
                  refine X.ifge 134 130 i34_127 rfl rfl rfl (fun h1373 => ?_) (fun h1373 => (by exfalso; omega))
                  have h1373c : (m g0 22 (0 + y7)) ≥ 0 := by omega
                  clear h1373 hz1372
                  refine X.cut [(0, zr g0 19), (1, zi y1), (2, zi 1), (3, zi 1), (4, zi 1), (6, zi y6), (7, zi y7), (8, zl (m g0 22 (8 + y7)))] i34_134 rfl ?_
                  refine X.iconst 135 i34_134 rfl rfl (by decide) ?_
                  refine X.istore 137 [(0, zr g0 19), (1, zi y1), (2, zi 1), (3, zi 1), (4, zi 1), (5, zi 0), (6, zi y6), (7, zi y7), (8, zl (m g0 22 (8 + y7)))] i34_135 rfl rfl rfl ?_
                  refine X.iload 139 i34_137 rfl rfl rfl ?_
                  refine X.ifne 164 142 i34_139 rfl rfl rfl (fun h1374 => ?_) (fun h1374 => ?_)
                  · refine X.cut [(0, zr g0 19), (1, zi y1), (2, zi 1), (3, zi 1), (4, zi 1), (5, zi 0), (7, zi y7)] i34_164 rfl ?_
                    refine X.iconst 165 i34_164 rfl rfl (by decide) ?_
                    refine X.goto 169 i34_165 rfl rfl ?_
                    refine X.istore 171 [(0, zr g0 19), (1, zi y1), (2, zi 1), (3, zi 1), (4, zi 1), (5, zi 0), (6, zi 1), (7, zi y7)] i34_169 rfl rfl rfl ?_
                    refine X.iinc 174 [(0, zr g0 19), (1, zi y1), (2, zi 1), (3, zi 1), (4, zi 1), (5, zi 0), (6, zi 1), (7, zi (y7 + 1))] i34_171 rfl rfl rfl (by omega) rfl ?_
                    refine X.goto 16 i34_174 rfl rfl ?_
                    exact ih 1 1 1 0 1 (y7 + 1) (by omega) (by omega) (by omega) (by omega) (by omega) (by omega) (by omega)
                  · refine X.lload 144 i34_142 rfl rfl rfl ?_
                    refine X.lconst (y := 0) 145 i34_144 rfl rfl rfl ?_
                    refine X.lcmp 146 i34_145 rfl rfl (fun z1375 hz1375 => ?_)
                    refine X.ifne 168 149 i34_146 rfl rfl rfl (fun h1376 => ?_) (fun h1376 => ?_)
                    · have h1376c : (m g0 22 (8 + y7)) ≠ 0 := by omega
                      clear h1376 hz1375
                      refine X.cut [(0, zr g0 19), (1, zi y1), (2, zi 1), (3, zi 1), (4, zi 1), (5, zi 0), (7, zi y7)] i34_168 rfl ?_
                      refine X.iconst 169 i34_168 rfl rfl (by decide) ?_
                      refine X.istore 171 [(0, zr g0 19), (1, zi y1), (2, zi 1), (3, zi 1), (4, zi 1), (5, zi 0), (6, zi 0), (7, zi y7)] i34_169 rfl rfl rfl ?_
                      refine X.iinc 174 [(0, zr g0 19), (1, zi y1), (2, zi 1), (3, zi 1), (4, zi 1), (5, zi 0), (6, zi 0), (7, zi (y7 + 1))] i34_171 rfl rfl rfl (by omega) rfl ?_
                      refine X.goto 16 i34_174 rfl rfl ?_
                      exact ih 1 1 1 0 0 (y7 + 1) (by omega) (by omega) (by omega) (by omega) (by omega) (by omega) (by omega)
                    · have h1376c : (m g0 22 (8 + y7)) = 0 := by omega
                      clear h1376 hz1375
                      refine X.aload_n 150 i34_149 rfl rfl rfl ?_
                      refine X.getR 153 i34_150 rfl rfl (by decide) rfl rfl ?_
                      refine X.bipush 155 i34_153 rfl rfl (by decide) ?_
                      refine X.iload 157 i34_155 rfl rfl rfl ?_
                      refine X.iadd 158 i34_157 rfl rfl (by omega) ?_
                      refine X.lald 159 i34_158 rfl rfl (by decide) rfl (by omega) ?_
                      refine X.lconst (y := 0) 160 i34_159 rfl rfl rfl ?_
                      refine X.lcmp 161 i34_160 rfl rfl (fun z1377 hz1377 => ?_)
                      refine X.ifle 168 164 i34_161 rfl rfl rfl (fun h1378 => ?_) (fun h1378 => ?_)
                      · have h1378c : (m g0 22 (12 + y7)) ≤ 0 := by omega
                        clear h1378 hz1377
                        refine X.cut [(0, zr g0 19), (1, zi y1), (2, zi 1), (3, zi 1), (4, zi 1), (5, zi 0), (7, zi y7)] i34_168 rfl ?_
                        refine X.iconst 169 i34_168 rfl rfl (by decide) ?_
                        refine X.istore 171 [(0, zr g0 19), (1, zi y1), (2, zi 1), (3, zi 1), (4, zi 1), (5, zi 0), (6, zi 0), (7, zi y7)] i34_169 rfl rfl rfl ?_
                        refine X.iinc 174 [(0, zr g0 19), (1, zi y1), (2, zi 1), (3, zi 1), (4, zi 1), (5, zi 0), (6, zi 0), (7, zi (y7 + 1))] i34_171 rfl rfl rfl (by omega) rfl ?_
                        refine X.goto 16 i34_174 rfl rfl ?_
                        exact ih 1 1 1 0 0 (y7 + 1) (by omega) (by omega) (by omega) (by omega) (by omega) (by omega) (by omega)
                      · have h1378c : (m g0 22 (12 + y7)) > 0 := by omega
                        clear h1378 hz1377
                        refine X.cut [(0, zr g0 19), (1, zi y1), (2, zi 1), (3, zi 1), (4, zi 1), (5, zi 0), (7, zi y7)] i34_164 rfl ?_
                        refine X.iconst 165 i34_164 rfl rfl (by decide) ?_
                        refine X.goto 169 i34_165 rfl rfl ?_
                        refine X.istore 171 [(0, zr g0 19), (1, zi y1), (2, zi 1), (3, zi 1), (4, zi 1), (5, zi 0), (6, zi 1), (7, zi y7)] i34_169 rfl rfl rfl ?_
                        refine X.iinc 174 [(0, zr g0 19), (1, zi y1), (2, zi 1), (3, zi 1), (4, zi 1), (5, zi 0), (6, zi 1), (7, zi (y7 + 1))] i34_171 rfl rfl rfl (by omega) rfl ?_
                        refine X.goto 16 i34_174 rfl rfl ?_
                        exact ih 1 1 1 0 1 (y7 + 1) (by omega) (by omega) (by omega) (by omega) (by omega) (by omega) (by omega)
          · refine X.iload 90 i34_88 rfl rfl rfl ?_
            refine X.ifne 97 93 i34_90 rfl rfl rfl (fun h1379 => ?_) (fun h1379 => (by exfalso; omega))
            refine X.cut [(0, zr g0 19), (1, zi y1), (2, zi 1), (4, zi y4), (5, zi y5), (6, zi y6), (7, zi y7), (8, zl (m g0 22 (8 + y7))), (10, zl (m g0 22 (0 + y7)))] i34_97 rfl ?_
            refine X.iconst 98 i34_97 rfl rfl (by decide) ?_
            refine X.istore_n 99 [(0, zr g0 19), (1, zi y1), (2, zi 1), (3, zi 0), (4, zi y4), (5, zi y5), (6, zi y6), (7, zi y7), (8, zl (m g0 22 (8 + y7))), (10, zl (m g0 22 (0 + y7)))] i34_98 rfl rfl rfl ?_
            refine X.iload 101 i34_99 rfl rfl rfl ?_
            refine X.ifne 111 104 i34_101 rfl rfl rfl (fun h1380 => ?_) (fun h1380 => ?_)
            · refine X.cut [(0, zr g0 19), (1, zi y1), (2, zi 1), (3, zi 0), (5, zi y5), (6, zi y6), (7, zi y7), (8, zl (m g0 22 (8 + y7))), (10, zl (m g0 22 (0 + y7)))] i34_111 rfl ?_
              refine X.iconst 112 i34_111 rfl rfl (by decide) ?_
              refine X.goto 116 i34_112 rfl rfl ?_
              refine X.istore 118 [(0, zr g0 19), (1, zi y1), (2, zi 1), (3, zi 0), (4, zi 1), (5, zi y5), (6, zi y6), (7, zi y7), (8, zl (m g0 22 (8 + y7))), (10, zl (m g0 22 (0 + y7)))] i34_116 rfl rfl rfl ?_
              refine X.iload 120 i34_118 rfl rfl rfl ?_
              refine X.ifne 130 123 i34_120 rfl rfl rfl (fun h1381 => ?_) (fun h1381 => ?_)
              · refine X.cut [(0, zr g0 19), (1, zi y1), (2, zi 1), (3, zi 0), (4, zi 1), (6, zi y6), (7, zi y7), (8, zl (m g0 22 (8 + y7)))] i34_130 rfl ?_
                refine X.iconst 131 i34_130 rfl rfl (by decide) ?_
                refine X.goto 135 i34_131 rfl rfl ?_
                refine X.istore 137 [(0, zr g0 19), (1, zi y1), (2, zi 1), (3, zi 0), (4, zi 1), (5, zi 1), (6, zi y6), (7, zi y7), (8, zl (m g0 22 (8 + y7)))] i34_135 rfl rfl rfl ?_
                refine X.iload 139 i34_137 rfl rfl rfl ?_
                refine X.ifne 164 142 i34_139 rfl rfl rfl (fun h1382 => ?_) (fun h1382 => ?_)
                · refine X.cut [(0, zr g0 19), (1, zi y1), (2, zi 1), (3, zi 0), (4, zi 1), (5, zi 1), (7, zi y7)] i34_164 rfl ?_
                  refine X.iconst 165 i34_164 rfl rfl (by decide) ?_
                  refine X.goto 169 i34_165 rfl rfl ?_
                  refine X.istore 171 [(0, zr g0 19), (1, zi y1), (2, zi 1), (3, zi 0), (4, zi 1), (5, zi 1), (6, zi 1), (7, zi y7)] i34_169 rfl rfl rfl ?_
                  refine X.iinc 174 [(0, zr g0 19), (1, zi y1), (2, zi 1), (3, zi 0), (4, zi 1), (5, zi 1), (6, zi 1), (7, zi (y7 + 1))] i34_171 rfl rfl rfl (by omega) rfl ?_
                  refine X.goto 16 i34_174 rfl rfl ?_
                  exact ih 1 0 1 1 1 (y7 + 1) (by omega) (by omega) (by omega) (by omega) (by omega) (by omega) (by omega)
                · refine X.lload 144 i34_142 rfl rfl rfl ?_
                  refine X.lconst (y := 0) 145 i34_144 rfl rfl rfl ?_
                  refine X.lcmp 146 i34_145 rfl rfl (fun z1383 hz1383 => ?_)
                  refine X.ifne 168 149 i34_146 rfl rfl rfl (fun h1384 => ?_) (fun h1384 => ?_)
                  · have h1384c : (m g0 22 (8 + y7)) ≠ 0 := by omega
                    clear h1384 hz1383
                    refine X.cut [(0, zr g0 19), (1, zi y1), (2, zi 1), (3, zi 0), (4, zi 1), (5, zi 1), (7, zi y7)] i34_168 rfl ?_
                    refine X.iconst 169 i34_168 rfl rfl (by decide) ?_
                    refine X.istore 171 [(0, zr g0 19), (1, zi y1), (2, zi 1), (3, zi 0), (4, zi 1), (5, zi 1), (6, zi 0), (7, zi y7)] i34_169 rfl rfl rfl ?_
                    refine X.iinc 174 [(0, zr g0 19), (1, zi y1), (2, zi 1), (3, zi 0), (4, zi 1), (5, zi 1), (6, zi 0), (7, zi (y7 + 1))] i34_171 rfl rfl rfl (by omega) rfl ?_
                    refine X.goto 16 i34_174 rfl rfl ?_
                    exact ih 1 0 1 1 0 (y7 + 1) (by omega) (by omega) (by omega) (by omega) (by omega) (by omega) (by omega)
                  · have h1384c : (m g0 22 (8 + y7)) = 0 := by omega
                    clear h1384 hz1383
                    refine X.aload_n 150 i34_149 rfl rfl rfl ?_
                    refine X.getR 153 i34_150 rfl rfl (by decide) rfl rfl ?_
                    refine X.bipush 155 i34_153 rfl rfl (by decide) ?_
                    refine X.iload 157 i34_155 rfl rfl rfl ?_
                    refine X.iadd 158 i34_157 rfl rfl (by omega) ?_
                    refine X.lald 159 i34_158 rfl rfl (by decide) rfl (by omega) ?_
                    refine X.lconst (y := 0) 160 i34_159 rfl rfl rfl ?_
                    refine X.lcmp 161 i34_160 rfl rfl (fun z1385 hz1385 => ?_)
                    refine X.ifle 168 164 i34_161 rfl rfl rfl (fun h1386 => ?_) (fun h1386 => ?_)
                    · have h1386c : (m g0 22 (12 + y7)) ≤ 0 := by omega
                      clear h1386 hz1385
                      refine X.cut [(0, zr g0 19), (1, zi y1), (2, zi 1), (3, zi 0), (4, zi 1), (5, zi 1), (7, zi y7)] i34_168 rfl ?_
                      refine X.iconst 169 i34_168 rfl rfl (by decide) ?_
                      refine X.istore 171 [(0, zr g0 19), (1, zi y1), (2, zi 1), (3, zi 0), (4, zi 1), (5, zi 1), (6, zi 0), (7, zi y7)] i34_169 rfl rfl rfl ?_
                      refine X.iinc 174 [(0, zr g0 19), (1, zi y1), (2, zi 1), (3, zi 0), (4, zi 1), (5, zi 1), (6, zi 0), (7, zi (y7 + 1))] i34_171 rfl rfl rfl (by omega) rfl ?_
                      refine X.goto 16 i34_174 rfl rfl ?_
                      exact ih 1 0 1 1 0 (y7 + 1) (by omega) (by omega) (by omega) (by omega) (by omega) (by omega) (by omega)
                    · have h1386c : (m g0 22 (12 + y7)) > 0 := by omega
                      clear h1386 hz1385
                      refine X.cut [(0, zr g0 19), (1, zi y1), (2, zi 1), (3, zi 0), (4, zi 1), (5, zi 1), (7, zi y7)] i34_164 rfl ?_
                      refine X.iconst 165 i34_164 rfl rfl (by decide) ?_
                      refine X.goto 169 i34_165 rfl rfl ?_
                      refine X.istore 171 [(0, zr g0 19), (1, zi y1), (2, zi 1), (3, zi 0), (4, zi 1), (5, zi 1), (6, zi 1), (7, zi y7)] i34_169 rfl rfl rfl ?_
                      refine X.iinc 174 [(0, zr g0 19), (1, zi y1), (2, zi 1), (3, zi 0), (4, zi 1), (5, zi 1), (6, zi 1), (7, zi (y7 + 1))] i34_171 rfl rfl rfl (by omega) rfl ?_
                      refine X.goto 16 i34_174 rfl rfl ?_
                      exact ih 1 0 1 1 1 (y7 + 1) (by omega) (by omega) (by omega) (by omega) (by omega) (by omega) (by omega)
              · refine X.lload 125 i34_123 rfl rfl rfl ?_
                refine X.lconst (y := 0) 126 i34_125 rfl rfl rfl ?_
                refine X.lcmp 127 i34_126 rfl rfl (fun z1387 hz1387 => ?_)
                refine X.ifge 134 130 i34_127 rfl rfl rfl (fun h1388 => ?_) (fun h1388 => ?_)
                · have h1388c : (m g0 22 (0 + y7)) ≥ 0 := by omega
                  clear h1388 hz1387
                  refine X.cut [(0, zr g0 19), (1, zi y1), (2, zi 1), (3, zi 0), (4, zi 1), (6, zi y6), (7, zi y7), (8, zl (m g0 22 (8 + y7)))] i34_134 rfl ?_
                  refine X.iconst 135 i34_134 rfl rfl (by decide) ?_
                  refine X.istore 137 [(0, zr g0 19), (1, zi y1), (2, zi 1), (3, zi 0), (4, zi 1), (5, zi 0), (6, zi y6), (7, zi y7), (8, zl (m g0 22 (8 + y7)))] i34_135 rfl rfl rfl ?_
                  refine X.iload 139 i34_137 rfl rfl rfl ?_
                  refine X.ifne 164 142 i34_139 rfl rfl rfl (fun h1389 => ?_) (fun h1389 => ?_)
                  · refine X.cut [(0, zr g0 19), (1, zi y1), (2, zi 1), (3, zi 0), (4, zi 1), (5, zi 0), (7, zi y7)] i34_164 rfl ?_
                    refine X.iconst 165 i34_164 rfl rfl (by decide) ?_
                    refine X.goto 169 i34_165 rfl rfl ?_
                    refine X.istore 171 [(0, zr g0 19), (1, zi y1), (2, zi 1), (3, zi 0), (4, zi 1), (5, zi 0), (6, zi 1), (7, zi y7)] i34_169 rfl rfl rfl ?_
                    refine X.iinc 174 [(0, zr g0 19), (1, zi y1), (2, zi 1), (3, zi 0), (4, zi 1), (5, zi 0), (6, zi 1), (7, zi (y7 + 1))] i34_171 rfl rfl rfl (by omega) rfl ?_
                    refine X.goto 16 i34_174 rfl rfl ?_
                    exact ih 1 0 1 0 1 (y7 + 1) (by omega) (by omega) (by omega) (by omega) (by omega) (by omega) (by omega)
                  · refine X.lload 144 i34_142 rfl rfl rfl ?_
                    refine X.lconst (y := 0) 145 i34_144 rfl rfl rfl ?_
                    refine X.lcmp 146 i34_145 rfl rfl (fun z1390 hz1390 => ?_)
                    refine X.ifne 168 149 i34_146 rfl rfl rfl (fun h1391 => ?_) (fun h1391 => ?_)
                    · have h1391c : (m g0 22 (8 + y7)) ≠ 0 := by omega
                      clear h1391 hz1390
                      refine X.cut [(0, zr g0 19), (1, zi y1), (2, zi 1), (3, zi 0), (4, zi 1), (5, zi 0), (7, zi y7)] i34_168 rfl ?_
                      refine X.iconst 169 i34_168 rfl rfl (by decide) ?_
                      refine X.istore 171 [(0, zr g0 19), (1, zi y1), (2, zi 1), (3, zi 0), (4, zi 1), (5, zi 0), (6, zi 0), (7, zi y7)] i34_169 rfl rfl rfl ?_
                      refine X.iinc 174 [(0, zr g0 19), (1, zi y1), (2, zi 1), (3, zi 0), (4, zi 1), (5, zi 0), (6, zi 0), (7, zi (y7 + 1))] i34_171 rfl rfl rfl (by omega) rfl ?_
                      refine X.goto 16 i34_174 rfl rfl ?_
                      exact ih 1 0 1 0 0 (y7 + 1) (by omega) (by omega) (by omega) (by omega) (by omega) (by omega) (by omega)
                    · have h1391c : (m g0 22 (8 + y7)) = 0 := by omega
                      clear h1391 hz1390
                      refine X.aload_n 150 i34_149 rfl rfl rfl ?_
                      refine X.getR 153 i34_150 rfl rfl (by decide) rfl rfl ?_
                      refine X.bipush 155 i34_153 rfl rfl (by decide) ?_
                      refine X.iload 157 i34_155 rfl rfl rfl ?_
                      refine X.iadd 158 i34_157 rfl rfl (by omega) ?_
                      refine X.lald 159 i34_158 rfl rfl (by decide) rfl (by omega) ?_
                      refine X.lconst (y := 0) 160 i34_159 rfl rfl rfl ?_
                      refine X.lcmp 161 i34_160 rfl rfl (fun z1392 hz1392 => ?_)
                      refine X.ifle 168 164 i34_161 rfl rfl rfl (fun h1393 => ?_) (fun h1393 => ?_)
                      · have h1393c : (m g0 22 (12 + y7)) ≤ 0 := by omega
                        clear h1393 hz1392
                        refine X.cut [(0, zr g0 19), (1, zi y1), (2, zi 1), (3, zi 0), (4, zi 1), (5, zi 0), (7, zi y7)] i34_168 rfl ?_
                        refine X.iconst 169 i34_168 rfl rfl (by decide) ?_
                        refine X.istore 171 [(0, zr g0 19), (1, zi y1), (2, zi 1), (3, zi 0), (4, zi 1), (5, zi 0), (6, zi 0), (7, zi y7)] i34_169 rfl rfl rfl ?_
                        refine X.iinc 174 [(0, zr g0 19), (1, zi y1), (2, zi 1), (3, zi 0), (4, zi 1), (5, zi 0), (6, zi 0), (7, zi (y7 + 1))] i34_171 rfl rfl rfl (by omega) rfl ?_
                        refine X.goto 16 i34_174 rfl rfl ?_
                        exact ih 1 0 1 0 0 (y7 + 1) (by omega) (by omega) (by omega) (by omega) (by omega) (by omega) (by omega)
                      · have h1393c : (m g0 22 (12 + y7)) > 0 := by omega
                        clear h1393 hz1392
                        refine X.cut [(0, zr g0 19), (1, zi y1), (2, zi 1), (3, zi 0), (4, zi 1), (5, zi 0), (7, zi y7)] i34_164 rfl ?_
                        refine X.iconst 165 i34_164 rfl rfl (by decide) ?_
                        refine X.goto 169 i34_165 rfl rfl ?_
                        refine X.istore 171 [(0, zr g0 19), (1, zi y1), (2, zi 1), (3, zi 0), (4, zi 1), (5, zi 0), (6, zi 1), (7, zi y7)] i34_169 rfl rfl rfl ?_
                        refine X.iinc 174 [(0, zr g0 19), (1, zi y1), (2, zi 1), (3, zi 0), (4, zi 1), (5, zi 0), (6, zi 1), (7, zi (y7 + 1))] i34_171 rfl rfl rfl (by omega) rfl ?_
                        refine X.goto 16 i34_174 rfl rfl ?_
                        exact ih 1 0 1 0 1 (y7 + 1) (by omega) (by omega) (by omega) (by omega) (by omega) (by omega) (by omega)
                · have h1388c : (m g0 22 (0 + y7)) < 0 := by omega
                  clear h1388 hz1387
                  refine X.cut [(0, zr g0 19), (1, zi y1), (2, zi 1), (3, zi 0), (4, zi 1), (6, zi y6), (7, zi y7), (8, zl (m g0 22 (8 + y7)))] i34_130 rfl ?_
                  refine X.iconst 131 i34_130 rfl rfl (by decide) ?_
                  refine X.goto 135 i34_131 rfl rfl ?_
                  refine X.istore 137 [(0, zr g0 19), (1, zi y1), (2, zi 1), (3, zi 0), (4, zi 1), (5, zi 1), (6, zi y6), (7, zi y7), (8, zl (m g0 22 (8 + y7)))] i34_135 rfl rfl rfl ?_
                  refine X.iload 139 i34_137 rfl rfl rfl ?_
                  refine X.ifne 164 142 i34_139 rfl rfl rfl (fun h1394 => ?_) (fun h1394 => ?_)
                  · refine X.cut [(0, zr g0 19), (1, zi y1), (2, zi 1), (3, zi 0), (4, zi 1), (5, zi 1), (7, zi y7)] i34_164 rfl ?_
                    refine X.iconst 165 i34_164 rfl rfl (by decide) ?_
                    refine X.goto 169 i34_165 rfl rfl ?_
                    refine X.istore 171 [(0, zr g0 19), (1, zi y1), (2, zi 1), (3, zi 0), (4, zi 1), (5, zi 1), (6, zi 1), (7, zi y7)] i34_169 rfl rfl rfl ?_
                    refine X.iinc 174 [(0, zr g0 19), (1, zi y1), (2, zi 1), (3, zi 0), (4, zi 1), (5, zi 1), (6, zi 1), (7, zi (y7 + 1))] i34_171 rfl rfl rfl (by omega) rfl ?_
                    refine X.goto 16 i34_174 rfl rfl ?_
                    exact ih 1 0 1 1 1 (y7 + 1) (by omega) (by omega) (by omega) (by omega) (by omega) (by omega) (by omega)
                  · refine X.lload 144 i34_142 rfl rfl rfl ?_
                    refine X.lconst (y := 0) 145 i34_144 rfl rfl rfl ?_
                    refine X.lcmp 146 i34_145 rfl rfl (fun z1395 hz1395 => ?_)
                    refine X.ifne 168 149 i34_146 rfl rfl rfl (fun h1396 => ?_) (fun h1396 => ?_)
                    · have h1396c : (m g0 22 (8 + y7)) ≠ 0 := by omega
                      clear h1396 hz1395
                      refine X.cut [(0, zr g0 19), (1, zi y1), (2, zi 1), (3, zi 0), (4, zi 1), (5, zi 1), (7, zi y7)] i34_168 rfl ?_
                      refine X.iconst 169 i34_168 rfl rfl (by decide) ?_
                      refine X.istore 171 [(0, zr g0 19), (1, zi y1), (2, zi 1), (3, zi 0), (4, zi 1), (5, zi 1), (6, zi 0), (7, zi y7)] i34_169 rfl rfl rfl ?_
                      refine X.iinc 174 [(0, zr g0 19), (1, zi y1), (2, zi 1), (3, zi 0), (4, zi 1), (5, zi 1), (6, zi 0), (7, zi (y7 + 1))] i34_171 rfl rfl rfl (by omega) rfl ?_
                      refine X.goto 16 i34_174 rfl rfl ?_
                      exact ih 1 0 1 1 0 (y7 + 1) (by omega) (by omega) (by omega) (by omega) (by omega) (by omega) (by omega)
                    · have h1396c : (m g0 22 (8 + y7)) = 0 := by omega
                      clear h1396 hz1395
                      refine X.aload_n 150 i34_149 rfl rfl rfl ?_
                      refine X.getR 153 i34_150 rfl rfl (by decide) rfl rfl ?_
                      refine X.bipush 155 i34_153 rfl rfl (by decide) ?_
                      refine X.iload 157 i34_155 rfl rfl rfl ?_
                      refine X.iadd 158 i34_157 rfl rfl (by omega) ?_
                      refine X.lald 159 i34_158 rfl rfl (by decide) rfl (by omega) ?_
                      refine X.lconst (y := 0) 160 i34_159 rfl rfl rfl ?_
                      refine X.lcmp 161 i34_160 rfl rfl (fun z1397 hz1397 => ?_)
                      refine X.ifle 168 164 i34_161 rfl rfl rfl (fun h1398 => ?_) (fun h1398 => ?_)
                      · have h1398c : (m g0 22 (12 + y7)) ≤ 0 := by omega
                        clear h1398 hz1397
                        refine X.cut [(0, zr g0 19), (1, zi y1), (2, zi 1), (3, zi 0), (4, zi 1), (5, zi 1), (7, zi y7)] i34_168 rfl ?_
                        refine X.iconst 169 i34_168 rfl rfl (by decide) ?_
                        refine X.istore 171 [(0, zr g0 19), (1, zi y1), (2, zi 1), (3, zi 0), (4, zi 1), (5, zi 1), (6, zi 0), (7, zi y7)] i34_169 rfl rfl rfl ?_
                        refine X.iinc 174 [(0, zr g0 19), (1, zi y1), (2, zi 1), (3, zi 0), (4, zi 1), (5, zi 1), (6, zi 0), (7, zi (y7 + 1))] i34_171 rfl rfl rfl (by omega) rfl ?_
                        refine X.goto 16 i34_174 rfl rfl ?_
                        exact ih 1 0 1 1 0 (y7 + 1) (by omega) (by omega) (by omega) (by omega) (by omega) (by omega) (by omega)
                      · have h1398c : (m g0 22 (12 + y7)) > 0 := by omega
                        clear h1398 hz1397
                        refine X.cut [(0, zr g0 19), (1, zi y1), (2, zi 1), (3, zi 0), (4, zi 1), (5, zi 1), (7, zi y7)] i34_164 rfl ?_
                        refine X.iconst 165 i34_164 rfl rfl (by decide) ?_
                        refine X.goto 169 i34_165 rfl rfl ?_
                        refine X.istore 171 [(0, zr g0 19), (1, zi y1), (2, zi 1), (3, zi 0), (4, zi 1), (5, zi 1), (6, zi 1), (7, zi y7)] i34_169 rfl rfl rfl ?_
                        refine X.iinc 174 [(0, zr g0 19), (1, zi y1), (2, zi 1), (3, zi 0), (4, zi 1), (5, zi 1), (6, zi 1), (7, zi (y7 + 1))] i34_171 rfl rfl rfl (by omega) rfl ?_
                        refine X.goto 16 i34_174 rfl rfl ?_
                        exact ih 1 0 1 1 1 (y7 + 1) (by omega) (by omega) (by omega) (by omega) (by omega) (by omega) (by omega)
            · refine X.lload 106 i34_104 rfl rfl rfl ?_
              refine X.lconst (y := 0) 107 i34_106 rfl rfl rfl ?_
              refine X.lcmp 108 i34_107 rfl rfl (fun z1399 hz1399 => ?_)
              refine X.ifle 115 111 i34_108 rfl rfl rfl (fun h1400 => ?_) (fun h1400 => ?_)
              · have h1400c : (m g0 22 (0 + y7)) ≤ 0 := by omega
                clear h1400 hz1399
                refine X.cut [(0, zr g0 19), (1, zi y1), (2, zi 1), (3, zi 0), (5, zi y5), (6, zi y6), (7, zi y7), (8, zl (m g0 22 (8 + y7))), (10, zl (m g0 22 (0 + y7)))] i34_115 rfl ?_
                refine X.iconst 116 i34_115 rfl rfl (by decide) ?_
                refine X.istore 118 [(0, zr g0 19), (1, zi y1), (2, zi 1), (3, zi 0), (4, zi 0), (5, zi y5), (6, zi y6), (7, zi y7), (8, zl (m g0 22 (8 + y7))), (10, zl (m g0 22 (0 + y7)))] i34_116 rfl rfl rfl ?_
                refine X.iload 120 i34_118 rfl rfl rfl ?_
                refine X.ifne 130 123 i34_120 rfl rfl rfl (fun h1401 => ?_) (fun h1401 => ?_)
                · refine X.cut [(0, zr g0 19), (1, zi y1), (2, zi 1), (3, zi 0), (4, zi 0), (6, zi y6), (7, zi y7), (8, zl (m g0 22 (8 + y7)))] i34_130 rfl ?_
                  refine X.iconst 131 i34_130 rfl rfl (by decide) ?_
                  refine X.goto 135 i34_131 rfl rfl ?_
                  refine X.istore 137 [(0, zr g0 19), (1, zi y1), (2, zi 1), (3, zi 0), (4, zi 0), (5, zi 1), (6, zi y6), (7, zi y7), (8, zl (m g0 22 (8 + y7)))] i34_135 rfl rfl rfl ?_
                  refine X.iload 139 i34_137 rfl rfl rfl ?_
                  refine X.ifne 164 142 i34_139 rfl rfl rfl (fun h1402 => ?_) (fun h1402 => ?_)
                  · refine X.cut [(0, zr g0 19), (1, zi y1), (2, zi 1), (3, zi 0), (4, zi 0), (5, zi 1), (7, zi y7)] i34_164 rfl ?_
                    refine X.iconst 165 i34_164 rfl rfl (by decide) ?_
                    refine X.goto 169 i34_165 rfl rfl ?_
                    refine X.istore 171 [(0, zr g0 19), (1, zi y1), (2, zi 1), (3, zi 0), (4, zi 0), (5, zi 1), (6, zi 1), (7, zi y7)] i34_169 rfl rfl rfl ?_
                    refine X.iinc 174 [(0, zr g0 19), (1, zi y1), (2, zi 1), (3, zi 0), (4, zi 0), (5, zi 1), (6, zi 1), (7, zi (y7 + 1))] i34_171 rfl rfl rfl (by omega) rfl ?_
                    refine X.goto 16 i34_174 rfl rfl ?_
                    exact ih 1 0 0 1 1 (y7 + 1) (by omega) (by omega) (by omega) (by omega) (by omega) (by omega) (by omega)
                  · refine X.lload 144 i34_142 rfl rfl rfl ?_
                    refine X.lconst (y := 0) 145 i34_144 rfl rfl rfl ?_
                    refine X.lcmp 146 i34_145 rfl rfl (fun z1403 hz1403 => ?_)
                    refine X.ifne 168 149 i34_146 rfl rfl rfl (fun h1404 => ?_) (fun h1404 => ?_)
                    · have h1404c : (m g0 22 (8 + y7)) ≠ 0 := by omega
                      clear h1404 hz1403
                      refine X.cut [(0, zr g0 19), (1, zi y1), (2, zi 1), (3, zi 0), (4, zi 0), (5, zi 1), (7, zi y7)] i34_168 rfl ?_
                      refine X.iconst 169 i34_168 rfl rfl (by decide) ?_
                      refine X.istore 171 [(0, zr g0 19), (1, zi y1), (2, zi 1), (3, zi 0), (4, zi 0), (5, zi 1), (6, zi 0), (7, zi y7)] i34_169 rfl rfl rfl ?_
                      refine X.iinc 174 [(0, zr g0 19), (1, zi y1), (2, zi 1), (3, zi 0), (4, zi 0), (5, zi 1), (6, zi 0), (7, zi (y7 + 1))] i34_171 rfl rfl rfl (by omega) rfl ?_
                      refine X.goto 16 i34_174 rfl rfl ?_
                      exact ih 1 0 0 1 0 (y7 + 1) (by omega) (by omega) (by omega) (by omega) (by omega) (by omega) (by omega)
                    · have h1404c : (m g0 22 (8 + y7)) = 0 := by omega
                      clear h1404 hz1403
                      refine X.aload_n 150 i34_149 rfl rfl rfl ?_
                      refine X.getR 153 i34_150 rfl rfl (by decide) rfl rfl ?_
                      refine X.bipush 155 i34_153 rfl rfl (by decide) ?_
                      refine X.iload 157 i34_155 rfl rfl rfl ?_
                      refine X.iadd 158 i34_157 rfl rfl (by omega) ?_
                      refine X.lald 159 i34_158 rfl rfl (by decide) rfl (by omega) ?_
                      refine X.lconst (y := 0) 160 i34_159 rfl rfl rfl ?_
                      refine X.lcmp 161 i34_160 rfl rfl (fun z1405 hz1405 => ?_)
                      refine X.ifle 168 164 i34_161 rfl rfl rfl (fun h1406 => ?_) (fun h1406 => ?_)
                      · have h1406c : (m g0 22 (12 + y7)) ≤ 0 := by omega
                        clear h1406 hz1405
                        refine X.cut [(0, zr g0 19), (1, zi y1), (2, zi 1), (3, zi 0), (4, zi 0), (5, zi 1), (7, zi y7)] i34_168 rfl ?_
                        refine X.iconst 169 i34_168 rfl rfl (by decide) ?_
                        refine X.istore 171 [(0, zr g0 19), (1, zi y1), (2, zi 1), (3, zi 0), (4, zi 0), (5, zi 1), (6, zi 0), (7, zi y7)] i34_169 rfl rfl rfl ?_
                        refine X.iinc 174 [(0, zr g0 19), (1, zi y1), (2, zi 1), (3, zi 0), (4, zi 0), (5, zi 1), (6, zi 0), (7, zi (y7 + 1))] i34_171 rfl rfl rfl (by omega) rfl ?_
                        refine X.goto 16 i34_174 rfl rfl ?_
                        exact ih 1 0 0 1 0 (y7 + 1) (by omega) (by omega) (by omega) (by omega) (by omega) (by omega) (by omega)
                      · have h1406c : (m g0 22 (12 + y7)) > 0 := by omega
                        clear h1406 hz1405
                        refine X.cut [(0, zr g0 19), (1, zi y1), (2, zi 1), (3, zi 0), (4, zi 0), (5, zi 1), (7, zi y7)] i34_164 rfl ?_
                        refine X.iconst 165 i34_164 rfl rfl (by decide) ?_
                        refine X.goto 169 i34_165 rfl rfl ?_
                        refine X.istore 171 [(0, zr g0 19), (1, zi y1), (2, zi 1), (3, zi 0), (4, zi 0), (5, zi 1), (6, zi 1), (7, zi y7)] i34_169 rfl rfl rfl ?_
                        refine X.iinc 174 [(0, zr g0 19), (1, zi y1), (2, zi 1), (3, zi 0), (4, zi 0), (5, zi 1), (6, zi 1), (7, zi (y7 + 1))] i34_171 rfl rfl rfl (by omega) rfl ?_
                        refine X.goto 16 i34_174 rfl rfl ?_
                        exact ih 1 0 0 1 1 (y7 + 1) (by omega) (by omega) (by omega) (by omega) (by omega) (by omega) (by omega)
                · refine X.lload 125 i34_123 rfl rfl rfl ?_
                  refine X.lconst (y := 0) 126 i34_125 rfl rfl rfl ?_
                  refine X.lcmp 127 i34_126 rfl rfl (fun z1407 hz1407 => ?_)
                  refine X.ifge 134 130 i34_127 rfl rfl rfl (fun h1408 => ?_) (fun h1408 => ?_)
                  · have h1408c : (m g0 22 (0 + y7)) ≥ 0 := by omega
                    clear h1408 hz1407
                    refine X.cut [(0, zr g0 19), (1, zi y1), (2, zi 1), (3, zi 0), (4, zi 0), (6, zi y6), (7, zi y7), (8, zl (m g0 22 (8 + y7)))] i34_134 rfl ?_
                    refine X.iconst 135 i34_134 rfl rfl (by decide) ?_
                    refine X.istore 137 [(0, zr g0 19), (1, zi y1), (2, zi 1), (3, zi 0), (4, zi 0), (5, zi 0), (6, zi y6), (7, zi y7), (8, zl (m g0 22 (8 + y7)))] i34_135 rfl rfl rfl ?_
                    refine X.iload 139 i34_137 rfl rfl rfl ?_
                    refine X.ifne 164 142 i34_139 rfl rfl rfl (fun h1409 => ?_) (fun h1409 => ?_)
                    · refine X.cut [(0, zr g0 19), (1, zi y1), (2, zi 1), (3, zi 0), (4, zi 0), (5, zi 0), (7, zi y7)] i34_164 rfl ?_
                      refine X.iconst 165 i34_164 rfl rfl (by decide) ?_
                      refine X.goto 169 i34_165 rfl rfl ?_
                      refine X.istore 171 [(0, zr g0 19), (1, zi y1), (2, zi 1), (3, zi 0), (4, zi 0), (5, zi 0), (6, zi 1), (7, zi y7)] i34_169 rfl rfl rfl ?_
                      refine X.iinc 174 [(0, zr g0 19), (1, zi y1), (2, zi 1), (3, zi 0), (4, zi 0), (5, zi 0), (6, zi 1), (7, zi (y7 + 1))] i34_171 rfl rfl rfl (by omega) rfl ?_
                      refine X.goto 16 i34_174 rfl rfl ?_
                      exact ih 1 0 0 0 1 (y7 + 1) (by omega) (by omega) (by omega) (by omega) (by omega) (by omega) (by omega)
                    · refine X.lload 144 i34_142 rfl rfl rfl ?_
                      refine X.lconst (y := 0) 145 i34_144 rfl rfl rfl ?_
                      refine X.lcmp 146 i34_145 rfl rfl (fun z1410 hz1410 => ?_)
                      refine X.ifne 168 149 i34_146 rfl rfl rfl (fun h1411 => ?_) (fun h1411 => ?_)
                      · have h1411c : (m g0 22 (8 + y7)) ≠ 0 := by omega
                        clear h1411 hz1410
                        refine X.cut [(0, zr g0 19), (1, zi y1), (2, zi 1), (3, zi 0), (4, zi 0), (5, zi 0), (7, zi y7)] i34_168 rfl ?_
                        refine X.iconst 169 i34_168 rfl rfl (by decide) ?_
                        refine X.istore 171 [(0, zr g0 19), (1, zi y1), (2, zi 1), (3, zi 0), (4, zi 0), (5, zi 0), (6, zi 0), (7, zi y7)] i34_169 rfl rfl rfl ?_
                        refine X.iinc 174 [(0, zr g0 19), (1, zi y1), (2, zi 1), (3, zi 0), (4, zi 0), (5, zi 0), (6, zi 0), (7, zi (y7 + 1))] i34_171 rfl rfl rfl (by omega) rfl ?_
                        refine X.goto 16 i34_174 rfl rfl ?_
                        exact ih 1 0 0 0 0 (y7 + 1) (by omega) (by omega) (by omega) (by omega) (by omega) (by omega) (by omega)
                      · have h1411c : (m g0 22 (8 + y7)) = 0 := by omega
                        clear h1411 hz1410
                        refine X.aload_n 150 i34_149 rfl rfl rfl ?_
                        refine X.getR 153 i34_150 rfl rfl (by decide) rfl rfl ?_
                        refine X.bipush 155 i34_153 rfl rfl (by decide) ?_
                        refine X.iload 157 i34_155 rfl rfl rfl ?_
                        refine X.iadd 158 i34_157 rfl rfl (by omega) ?_
                        refine X.lald 159 i34_158 rfl rfl (by decide) rfl (by omega) ?_
                        refine X.lconst (y := 0) 160 i34_159 rfl rfl rfl ?_
                        refine X.lcmp 161 i34_160 rfl rfl (fun z1412 hz1412 => ?_)
                        refine X.ifle 168 164 i34_161 rfl rfl rfl (fun h1413 => ?_) (fun h1413 => ?_)
                        · have h1413c : (m g0 22 (12 + y7)) ≤ 0 := by omega
                          clear h1413 hz1412
                          refine X.cut [(0, zr g0 19), (1, zi y1), (2, zi 1), (3, zi 0), (4, zi 0), (5, zi 0), (7, zi y7)] i34_168 rfl ?_
                          refine X.iconst 169 i34_168 rfl rfl (by decide) ?_
                          refine X.istore 171 [(0, zr g0 19), (1, zi y1), (2, zi 1), (3, zi 0), (4, zi 0), (5, zi 0), (6, zi 0), (7, zi y7)] i34_169 rfl rfl rfl ?_
                          refine X.iinc 174 [(0, zr g0 19), (1, zi y1), (2, zi 1), (3, zi 0), (4, zi 0), (5, zi 0), (6, zi 0), (7, zi (y7 + 1))] i34_171 rfl rfl rfl (by omega) rfl ?_
                          refine X.goto 16 i34_174 rfl rfl ?_
                          exact ih 1 0 0 0 0 (y7 + 1) (by omega) (by omega) (by omega) (by omega) (by omega) (by omega) (by omega)
                        · have h1413c : (m g0 22 (12 + y7)) > 0 := by omega
                          clear h1413 hz1412
                          refine X.cut [(0, zr g0 19), (1, zi y1), (2, zi 1), (3, zi 0), (4, zi 0), (5, zi 0), (7, zi y7)] i34_164 rfl ?_
                          refine X.iconst 165 i34_164 rfl rfl (by decide) ?_
                          refine X.goto 169 i34_165 rfl rfl ?_
                          refine X.istore 171 [(0, zr g0 19), (1, zi y1), (2, zi 1), (3, zi 0), (4, zi 0), (5, zi 0), (6, zi 1), (7, zi y7)] i34_169 rfl rfl rfl ?_
                          refine X.iinc 174 [(0, zr g0 19), (1, zi y1), (2, zi 1), (3, zi 0), (4, zi 0), (5, zi 0), (6, zi 1), (7, zi (y7 + 1))] i34_171 rfl rfl rfl (by omega) rfl ?_
                          refine X.goto 16 i34_174 rfl rfl ?_
                          exact ih 1 0 0 0 1 (y7 + 1) (by omega) (by omega) (by omega) (by omega) (by omega) (by omega) (by omega)
                  · have h1408c : (m g0 22 (0 + y7)) < 0 := by omega
                    clear h1408 hz1407
                    refine X.cut [(0, zr g0 19), (1, zi y1), (2, zi 1), (3, zi 0), (4, zi 0), (6, zi y6), (7, zi y7), (8, zl (m g0 22 (8 + y7)))] i34_130 rfl ?_
                    refine X.iconst 131 i34_130 rfl rfl (by decide) ?_
                    refine X.goto 135 i34_131 rfl rfl ?_
                    refine X.istore 137 [(0, zr g0 19), (1, zi y1), (2, zi 1), (3, zi 0), (4, zi 0), (5, zi 1), (6, zi y6), (7, zi y7), (8, zl (m g0 22 (8 + y7)))] i34_135 rfl rfl rfl ?_
                    refine X.iload 139 i34_137 rfl rfl rfl ?_
                    refine X.ifne 164 142 i34_139 rfl rfl rfl (fun h1414 => ?_) (fun h1414 => ?_)
                    · refine X.cut [(0, zr g0 19), (1, zi y1), (2, zi 1), (3, zi 0), (4, zi 0), (5, zi 1), (7, zi y7)] i34_164 rfl ?_
                      refine X.iconst 165 i34_164 rfl rfl (by decide) ?_
                      refine X.goto 169 i34_165 rfl rfl ?_
                      refine X.istore 171 [(0, zr g0 19), (1, zi y1), (2, zi 1), (3, zi 0), (4, zi 0), (5, zi 1), (6, zi 1), (7, zi y7)] i34_169 rfl rfl rfl ?_
                      refine X.iinc 174 [(0, zr g0 19), (1, zi y1), (2, zi 1), (3, zi 0), (4, zi 0), (5, zi 1), (6, zi 1), (7, zi (y7 + 1))] i34_171 rfl rfl rfl (by omega) rfl ?_
                      refine X.goto 16 i34_174 rfl rfl ?_
                      exact ih 1 0 0 1 1 (y7 + 1) (by omega) (by omega) (by omega) (by omega) (by omega) (by omega) (by omega)
                    · refine X.lload 144 i34_142 rfl rfl rfl ?_
                      refine X.lconst (y := 0) 145 i34_144 rfl rfl rfl ?_
                      refine X.lcmp 146 i34_145 rfl rfl (fun z1415 hz1415 => ?_)
                      refine X.ifne 168 149 i34_146 rfl rfl rfl (fun h1416 => ?_) (fun h1416 => ?_)
                      · have h1416c : (m g0 22 (8 + y7)) ≠ 0 := by omega
                        clear h1416 hz1415
                        refine X.cut [(0, zr g0 19), (1, zi y1), (2, zi 1), (3, zi 0), (4, zi 0), (5, zi 1), (7, zi y7)] i34_168 rfl ?_
                        refine X.iconst 169 i34_168 rfl rfl (by decide) ?_
                        refine X.istore 171 [(0, zr g0 19), (1, zi y1), (2, zi 1), (3, zi 0), (4, zi 0), (5, zi 1), (6, zi 0), (7, zi y7)] i34_169 rfl rfl rfl ?_
                        refine X.iinc 174 [(0, zr g0 19), (1, zi y1), (2, zi 1), (3, zi 0), (4, zi 0), (5, zi 1), (6, zi 0), (7, zi (y7 + 1))] i34_171 rfl rfl rfl (by omega) rfl ?_
                        refine X.goto 16 i34_174 rfl rfl ?_
                        exact ih 1 0 0 1 0 (y7 + 1) (by omega) (by omega) (by omega) (by omega) (by omega) (by omega) (by omega)
                      · have h1416c : (m g0 22 (8 + y7)) = 0 := by omega
                        clear h1416 hz1415
                        refine X.aload_n 150 i34_149 rfl rfl rfl ?_
                        refine X.getR 153 i34_150 rfl rfl (by decide) rfl rfl ?_
                        refine X.bipush 155 i34_153 rfl rfl (by decide) ?_
                        refine X.iload 157 i34_155 rfl rfl rfl ?_
                        refine X.iadd 158 i34_157 rfl rfl (by omega) ?_
                        refine X.lald 159 i34_158 rfl rfl (by decide) rfl (by omega) ?_
                        refine X.lconst (y := 0) 160 i34_159 rfl rfl rfl ?_
                        refine X.lcmp 161 i34_160 rfl rfl (fun z1417 hz1417 => ?_)
                        refine X.ifle 168 164 i34_161 rfl rfl rfl (fun h1418 => ?_) (fun h1418 => ?_)
                        · have h1418c : (m g0 22 (12 + y7)) ≤ 0 := by omega
                          clear h1418 hz1417
                          refine X.cut [(0, zr g0 19), (1, zi y1), (2, zi 1), (3, zi 0), (4, zi 0), (5, zi 1), (7, zi y7)] i34_168 rfl ?_
                          refine X.iconst 169 i34_168 rfl rfl (by decide) ?_
                          refine X.istore 171 [(0, zr g0 19), (1, zi y1), (2, zi 1), (3, zi 0), (4, zi 0), (5, zi 1), (6, zi 0), (7, zi y7)] i34_169 rfl rfl rfl ?_
                          refine X.iinc 174 [(0, zr g0 19), (1, zi y1), (2, zi 1), (3, zi 0), (4, zi 0), (5, zi 1), (6, zi 0), (7, zi (y7 + 1))] i34_171 rfl rfl rfl (by omega) rfl ?_
                          refine X.goto 16 i34_174 rfl rfl ?_
                          exact ih 1 0 0 1 0 (y7 + 1) (by omega) (by omega) (by omega) (by omega) (by omega) (by omega) (by omega)
                        · have h1418c : (m g0 22 (12 + y7)) > 0 := by omega
                          clear h1418 hz1417
                          refine X.cut [(0, zr g0 19), (1, zi y1), (2, zi 1), (3, zi 0), (4, zi 0), (5, zi 1), (7, zi y7)] i34_164 rfl ?_
                          refine X.iconst 165 i34_164 rfl rfl (by decide) ?_
                          refine X.goto 169 i34_165 rfl rfl ?_
                          refine X.istore 171 [(0, zr g0 19), (1, zi y1), (2, zi 1), (3, zi 0), (4, zi 0), (5, zi 1), (6, zi 1), (7, zi y7)] i34_169 rfl rfl rfl ?_
                          refine X.iinc 174 [(0, zr g0 19), (1, zi y1), (2, zi 1), (3, zi 0), (4, zi 0), (5, zi 1), (6, zi 1), (7, zi (y7 + 1))] i34_171 rfl rfl rfl (by omega) rfl ?_
                          refine X.goto 16 i34_174 rfl rfl ?_
                          exact ih 1 0 0 1 1 (y7 + 1) (by omega) (by omega) (by omega) (by omega) (by omega) (by omega) (by omega)
              · have h1400c : (m g0 22 (0 + y7)) > 0 := by omega
                clear h1400 hz1399
                refine X.cut [(0, zr g0 19), (1, zi y1), (2, zi 1), (3, zi 0), (5, zi y5), (6, zi y6), (7, zi y7), (8, zl (m g0 22 (8 + y7))), (10, zl (m g0 22 (0 + y7)))] i34_111 rfl ?_
                refine X.iconst 112 i34_111 rfl rfl (by decide) ?_
                refine X.goto 116 i34_112 rfl rfl ?_
                refine X.istore 118 [(0, zr g0 19), (1, zi y1), (2, zi 1), (3, zi 0), (4, zi 1), (5, zi y5), (6, zi y6), (7, zi y7), (8, zl (m g0 22 (8 + y7))), (10, zl (m g0 22 (0 + y7)))] i34_116 rfl rfl rfl ?_
                refine X.iload 120 i34_118 rfl rfl rfl ?_
                refine X.ifne 130 123 i34_120 rfl rfl rfl (fun h1419 => ?_) (fun h1419 => ?_)
                · refine X.cut [(0, zr g0 19), (1, zi y1), (2, zi 1), (3, zi 0), (4, zi 1), (6, zi y6), (7, zi y7), (8, zl (m g0 22 (8 + y7)))] i34_130 rfl ?_
                  refine X.iconst 131 i34_130 rfl rfl (by decide) ?_
                  refine X.goto 135 i34_131 rfl rfl ?_
                  refine X.istore 137 [(0, zr g0 19), (1, zi y1), (2, zi 1), (3, zi 0), (4, zi 1), (5, zi 1), (6, zi y6), (7, zi y7), (8, zl (m g0 22 (8 + y7)))] i34_135 rfl rfl rfl ?_
                  refine X.iload 139 i34_137 rfl rfl rfl ?_
                  refine X.ifne 164 142 i34_139 rfl rfl rfl (fun h1420 => ?_) (fun h1420 => ?_)
                  · refine X.cut [(0, zr g0 19), (1, zi y1), (2, zi 1), (3, zi 0), (4, zi 1), (5, zi 1), (7, zi y7)] i34_164 rfl ?_
                    refine X.iconst 165 i34_164 rfl rfl (by decide) ?_
                    refine X.goto 169 i34_165 rfl rfl ?_
                    refine X.istore 171 [(0, zr g0 19), (1, zi y1), (2, zi 1), (3, zi 0), (4, zi 1), (5, zi 1), (6, zi 1), (7, zi y7)] i34_169 rfl rfl rfl ?_
                    refine X.iinc 174 [(0, zr g0 19), (1, zi y1), (2, zi 1), (3, zi 0), (4, zi 1), (5, zi 1), (6, zi 1), (7, zi (y7 + 1))] i34_171 rfl rfl rfl (by omega) rfl ?_
                    refine X.goto 16 i34_174 rfl rfl ?_
                    exact ih 1 0 1 1 1 (y7 + 1) (by omega) (by omega) (by omega) (by omega) (by omega) (by omega) (by omega)
                  · refine X.lload 144 i34_142 rfl rfl rfl ?_
                    refine X.lconst (y := 0) 145 i34_144 rfl rfl rfl ?_
                    refine X.lcmp 146 i34_145 rfl rfl (fun z1421 hz1421 => ?_)
                    refine X.ifne 168 149 i34_146 rfl rfl rfl (fun h1422 => ?_) (fun h1422 => ?_)
                    · have h1422c : (m g0 22 (8 + y7)) ≠ 0 := by omega
                      clear h1422 hz1421
                      refine X.cut [(0, zr g0 19), (1, zi y1), (2, zi 1), (3, zi 0), (4, zi 1), (5, zi 1), (7, zi y7)] i34_168 rfl ?_
                      refine X.iconst 169 i34_168 rfl rfl (by decide) ?_
                      refine X.istore 171 [(0, zr g0 19), (1, zi y1), (2, zi 1), (3, zi 0), (4, zi 1), (5, zi 1), (6, zi 0), (7, zi y7)] i34_169 rfl rfl rfl ?_
                      refine X.iinc 174 [(0, zr g0 19), (1, zi y1), (2, zi 1), (3, zi 0), (4, zi 1), (5, zi 1), (6, zi 0), (7, zi (y7 + 1))] i34_171 rfl rfl rfl (by omega) rfl ?_
                      refine X.goto 16 i34_174 rfl rfl ?_
                      exact ih 1 0 1 1 0 (y7 + 1) (by omega) (by omega) (by omega) (by omega) (by omega) (by omega) (by omega)
                    · have h1422c : (m g0 22 (8 + y7)) = 0 := by omega
                      clear h1422 hz1421
                      refine X.aload_n 150 i34_149 rfl rfl rfl ?_
                      refine X.getR 153 i34_150 rfl rfl (by decide) rfl rfl ?_
                      refine X.bipush 155 i34_153 rfl rfl (by decide) ?_
                      refine X.iload 157 i34_155 rfl rfl rfl ?_
                      refine X.iadd 158 i34_157 rfl rfl (by omega) ?_
                      refine X.lald 159 i34_158 rfl rfl (by decide) rfl (by omega) ?_
                      refine X.lconst (y := 0) 160 i34_159 rfl rfl rfl ?_
                      refine X.lcmp 161 i34_160 rfl rfl (fun z1423 hz1423 => ?_)
                      refine X.ifle 168 164 i34_161 rfl rfl rfl (fun h1424 => ?_) (fun h1424 => ?_)
                      · have h1424c : (m g0 22 (12 + y7)) ≤ 0 := by omega
                        clear h1424 hz1423
                        refine X.cut [(0, zr g0 19), (1, zi y1), (2, zi 1), (3, zi 0), (4, zi 1), (5, zi 1), (7, zi y7)] i34_168 rfl ?_
                        refine X.iconst 169 i34_168 rfl rfl (by decide) ?_
                        refine X.istore 171 [(0, zr g0 19), (1, zi y1), (2, zi 1), (3, zi 0), (4, zi 1), (5, zi 1), (6, zi 0), (7, zi y7)] i34_169 rfl rfl rfl ?_
                        refine X.iinc 174 [(0, zr g0 19), (1, zi y1), (2, zi 1), (3, zi 0), (4, zi 1), (5, zi 1), (6, zi 0), (7, zi (y7 + 1))] i34_171 rfl rfl rfl (by omega) rfl ?_
                        refine X.goto 16 i34_174 rfl rfl ?_
                        exact ih 1 0 1 1 0 (y7 + 1) (by omega) (by omega) (by omega) (by omega) (by omega) (by omega) (by omega)
                      · have h1424c : (m g0 22 (12 + y7)) > 0 := by omega
                        clear h1424 hz1423
                        refine X.cut [(0, zr g0 19), (1, zi y1), (2, zi 1), (3, zi 0), (4, zi 1), (5, zi 1), (7, zi y7)] i34_164 rfl ?_
                        refine X.iconst 165 i34_164 rfl rfl (by decide) ?_
                        refine X.goto 169 i34_165 rfl rfl ?_
                        refine X.istore 171 [(0, zr g0 19), (1, zi y1), (2, zi 1), (3, zi 0), (4, zi 1), (5, zi 1), (6, zi 1), (7, zi y7)] i34_169 rfl rfl rfl ?_
                        refine X.iinc 174 [(0, zr g0 19), (1, zi y1), (2, zi 1), (3, zi 0), (4, zi 1), (5, zi 1), (6, zi 1), (7, zi (y7 + 1))] i34_171 rfl rfl rfl (by omega) rfl ?_
                        refine X.goto 16 i34_174 rfl rfl ?_
                        exact ih 1 0 1 1 1 (y7 + 1) (by omega) (by omega) (by omega) (by omega) (by omega) (by omega) (by omega)
                · refine X.lload 125 i34_123 rfl rfl rfl ?_
                  refine X.lconst (y := 0) 126 i34_125 rfl rfl rfl ?_
                  refine X.lcmp 127 i34_126 rfl rfl (fun z1425 hz1425 => ?_)
                  refine X.ifge 134 130 i34_127 rfl rfl rfl (fun h1426 => ?_) (fun h1426 => (by exfalso; omega))
                  have h1426c : (m g0 22 (0 + y7)) ≥ 0 := by omega
                  clear h1426 hz1425
                  refine X.cut [(0, zr g0 19), (1, zi y1), (2, zi 1), (3, zi 0), (4, zi 1), (6, zi y6), (7, zi y7), (8, zl (m g0 22 (8 + y7)))] i34_134 rfl ?_
                  refine X.iconst 135 i34_134 rfl rfl (by decide) ?_
                  refine X.istore 137 [(0, zr g0 19), (1, zi y1), (2, zi 1), (3, zi 0), (4, zi 1), (5, zi 0), (6, zi y6), (7, zi y7), (8, zl (m g0 22 (8 + y7)))] i34_135 rfl rfl rfl ?_
                  refine X.iload 139 i34_137 rfl rfl rfl ?_
                  refine X.ifne 164 142 i34_139 rfl rfl rfl (fun h1427 => ?_) (fun h1427 => ?_)
                  · refine X.cut [(0, zr g0 19), (1, zi y1), (2, zi 1), (3, zi 0), (4, zi 1), (5, zi 0), (7, zi y7)] i34_164 rfl ?_
                    refine X.iconst 165 i34_164 rfl rfl (by decide) ?_
                    refine X.goto 169 i34_165 rfl rfl ?_
                    refine X.istore 171 [(0, zr g0 19), (1, zi y1), (2, zi 1), (3, zi 0), (4, zi 1), (5, zi 0), (6, zi 1), (7, zi y7)] i34_169 rfl rfl rfl ?_
                    refine X.iinc 174 [(0, zr g0 19), (1, zi y1), (2, zi 1), (3, zi 0), (4, zi 1), (5, zi 0), (6, zi 1), (7, zi (y7 + 1))] i34_171 rfl rfl rfl (by omega) rfl ?_
                    refine X.goto 16 i34_174 rfl rfl ?_
                    exact ih 1 0 1 0 1 (y7 + 1) (by omega) (by omega) (by omega) (by omega) (by omega) (by omega) (by omega)
                  · refine X.lload 144 i34_142 rfl rfl rfl ?_
                    refine X.lconst (y := 0) 145 i34_144 rfl rfl rfl ?_
                    refine X.lcmp 146 i34_145 rfl rfl (fun z1428 hz1428 => ?_)
                    refine X.ifne 168 149 i34_146 rfl rfl rfl (fun h1429 => ?_) (fun h1429 => ?_)
                    · have h1429c : (m g0 22 (8 + y7)) ≠ 0 := by omega
                      clear h1429 hz1428
                      refine X.cut [(0, zr g0 19), (1, zi y1), (2, zi 1), (3, zi 0), (4, zi 1), (5, zi 0), (7, zi y7)] i34_168 rfl ?_
                      refine X.iconst 169 i34_168 rfl rfl (by decide) ?_
                      refine X.istore 171 [(0, zr g0 19), (1, zi y1), (2, zi 1), (3, zi 0), (4, zi 1), (5, zi 0), (6, zi 0), (7, zi y7)] i34_169 rfl rfl rfl ?_
                      refine X.iinc 174 [(0, zr g0 19), (1, zi y1), (2, zi 1), (3, zi 0), (4, zi 1), (5, zi 0), (6, zi 0), (7, zi (y7 + 1))] i34_171 rfl rfl rfl (by omega) rfl ?_
                      refine X.goto 16 i34_174 rfl rfl ?_
                      exact ih 1 0 1 0 0 (y7 + 1) (by omega) (by omega) (by omega) (by omega) (by omega) (by omega) (by omega)
                    · have h1429c : (m g0 22 (8 + y7)) = 0 := by omega
                      clear h1429 hz1428
                      refine X.aload_n 150 i34_149 rfl rfl rfl ?_
                      refine X.getR 153 i34_150 rfl rfl (by decide) rfl rfl ?_
                      refine X.bipush 155 i34_153 rfl rfl (by decide) ?_
                      refine X.iload 157 i34_155 rfl rfl rfl ?_
                      refine X.iadd 158 i34_157 rfl rfl (by omega) ?_
                      refine X.lald 159 i34_158 rfl rfl (by decide) rfl (by omega) ?_
                      refine X.lconst (y := 0) 160 i34_159 rfl rfl rfl ?_
                      refine X.lcmp 161 i34_160 rfl rfl (fun z1430 hz1430 => ?_)
                      refine X.ifle 168 164 i34_161 rfl rfl rfl (fun h1431 => ?_) (fun h1431 => ?_)
                      · have h1431c : (m g0 22 (12 + y7)) ≤ 0 := by omega
                        clear h1431 hz1430
                        refine X.cut [(0, zr g0 19), (1, zi y1), (2, zi 1), (3, zi 0), (4, zi 1), (5, zi 0), (7, zi y7)] i34_168 rfl ?_
                        refine X.iconst 169 i34_168 rfl rfl (by decide) ?_
                        refine X.istore 171 [(0, zr g0 19), (1, zi y1), (2, zi 1), (3, zi 0), (4, zi 1), (5, zi 0), (6, zi 0), (7, zi y7)] i34_169 rfl rfl rfl ?_
                        refine X.iinc 174 [(0, zr g0 19), (1, zi y1), (2, zi 1), (3, zi 0), (4, zi 1), (5, zi 0), (6, zi 0), (7, zi (y7 + 1))] i34_171 rfl rfl rfl (by omega) rfl ?_
                        refine X.goto 16 i34_174 rfl rfl ?_
                        exact ih 1 0 1 0 0 (y7 + 1) (by omega) (by omega) (by omega) (by omega) (by omega) (by omega) (by omega)
                      · have h1431c : (m g0 22 (12 + y7)) > 0 := by omega
                        clear h1431 hz1430
                        refine X.cut [(0, zr g0 19), (1, zi y1), (2, zi 1), (3, zi 0), (4, zi 1), (5, zi 0), (7, zi y7)] i34_164 rfl ?_
                        refine X.iconst 165 i34_164 rfl rfl (by decide) ?_
                        refine X.goto 169 i34_165 rfl rfl ?_
                        refine X.istore 171 [(0, zr g0 19), (1, zi y1), (2, zi 1), (3, zi 0), (4, zi 1), (5, zi 0), (6, zi 1), (7, zi y7)] i34_169 rfl rfl rfl ?_
                        refine X.iinc 174 [(0, zr g0 19), (1, zi y1), (2, zi 1), (3, zi 0), (4, zi 1), (5, zi 0), (6, zi 1), (7, zi (y7 + 1))] i34_171 rfl rfl rfl (by omega) rfl ?_
                        refine X.goto 16 i34_174 rfl rfl ?_
                        exact ih 1 0 1 0 1 (y7 + 1) (by omega) (by omega) (by omega) (by omega) (by omega) (by omega) (by omega)
-- WorkMeter$Wave.marksSeen
theorem c34_1 {s : Nat × (Nat → Int32)} {S : zS} {m0 m : zM} {B : Int} {d : Nat} {Q : Option zV → zM → Prop} (g0 : Nat) (a1 : Int) (hd : 13 ≤ d) (hJ : J S m0 B m) (hB : B + 0 ≤ 1000000000) (ha1 : 0 ≤ a1 ∧ a1 ≤ 1000000) (hQ : ∀ (v : Int), ((-2147483648) ≤ v ∧ v ≤ 2147483647) → Q (some (zi v)) m) : X (EE s) d 34 0 [(0, zr g0 19), (1, zi a1)] [] m Q := by
  refine X.iconst 1 i34_0 rfl rfl (by decide) ?_
  refine X.istore_n 2 [(0, zr g0 19), (1, zi a1), (2, zi 0)] i34_1 rfl rfl rfl ?_
  refine X.iconst 3 i34_2 rfl rfl (by decide) ?_
  refine X.istore_n 4 [(0, zr g0 19), (1, zi a1), (2, zi 0), (3, zi 0)] i34_3 rfl rfl rfl ?_
  refine X.iconst 5 i34_4 rfl rfl (by decide) ?_
  refine X.istore 7 [(0, zr g0 19), (1, zi a1), (2, zi 0), (3, zi 0), (4, zi 0)] i34_5 rfl rfl rfl ?_
  refine X.iconst 8 i34_7 rfl rfl (by decide) ?_
  refine X.istore 10 [(0, zr g0 19), (1, zi a1), (2, zi 0), (3, zi 0), (4, zi 0), (5, zi 0)] i34_8 rfl rfl rfl ?_
  refine X.iconst 11 i34_10 rfl rfl (by decide) ?_
  refine X.istore 13 [(0, zr g0 19), (1, zi a1), (2, zi 0), (3, zi 0), (4, zi 0), (5, zi 0), (6, zi 0)] i34_11 rfl rfl rfl ?_
  refine X.iconst 14 i34_13 rfl rfl (by decide) ?_
  refine X.istore 16 [(0, zr g0 19), (1, zi a1), (2, zi 0), (3, zi 0), (4, zi 0), (5, zi 0), (6, zi 0), (7, zi 0)] i34_14 rfl rfl rfl ?_
  refine l34_16_1 (s := s) (S := S) (m0 := m0) (m := m) (B := B) (d := d) g0 a1 (by omega) (hJ.up (by omega)) (by omega) (by omega) (fun y501 y502 y503 y504 y505 hby501 hby502 hby503 hby504 hby505 => ?_) ((3 - 0 : Int).toNat + 1) 0 0 0 0 0 0 (by omega) (by omega) (by omega) (by omega) (by omega) (by omega) (by omega)
  refine X.iload_n 178 i34_177 rfl rfl rfl ?_
  refine X.ifeq 189 181 i34_178 rfl rfl rfl (fun h509 => ?_) (fun h509 => ?_)
  · refine X.cut [(4, zi y503), (5, zi y504), (6, zi y505)] i34_189 rfl ?_
    refine X.iconst 190 i34_189 rfl rfl (by decide) ?_
    refine X.iload 192 i34_190 rfl rfl rfl ?_
    refine X.ifeq 205 195 i34_192 rfl rfl rfl (fun h510 => ?_) (fun h510 => ?_)
    · refine X.cut [(6, zi y505)] i34_205 rfl ?_
      refine X.iconst 206 i34_205 rfl rfl (by decide) ?_
      refine X.iiF 207 .ior (fun x y => x ||| y) i34_206 rfl rfl rfl (fun _ _ => rfl) (fun z511 hz511 => ?_)
      refine X.iload 209 i34_207 rfl rfl rfl ?_
      refine X.ifeq 217 212 i34_209 rfl rfl rfl (fun h512 => ?_) (fun h512 => ?_)
      · refine X.cut [] i34_217 rfl ?_
        refine X.iconst 218 i34_217 rfl rfl (by decide) ?_
        refine X.iiF 219 .ior (fun x y => x ||| y) i34_218 rfl rfl rfl (fun _ _ => rfl) (fun z513 hz513 => ?_)
        refine X.reti i34_219 rfl t34 ?_
        exact hQ z513 (by first | trivial | omega) 
      · refine X.bipush 214 i34_212 rfl rfl (by decide) ?_
        refine X.goto 218 i34_214 rfl rfl ?_
        refine X.cut [] i34_218 rfl ?_
        refine X.iiF 219 .ior (fun x y => x ||| y) i34_218 rfl rfl rfl (fun _ _ => rfl) (fun z514 hz514 => ?_)
        refine X.reti i34_219 rfl t34 ?_
        exact hQ z514 (by first | trivial | omega) 
    · refine X.iload 197 i34_195 rfl rfl rfl ?_
      refine X.ifeq 205 200 i34_197 rfl rfl rfl (fun h515 => ?_) (fun h515 => ?_)
      · refine X.cut [(6, zi y505)] i34_205 rfl ?_
        refine X.iconst 206 i34_205 rfl rfl (by decide) ?_
        refine X.iiF 207 .ior (fun x y => x ||| y) i34_206 rfl rfl rfl (fun _ _ => rfl) (fun z516 hz516 => ?_)
        refine X.iload 209 i34_207 rfl rfl rfl ?_
        refine X.ifeq 217 212 i34_209 rfl rfl rfl (fun h517 => ?_) (fun h517 => ?_)
        · refine X.cut [] i34_217 rfl ?_
          refine X.iconst 218 i34_217 rfl rfl (by decide) ?_
          refine X.iiF 219 .ior (fun x y => x ||| y) i34_218 rfl rfl rfl (fun _ _ => rfl) (fun z518 hz518 => ?_)
          refine X.reti i34_219 rfl t34 ?_
          exact hQ z518 (by first | trivial | omega) 
        · refine X.bipush 214 i34_212 rfl rfl (by decide) ?_
          refine X.goto 218 i34_214 rfl rfl ?_
          refine X.cut [] i34_218 rfl ?_
          refine X.iiF 219 .ior (fun x y => x ||| y) i34_218 rfl rfl rfl (fun _ _ => rfl) (fun z519 hz519 => ?_)
          refine X.reti i34_219 rfl t34 ?_
          exact hQ z519 (by first | trivial | omega) 
      · refine X.bipush 202 i34_200 rfl rfl (by decide) ?_
        refine X.goto 206 i34_202 rfl rfl ?_
        refine X.cut [(6, zi y505)] i34_206 rfl ?_
        refine X.iiF 207 .ior (fun x y => x ||| y) i34_206 rfl rfl rfl (fun _ _ => rfl) (fun z520 hz520 => ?_)
        refine X.iload 209 i34_207 rfl rfl rfl ?_
        refine X.ifeq 217 212 i34_209 rfl rfl rfl (fun h521 => ?_) (fun h521 => ?_)
        · refine X.cut [] i34_217 rfl ?_
          refine X.iconst 218 i34_217 rfl rfl (by decide) ?_
          refine X.iiF 219 .ior (fun x y => x ||| y) i34_218 rfl rfl rfl (fun _ _ => rfl) (fun z522 hz522 => ?_)
          refine X.reti i34_219 rfl t34 ?_
          exact hQ z522 (by first | trivial | omega) 
        · refine X.bipush 214 i34_212 rfl rfl (by decide) ?_
          refine X.goto 218 i34_214 rfl rfl ?_
          refine X.cut [] i34_218 rfl ?_
          refine X.iiF 219 .ior (fun x y => x ||| y) i34_218 rfl rfl rfl (fun _ _ => rfl) (fun z523 hz523 => ?_)
          refine X.reti i34_219 rfl t34 ?_
          exact hQ z523 (by first | trivial | omega) 
  · refine X.iload_n 182 i34_181 rfl rfl rfl ?_
    refine X.ifeq 189 185 i34_182 rfl rfl rfl (fun h524 => ?_) (fun h524 => ?_)
    · refine X.cut [(4, zi y503), (5, zi y504), (6, zi y505)] i34_189 rfl ?_
      refine X.iconst 190 i34_189 rfl rfl (by decide) ?_
      refine X.iload 192 i34_190 rfl rfl rfl ?_
      refine X.ifeq 205 195 i34_192 rfl rfl rfl (fun h525 => ?_) (fun h525 => ?_)
      · refine X.cut [(6, zi y505)] i34_205 rfl ?_
        refine X.iconst 206 i34_205 rfl rfl (by decide) ?_
        refine X.iiF 207 .ior (fun x y => x ||| y) i34_206 rfl rfl rfl (fun _ _ => rfl) (fun z526 hz526 => ?_)
        refine X.iload 209 i34_207 rfl rfl rfl ?_
        refine X.ifeq 217 212 i34_209 rfl rfl rfl (fun h527 => ?_) (fun h527 => ?_)
        · refine X.cut [] i34_217 rfl ?_
          refine X.iconst 218 i34_217 rfl rfl (by decide) ?_
          refine X.iiF 219 .ior (fun x y => x ||| y) i34_218 rfl rfl rfl (fun _ _ => rfl) (fun z528 hz528 => ?_)
          refine X.reti i34_219 rfl t34 ?_
          exact hQ z528 (by first | trivial | omega) 
        · refine X.bipush 214 i34_212 rfl rfl (by decide) ?_
          refine X.goto 218 i34_214 rfl rfl ?_
          refine X.cut [] i34_218 rfl ?_
          refine X.iiF 219 .ior (fun x y => x ||| y) i34_218 rfl rfl rfl (fun _ _ => rfl) (fun z529 hz529 => ?_)
          refine X.reti i34_219 rfl t34 ?_
          exact hQ z529 (by first | trivial | omega) 
      · refine X.iload 197 i34_195 rfl rfl rfl ?_
        refine X.ifeq 205 200 i34_197 rfl rfl rfl (fun h530 => ?_) (fun h530 => ?_)
        · refine X.cut [(6, zi y505)] i34_205 rfl ?_
          refine X.iconst 206 i34_205 rfl rfl (by decide) ?_
          refine X.iiF 207 .ior (fun x y => x ||| y) i34_206 rfl rfl rfl (fun _ _ => rfl) (fun z531 hz531 => ?_)
          refine X.iload 209 i34_207 rfl rfl rfl ?_
          refine X.ifeq 217 212 i34_209 rfl rfl rfl (fun h532 => ?_) (fun h532 => ?_)
          · refine X.cut [] i34_217 rfl ?_
            refine X.iconst 218 i34_217 rfl rfl (by decide) ?_
            refine X.iiF 219 .ior (fun x y => x ||| y) i34_218 rfl rfl rfl (fun _ _ => rfl) (fun z533 hz533 => ?_)
            refine X.reti i34_219 rfl t34 ?_
            exact hQ z533 (by first | trivial | omega) 
          · refine X.bipush 214 i34_212 rfl rfl (by decide) ?_
            refine X.goto 218 i34_214 rfl rfl ?_
            refine X.cut [] i34_218 rfl ?_
            refine X.iiF 219 .ior (fun x y => x ||| y) i34_218 rfl rfl rfl (fun _ _ => rfl) (fun z534 hz534 => ?_)
            refine X.reti i34_219 rfl t34 ?_
            exact hQ z534 (by first | trivial | omega) 
        · refine X.bipush 202 i34_200 rfl rfl (by decide) ?_
          refine X.goto 206 i34_202 rfl rfl ?_
          refine X.cut [(6, zi y505)] i34_206 rfl ?_
          refine X.iiF 207 .ior (fun x y => x ||| y) i34_206 rfl rfl rfl (fun _ _ => rfl) (fun z535 hz535 => ?_)
          refine X.iload 209 i34_207 rfl rfl rfl ?_
          refine X.ifeq 217 212 i34_209 rfl rfl rfl (fun h536 => ?_) (fun h536 => ?_)
          · refine X.cut [] i34_217 rfl ?_
            refine X.iconst 218 i34_217 rfl rfl (by decide) ?_
            refine X.iiF 219 .ior (fun x y => x ||| y) i34_218 rfl rfl rfl (fun _ _ => rfl) (fun z537 hz537 => ?_)
            refine X.reti i34_219 rfl t34 ?_
            exact hQ z537 (by first | trivial | omega) 
          · refine X.bipush 214 i34_212 rfl rfl (by decide) ?_
            refine X.goto 218 i34_214 rfl rfl ?_
            refine X.cut [] i34_218 rfl ?_
            refine X.iiF 219 .ior (fun x y => x ||| y) i34_218 rfl rfl rfl (fun _ _ => rfl) (fun z538 hz538 => ?_)
            refine X.reti i34_219 rfl t34 ?_
            exact hQ z538 (by first | trivial | omega) 
    · refine X.iconst 186 i34_185 rfl rfl (by decide) ?_
      refine X.goto 190 i34_186 rfl rfl ?_
      refine X.cut [(4, zi y503), (5, zi y504), (6, zi y505)] i34_190 rfl ?_
      refine X.iload 192 i34_190 rfl rfl rfl ?_
      refine X.ifeq 205 195 i34_192 rfl rfl rfl (fun h539 => ?_) (fun h539 => ?_)
      · refine X.cut [(6, zi y505)] i34_205 rfl ?_
        refine X.iconst 206 i34_205 rfl rfl (by decide) ?_
        refine X.iiF 207 .ior (fun x y => x ||| y) i34_206 rfl rfl rfl (fun _ _ => rfl) (fun z540 hz540 => ?_)
        refine X.iload 209 i34_207 rfl rfl rfl ?_
        refine X.ifeq 217 212 i34_209 rfl rfl rfl (fun h541 => ?_) (fun h541 => ?_)
        · refine X.cut [] i34_217 rfl ?_
          refine X.iconst 218 i34_217 rfl rfl (by decide) ?_
          refine X.iiF 219 .ior (fun x y => x ||| y) i34_218 rfl rfl rfl (fun _ _ => rfl) (fun z542 hz542 => ?_)
          refine X.reti i34_219 rfl t34 ?_
          exact hQ z542 (by first | trivial | omega) 
        · refine X.bipush 214 i34_212 rfl rfl (by decide) ?_
          refine X.goto 218 i34_214 rfl rfl ?_
          refine X.cut [] i34_218 rfl ?_
          refine X.iiF 219 .ior (fun x y => x ||| y) i34_218 rfl rfl rfl (fun _ _ => rfl) (fun z543 hz543 => ?_)
          refine X.reti i34_219 rfl t34 ?_
          exact hQ z543 (by first | trivial | omega) 
      · refine X.iload 197 i34_195 rfl rfl rfl ?_
        refine X.ifeq 205 200 i34_197 rfl rfl rfl (fun h544 => ?_) (fun h544 => ?_)
        · refine X.cut [(6, zi y505)] i34_205 rfl ?_
          refine X.iconst 206 i34_205 rfl rfl (by decide) ?_
          refine X.iiF 207 .ior (fun x y => x ||| y) i34_206 rfl rfl rfl (fun _ _ => rfl) (fun z545 hz545 => ?_)
          refine X.iload 209 i34_207 rfl rfl rfl ?_
          refine X.ifeq 217 212 i34_209 rfl rfl rfl (fun h546 => ?_) (fun h546 => ?_)
          · refine X.cut [] i34_217 rfl ?_
            refine X.iconst 218 i34_217 rfl rfl (by decide) ?_
            refine X.iiF 219 .ior (fun x y => x ||| y) i34_218 rfl rfl rfl (fun _ _ => rfl) (fun z547 hz547 => ?_)
            refine X.reti i34_219 rfl t34 ?_
            exact hQ z547 (by first | trivial | omega) 
          · refine X.bipush 214 i34_212 rfl rfl (by decide) ?_
            refine X.goto 218 i34_214 rfl rfl ?_
            refine X.cut [] i34_218 rfl ?_
            refine X.iiF 219 .ior (fun x y => x ||| y) i34_218 rfl rfl rfl (fun _ _ => rfl) (fun z548 hz548 => ?_)
            refine X.reti i34_219 rfl t34 ?_
            exact hQ z548 (by first | trivial | omega) 
        · refine X.bipush 202 i34_200 rfl rfl (by decide) ?_
          refine X.goto 206 i34_202 rfl rfl ?_
          refine X.cut [(6, zi y505)] i34_206 rfl ?_
          refine X.iiF 207 .ior (fun x y => x ||| y) i34_206 rfl rfl rfl (fun _ _ => rfl) (fun z549 hz549 => ?_)
          refine X.iload 209 i34_207 rfl rfl rfl ?_
          refine X.ifeq 217 212 i34_209 rfl rfl rfl (fun h550 => ?_) (fun h550 => ?_)
          · refine X.cut [] i34_217 rfl ?_
            refine X.iconst 218 i34_217 rfl rfl (by decide) ?_
            refine X.iiF 219 .ior (fun x y => x ||| y) i34_218 rfl rfl rfl (fun _ _ => rfl) (fun z551 hz551 => ?_)
            refine X.reti i34_219 rfl t34 ?_
            exact hQ z551 (by first | trivial | omega) 
          · refine X.bipush 214 i34_212 rfl rfl (by decide) ?_
            refine X.goto 218 i34_214 rfl rfl ?_
            refine X.cut [] i34_218 rfl ?_
            refine X.iiF 219 .ior (fun x y => x ||| y) i34_218 rfl rfl rfl (fun _ _ => rfl) (fun z552 hz552 => ?_)
            refine X.reti i34_219 rfl t34 ?_
            exact hQ z552 (by first | trivial | omega) 
-- WorkMeter$Calendar.heldUntil
theorem c37_1 {s : Nat × (Nat → Int32)} {S : zS} {m0 m : zM} {B : Int} {d : Nat} {Q : Option zV → zM → Prop} (g0 : Nat) (a1 : Int) (hd : 15 ≤ d) (hJ : J S m0 B m) (hB : B + 0 ≤ 1000000000) (ha1 : 0 ≤ a1 ∧ a1 ≤ 2000185600) (hQ : ∀ (v : Int), (0 ≤ v ∧ v ≤ 2000246400) → (a1 < v) → Q (some (zi v)) m) : X (EE s) d 37 0 [(0, zr g0 11), (1, zi a1)] [] m Q := by
  refine X.iload_n 1 i37_0 rfl rfl rfl ?_
  refine X.ldc 3 i37_1 rfl rfl (by decide) ?_
  refine X.idiv 4 i37_3 rfl rfl (by omega) ?_
  refine X.istore_n 5 [(0, zr g0 11), (1, zi a1), (2, zi (a1 / 86400))] i37_4 rfl rfl rfl ?_
  refine X.aload_n 6 i37_5 rfl rfl rfl ?_
  refine X.iload_n 7 i37_6 rfl rfl rfl ?_
  refine X.callv 10 [zi (a1 / 86400)] [] [(0, zr g0 11), (1, zi (a1 / 86400))] i37_7 rfl (by decide) rfl rfl (by omega) rfl rfl (by decide) rfl t28 (Nat.le_of_ble_eq_true rfl) (Nat.le_of_ble_eq_true rfl) rfl ?_
  refine c28_1 (B := B) g0 (a1 / 86400) (by omega) (hJ.up (by omega)) (by omega) (by omega) (fun v503 hv503 => ?_)
  show X (EE s) d 37 10 [(0, zr g0 11), (1, zi a1), (2, zi (a1 / 86400))] [zi v503] m _
  refine X.istore_n 11 [(0, zr g0 11), (1, zi a1), (2, zi (a1 / 86400)), (3, zi v503)] i37_10 rfl rfl rfl ?_
  refine X.aload_n 12 i37_11 rfl rfl rfl ?_
  refine X.iload_n 13 i37_12 rfl rfl rfl ?_
  refine X.iload_n 14 i37_13 rfl rfl rfl ?_
  refine X.ldc 16 i37_14 rfl rfl (by decide) ?_
  refine X.irem 17 i37_16 rfl rfl (by omega) ?_
  refine X.iconst 18 i37_17 rfl rfl (by decide) ?_
  refine X.iadd 19 i37_18 rfl rfl (by omega) ?_
  refine X.callv 22 [zi v503, zi ((a1 % 86400) + 1)] [] [(0, zr g0 11), (1, zi v503), (2, zi ((a1 % 86400) + 1))] i37_19 rfl (by decide) rfl rfl (by omega) rfl rfl (by decide) rfl t32 (Nat.le_of_ble_eq_true rfl) (Nat.le_of_ble_eq_true rfl) rfl ?_
  refine c_sb (B := B) g0 v503 ((a1 % 86400) + 1) (by omega) (hJ.up (by omega)) (by omega) (by omega) (fun v506 hv506 hqv5060 hqv5061 hqv5062 => ?_)
  show X (EE s) d 37 22 [(0, zr g0 11), (1, zi a1), (2, zi (a1 / 86400)), (3, zi v503)] [zi v506] m _
  refine X.istore 24 [(0, zr g0 11), (1, zi a1), (2, zi (a1 / 86400)), (3, zi v503), (4, zi v506)] i37_22 rfl rfl rfl ?_
  refine X.iload 26 i37_24 rfl rfl rfl ?_
  refine X.aload_n 27 i37_26 rfl rfl rfl ?_
  refine X.getR 30 i37_27 rfl rfl (by decide) rfl rfl ?_
  refine X.iload_n 31 i37_30 rfl rfl rfl ?_
  refine X.iald 32 i37_31 rfl rfl (by decide) rfl (by omega) ?_
  have h507 := r12_0 hJ g0 (i := v503) (by omega)
  refine X.icmpge 50 35 i37_32 rfl rfl rfl (fun h508 => ?_) (fun h508 => ?_)
  · refine X.cut [(2, zi (a1 / 86400))] i37_50 rfl ?_
    refine X.ldc 52 i37_50 rfl rfl (by decide) ?_
    refine X.istore 54 [(2, zi (a1 / 86400)), (5, zi 86400)] i37_52 rfl rfl rfl ?_
    refine X.iload_n 55 i37_54 rfl rfl rfl ?_
    refine X.ldc 57 i37_55 rfl rfl (by decide) ?_
    refine X.imul 58 i37_57 rfl rfl (by omega) ?_
    refine X.iload 60 i37_58 rfl rfl rfl ?_
    refine X.iadd 61 i37_60 rfl rfl (by omega) ?_
    refine X.reti i37_61 rfl t37 ?_
    exact hQ (((a1 / 86400) * 86400) + 86400) (by first | trivial | omega) (by omega)
  · refine X.aload_n 36 i37_35 rfl rfl rfl ?_
    refine X.getR 39 i37_36 rfl rfl (by decide) rfl rfl ?_
    refine X.iload_n 40 i37_39 rfl rfl rfl ?_
    refine X.bipush 42 i37_40 rfl rfl (by decide) ?_
    refine X.imul 43 i37_42 rfl rfl (by omega) ?_
    refine X.iload 45 i37_43 rfl rfl rfl ?_
    refine X.iadd 46 i37_45 rfl rfl (by omega) ?_
    refine X.iald 47 i37_46 rfl rfl (by decide) rfl (by omega) ?_
    have h509 := r13_0 hJ g0 (i := ((v503 * 6) + v506)) (by omega)
    refine X.goto 52 i37_47 rfl rfl ?_
    refine X.cut [(2, zi (a1 / 86400))] i37_52 rfl ?_
    refine X.istore 54 [(2, zi (a1 / 86400)), (5, zi (m g0 13 ((v503 * 6) + v506)))] i37_52 rfl rfl rfl ?_
    refine X.iload_n 55 i37_54 rfl rfl rfl ?_
    refine X.ldc 57 i37_55 rfl rfl (by decide) ?_
    refine X.imul 58 i37_57 rfl rfl (by omega) ?_
    refine X.iload 60 i37_58 rfl rfl rfl ?_
    refine X.iadd 61 i37_60 rfl rfl (by omega) ?_
    refine X.reti i37_61 rfl t37 ?_
    exact hQ (((a1 / 86400) * 86400) + (m g0 13 ((v503 * 6) + v506))) (by first | trivial | omega) (by omega)
theorem l39_6_1 {s : Nat × (Nat → Int32)} {S : zS} {m0 m : zM} {B : Int} {d : Nat} {Q : Option zV → zM → Prop} (g0 : Nat) (y1 y2 y3 : Int) (hd : 13 ≤ d) (hJ : J S m0 B m) (hB9 : B ≤ 1000000000) (hy1 : (-2147483648) ≤ y1 ∧ y1 ≤ 2147483647) (hy2 : 0 ≤ y2 ∧ y2 ≤ 1000000) (hy3 : (-1999999999) ≤ y3 ∧ y3 ≤ 3600)
    (K43 : ∀ (x4 x5 x6 : Int) , ((-1999999999) ≤ x4 ∧ x4 ≤ 3600) → (2 ≤ x5 ∧ x5 ≤ 4) → (0 ≤ x6 ∧ x6 ≤ 0) → (1 ≤ x4) → (x4 ≤ y3) → X (EE s) d 39 43 [(0, zr g0 33), (1, zi y1), (2, zi y2), (4, zi x4), (5, zi x5), (6, zi x6)] [] m Q)
    (K87 : ∀ (x4 : Int) , ((-1999999999) ≤ x4 ∧ x4 ≤ 3600) → (1 ≤ x4) → (x4 ≤ y3) → X (EE s) d 39 87 [(4, zi x4)] [] m Q) :
    ∀ (n : Nat) (y4 y5 : Int) , ((-1999999999) ≤ y4 ∧ y4 ≤ 3600) → (2 ≤ y5 ∧ y5 ≤ 5) → (1 ≤ y4) → (y4 ≤ y3) → 5 - y5 < (n : Int) → X (EE s) d 39 6 [(0, zr g0 33), (1, zi y1), (2, zi y2), (4, zi y4), (5, zi y5)] [] m Q := by
  intro n
  induction n with
  | zero =>
    intro y4 y5 hy4 hy5 hr0 hr1 hn
    exfalso
    omega
  | succ n ih =>
    intro y4 y5 hy4 hy5 hr0 hr1 hn
    refine X.iload 8 i39_6 rfl rfl rfl ?_
    refine X.iconst 9 i39_8 rfl rfl (by decide) ?_
    refine X.icmpge 87 12 i39_9 rfl rfl rfl (fun h541 => ?_) (fun h541 => ?_)
    · refine X.cut [(4, zi y4)] i39_87 rfl ?_
      exact K87 y4 (by first | trivial | omega) (by omega) (by omega)
    · refine X.iload_n 13 i39_12 rfl rfl rfl ?_
      refine X.iload 15 i39_13 rfl rfl rfl ?_
      refine X.iiF 16 .ishr (fun x y => x >>> (y &&& 31)) i39_15 rfl rfl rfl (fun _ _ => rfl) (fun z542 hz542 => ?_)
      refine X.iconst 17 i39_16 rfl rfl (by decide) ?_
      refine X.andF 18 1 i39_17 rfl rfl (by decide) (.inl rfl) (fun z543 hz543 => ?_)
      refine X.iconst 19 i39_18 rfl rfl (by decide) ?_
      refine X.icmpne 26 22 i39_19 rfl rfl rfl (fun h544 => ?_) (fun h544 => ?_)
      · refine X.iconst 27 i39_26 rfl rfl (by decide) ?_
        refine X.istore 29 [(0, zr g0 33), (1, zi y1), (2, zi y2), (4, zi y4), (5, zi y5), (6, zi 0)] i39_27 rfl rfl rfl ?_
        refine X.aload_n 30 i39_29 rfl rfl rfl ?_
        refine X.iload 32 i39_30 rfl rfl rfl ?_
        refine X.callv 35 [zi y5] [] [(0, zr g0 33), (1, zi y5)] i39_32 rfl (by decide) rfl rfl (by omega) rfl rfl (by decide) rfl t40 (Nat.le_of_ble_eq_true rfl) (Nat.le_of_ble_eq_true rfl) rfl ?_
        refine X.aload_n 1 i40_0 rfl rfl rfl ?_
        refine X.getIr 4 3 i40_1 rfl rfl (by decide) rfl rfl rfl (fun h545 => ?_)
        refine X.iload_n 5 i40_4 rfl rfl rfl ?_
        refine X.iiF 6 .ishr (fun x y => x >>> (y &&& 31)) i40_5 rfl rfl rfl (fun _ _ => rfl) (fun z546 hz546 => ?_)
        refine X.iconst 7 i40_6 rfl rfl (by decide) ?_
        refine X.andF 8 1 i40_7 rfl rfl (by decide) (.inl rfl) (fun z547 hz547 => ?_)
        refine X.iconst 9 i40_8 rfl rfl (by decide) ?_
        refine X.icmpne 16 12 i40_9 rfl rfl rfl (fun h548 => ?_) (fun h548 => ?_)
        · refine X.cut [] i40_16 rfl ?_
          refine X.iconst 17 i40_16 rfl rfl (by decide) ?_
          refine X.retz i40_17 rfl t40 (by omega) ?_
          show X (EE s) d 39 35 [(0, zr g0 33), (1, zi y1), (2, zi y2), (4, zi y4), (5, zi y5), (6, zi 0)] [zi 0] m _
          refine X.ifeq 45 38 i39_35 rfl rfl rfl (fun h549 => ?_) (fun h549 => (by exfalso; omega))
          refine X.aload_n 46 i39_45 rfl rfl rfl ?_
          refine X.iload 48 i39_46 rfl rfl rfl ?_
          refine X.callv 51 [zi y5] [] [(0, zr g0 33), (1, zi y5)] i39_48 rfl (by decide) rfl rfl (by omega) rfl rfl (by decide) rfl t40 (Nat.le_of_ble_eq_true rfl) (Nat.le_of_ble_eq_true rfl) rfl ?_
          refine X.aload_n 1 i40_0 rfl rfl rfl ?_
          refine X.getI 4 3 i40_1 rfl rfl (by decide) rfl rfl rfl ?_
          refine X.iload_n 5 i40_4 rfl rfl rfl ?_
          refine X.iiF 6 .ishr (fun x y => x >>> (y &&& 31)) i40_5 rfl rfl rfl (fun _ _ => rfl) (fun z550 hz550 => ?_)
          refine X.iconst 7 i40_6 rfl rfl (by decide) ?_
          refine X.andF 8 1 i40_7 rfl rfl (by decide) (.inl rfl) (fun z551 hz551 => ?_)
          refine X.iconst 9 i40_8 rfl rfl (by decide) ?_
          refine X.icmpne 16 12 i40_9 rfl rfl rfl (fun h552 => ?_) (fun h552 => ?_)
          · refine X.cut [] i40_16 rfl ?_
            refine X.iconst 17 i40_16 rfl rfl (by decide) ?_
            refine X.retz i40_17 rfl t40 (by omega) ?_
            show X (EE s) d 39 51 [(0, zr g0 33), (1, zi y1), (2, zi y2), (4, zi y4), (5, zi y5), (6, zi 0)] [zi 0] m _
            refine X.ifne 81 54 i39_51 rfl rfl rfl (fun h553 => (by exfalso; omega)) (fun h553 => ?_)
            refine X.iload 56 i39_54 rfl rfl rfl ?_
            refine X.ifeq 81 59 i39_56 rfl rfl rfl (fun h554 => ?_) (fun h554 => (by exfalso; omega))
            refine X.cut [(0, zr g0 33), (1, zi y1), (2, zi y2), (4, zi y4), (5, zi y5)] i39_81 rfl ?_
            refine X.iinc 84 [(0, zr g0 33), (1, zi y1), (2, zi y2), (4, zi y4), (5, zi (y5 + 1))] i39_81 rfl rfl rfl (by omega) rfl ?_
            refine X.goto 6 i39_84 rfl rfl ?_
            exact ih y4 (y5 + 1) (by omega) (by omega) (by omega) (by omega) (by omega)
          · refine X.iconst 13 i40_12 rfl rfl (by decide) ?_
            refine X.goto 17 i40_13 rfl rfl ?_
            refine X.cut [] i40_17 rfl ?_
            refine X.retz i40_17 rfl t40 (by omega) ?_
            show X (EE s) d 39 51 [(0, zr g0 33), (1, zi y1), (2, zi y2), (4, zi y4), (5, zi y5), (6, zi 0)] [zi 1] m _
            refine X.ifne 81 54 i39_51 rfl rfl rfl (fun h555 => ?_) (fun h555 => (by exfalso; omega))
            refine X.cut [(0, zr g0 33), (1, zi y1), (2, zi y2), (4, zi y4), (5, zi y5)] i39_81 rfl ?_
            refine X.iinc 84 [(0, zr g0 33), (1, zi y1), (2, zi y2), (4, zi y4), (5, zi (y5 + 1))] i39_81 rfl rfl rfl (by omega) rfl ?_
            refine X.goto 6 i39_84 rfl rfl ?_
            exact ih y4 (y5 + 1) (by omega) (by omega) (by omega) (by omega) (by omega)
        · refine X.iconst 13 i40_12 rfl rfl (by decide) ?_
          refine X.goto 17 i40_13 rfl rfl ?_
          refine X.cut [] i40_17 rfl ?_
          refine X.retz i40_17 rfl t40 (by omega) ?_
          show X (EE s) d 39 35 [(0, zr g0 33), (1, zi y1), (2, zi y2), (4, zi y4), (5, zi y5), (6, zi 0)] [zi 1] m _
          refine X.ifeq 45 38 i39_35 rfl rfl rfl (fun h556 => (by exfalso; omega)) (fun h556 => ?_)
          refine X.iload 40 i39_38 rfl rfl rfl ?_
          refine X.ifne 45 43 i39_40 rfl rfl rfl (fun h557 => (by exfalso; omega)) (fun h557 => ?_)
          exact K43 y4 y5 0 (by first | trivial | omega) (by first | trivial | omega) (by first | trivial | omega) (by omega) (by omega)
      · refine X.iconst 23 i39_22 rfl rfl (by decide) ?_
        refine X.goto 27 i39_23 rfl rfl ?_
        refine X.istore 29 [(0, zr g0 33), (1, zi y1), (2, zi y2), (4, zi y4), (5, zi y5), (6, zi 1)] i39_27 rfl rfl rfl ?_
        refine X.aload_n 30 i39_29 rfl rfl rfl ?_
        refine X.iload 32 i39_30 rfl rfl rfl ?_
        refine X.callv 35 [zi y5] [] [(0, zr g0 33), (1, zi y5)] i39_32 rfl (by decide) rfl rfl (by omega) rfl rfl (by decide) rfl t40 (Nat.le_of_ble_eq_true rfl) (Nat.le_of_ble_eq_true rfl) rfl ?_
        refine X.aload_n 1 i40_0 rfl rfl rfl ?_
        refine X.getIr 4 3 i40_1 rfl rfl (by decide) rfl rfl rfl (fun h558 => ?_)
        refine X.iload_n 5 i40_4 rfl rfl rfl ?_
        refine X.iiF 6 .ishr (fun x y => x >>> (y &&& 31)) i40_5 rfl rfl rfl (fun _ _ => rfl) (fun z559 hz559 => ?_)
        refine X.iconst 7 i40_6 rfl rfl (by decide) ?_
        refine X.andF 8 1 i40_7 rfl rfl (by decide) (.inl rfl) (fun z560 hz560 => ?_)
        refine X.iconst 9 i40_8 rfl rfl (by decide) ?_
        refine X.icmpne 16 12 i40_9 rfl rfl rfl (fun h561 => ?_) (fun h561 => ?_)
        · refine X.cut [] i40_16 rfl ?_
          refine X.iconst 17 i40_16 rfl rfl (by decide) ?_
          refine X.retz i40_17 rfl t40 (by omega) ?_
          show X (EE s) d 39 35 [(0, zr g0 33), (1, zi y1), (2, zi y2), (4, zi y4), (5, zi y5), (6, zi 1)] [zi 0] m _
          refine X.ifeq 45 38 i39_35 rfl rfl rfl (fun h562 => ?_) (fun h562 => (by exfalso; omega))
          refine X.aload_n 46 i39_45 rfl rfl rfl ?_
          refine X.iload 48 i39_46 rfl rfl rfl ?_
          refine X.callv 51 [zi y5] [] [(0, zr g0 33), (1, zi y5)] i39_48 rfl (by decide) rfl rfl (by omega) rfl rfl (by decide) rfl t40 (Nat.le_of_ble_eq_true rfl) (Nat.le_of_ble_eq_true rfl) rfl ?_
          refine X.aload_n 1 i40_0 rfl rfl rfl ?_
          refine X.getI 4 3 i40_1 rfl rfl (by decide) rfl rfl rfl ?_
          refine X.iload_n 5 i40_4 rfl rfl rfl ?_
          refine X.iiF 6 .ishr (fun x y => x >>> (y &&& 31)) i40_5 rfl rfl rfl (fun _ _ => rfl) (fun z563 hz563 => ?_)
          refine X.iconst 7 i40_6 rfl rfl (by decide) ?_
          refine X.andF 8 1 i40_7 rfl rfl (by decide) (.inl rfl) (fun z564 hz564 => ?_)
          refine X.iconst 9 i40_8 rfl rfl (by decide) ?_
          refine X.icmpne 16 12 i40_9 rfl rfl rfl (fun h565 => ?_) (fun h565 => ?_)
          · refine X.cut [] i40_16 rfl ?_
            refine X.iconst 17 i40_16 rfl rfl (by decide) ?_
            refine X.retz i40_17 rfl t40 (by omega) ?_
            show X (EE s) d 39 51 [(0, zr g0 33), (1, zi y1), (2, zi y2), (4, zi y4), (5, zi y5), (6, zi 1)] [zi 0] m _
            refine X.ifne 81 54 i39_51 rfl rfl rfl (fun h566 => (by exfalso; omega)) (fun h566 => ?_)
            refine X.iload 56 i39_54 rfl rfl rfl ?_
            refine X.ifeq 81 59 i39_56 rfl rfl rfl (fun h567 => (by exfalso; omega)) (fun h567 => ?_)
            refine X.iload 61 i39_59 rfl rfl rfl ?_
            refine X.iconst 62 i39_61 rfl rfl (by decide) ?_
            refine X.iload_n 63 i39_62 rfl rfl rfl ?_
            refine X.iconst 64 i39_63 rfl rfl (by decide) ?_
            refine X.iadd 65 i39_64 rfl rfl (by omega) ?_
            refine X.aload_n 66 i39_65 rfl rfl rfl ?_
            refine X.getR 69 i39_66 rfl rfl (by decide) rfl rfl ?_
            refine X.iload 71 i39_69 rfl rfl rfl ?_
            refine X.ialdr 72 i39_71 rfl rfl (by decide) rfl (by omega) (fun h568 => ?_)
            refine X.iiF 73 .isub (fun x y => x - y) i39_72 rfl rfl rfl (fun _ _ => rfl) (fun z569 hz569 => ?_)
            refine X.maxI 76 i39_73 rfl rfl (by omega) (Nat.le_of_ble_eq_true rfl) ?_
            refine X.minI 79 i39_76 rfl rfl (by omega) (Nat.le_of_ble_eq_true rfl) ?_
            refine X.istore 81 [(0, zr g0 33), (1, zi y1), (2, zi y2), (4, zi (min y4 (max 1 z569))), (5, zi y5), (6, zi 1)] i39_79 rfl rfl rfl ?_
            refine X.cut [(0, zr g0 33), (1, zi y1), (2, zi y2), (4, zi (min y4 (max 1 z569))), (5, zi y5)] i39_81 rfl ?_
            refine X.iinc 84 [(0, zr g0 33), (1, zi y1), (2, zi y2), (4, zi (min y4 (max 1 z569))), (5, zi (y5 + 1))] i39_81 rfl rfl rfl (by omega) rfl ?_
            refine X.goto 6 i39_84 rfl rfl ?_
            exact ih (min y4 (max 1 z569)) (y5 + 1) (by omega) (by omega) (by omega) (by omega) (by omega)
          · refine X.iconst 13 i40_12 rfl rfl (by decide) ?_
            refine X.goto 17 i40_13 rfl rfl ?_
            refine X.cut [] i40_17 rfl ?_
            refine X.retz i40_17 rfl t40 (by omega) ?_
            show X (EE s) d 39 51 [(0, zr g0 33), (1, zi y1), (2, zi y2), (4, zi y4), (5, zi y5), (6, zi 1)] [zi 1] m _
            refine X.ifne 81 54 i39_51 rfl rfl rfl (fun h570 => ?_) (fun h570 => (by exfalso; omega))
            refine X.cut [(0, zr g0 33), (1, zi y1), (2, zi y2), (4, zi y4), (5, zi y5)] i39_81 rfl ?_
            refine X.iinc 84 [(0, zr g0 33), (1, zi y1), (2, zi y2), (4, zi y4), (5, zi (y5 + 1))] i39_81 rfl rfl rfl (by omega) rfl ?_
            refine X.goto 6 i39_84 rfl rfl ?_
            exact ih y4 (y5 + 1) (by omega) (by omega) (by omega) (by omega) (by omega)
        · refine X.iconst 13 i40_12 rfl rfl (by decide) ?_
          refine X.goto 17 i40_13 rfl rfl ?_
          refine X.cut [] i40_17 rfl ?_
          refine X.retz i40_17 rfl t40 (by omega) ?_
          show X (EE s) d 39 35 [(0, zr g0 33), (1, zi y1), (2, zi y2), (4, zi y4), (5, zi y5), (6, zi 1)] [zi 1] m _
          refine X.ifeq 45 38 i39_35 rfl rfl rfl (fun h571 => (by exfalso; omega)) (fun h571 => ?_)
          refine X.iload 40 i39_38 rfl rfl rfl ?_
          refine X.ifne 45 43 i39_40 rfl rfl rfl (fun h572 => ?_) (fun h572 => (by exfalso; omega))
          refine X.aload_n 46 i39_45 rfl rfl rfl ?_
          refine X.iload 48 i39_46 rfl rfl rfl ?_
          refine X.callv 51 [zi y5] [] [(0, zr g0 33), (1, zi y5)] i39_48 rfl (by decide) rfl rfl (by omega) rfl rfl (by decide) rfl t40 (Nat.le_of_ble_eq_true rfl) (Nat.le_of_ble_eq_true rfl) rfl ?_
          refine X.aload_n 1 i40_0 rfl rfl rfl ?_
          refine X.getI 4 3 i40_1 rfl rfl (by decide) rfl rfl rfl ?_
          refine X.iload_n 5 i40_4 rfl rfl rfl ?_
          refine X.iiF 6 .ishr (fun x y => x >>> (y &&& 31)) i40_5 rfl rfl rfl (fun _ _ => rfl) (fun z573 hz573 => ?_)
          refine X.iconst 7 i40_6 rfl rfl (by decide) ?_
          refine X.andF 8 1 i40_7 rfl rfl (by decide) (.inl rfl) (fun z574 hz574 => ?_)
          refine X.iconst 9 i40_8 rfl rfl (by decide) ?_
          refine X.icmpne 16 12 i40_9 rfl rfl rfl (fun h575 => ?_) (fun h575 => ?_)
          · refine X.cut [] i40_16 rfl ?_
            refine X.iconst 17 i40_16 rfl rfl (by decide) ?_
            refine X.retz i40_17 rfl t40 (by omega) ?_
            show X (EE s) d 39 51 [(0, zr g0 33), (1, zi y1), (2, zi y2), (4, zi y4), (5, zi y5), (6, zi 1)] [zi 0] m _
            refine X.ifne 81 54 i39_51 rfl rfl rfl (fun h576 => (by exfalso; omega)) (fun h576 => ?_)
            refine X.iload 56 i39_54 rfl rfl rfl ?_
            refine X.ifeq 81 59 i39_56 rfl rfl rfl (fun h577 => (by exfalso; omega)) (fun h577 => ?_)
            refine X.iload 61 i39_59 rfl rfl rfl ?_
            refine X.iconst 62 i39_61 rfl rfl (by decide) ?_
            refine X.iload_n 63 i39_62 rfl rfl rfl ?_
            refine X.iconst 64 i39_63 rfl rfl (by decide) ?_
            refine X.iadd 65 i39_64 rfl rfl (by omega) ?_
            refine X.aload_n 66 i39_65 rfl rfl rfl ?_
            refine X.getR 69 i39_66 rfl rfl (by decide) rfl rfl ?_
            refine X.iload 71 i39_69 rfl rfl rfl ?_
            refine X.ialdr 72 i39_71 rfl rfl (by decide) rfl (by omega) (fun h578 => ?_)
            refine X.iiF 73 .isub (fun x y => x - y) i39_72 rfl rfl rfl (fun _ _ => rfl) (fun z579 hz579 => ?_)
            refine X.maxI 76 i39_73 rfl rfl (by omega) (Nat.le_of_ble_eq_true rfl) ?_
            refine X.minI 79 i39_76 rfl rfl (by omega) (Nat.le_of_ble_eq_true rfl) ?_
            refine X.istore 81 [(0, zr g0 33), (1, zi y1), (2, zi y2), (4, zi (min y4 (max 1 z579))), (5, zi y5), (6, zi 1)] i39_79 rfl rfl rfl ?_
            refine X.cut [(0, zr g0 33), (1, zi y1), (2, zi y2), (4, zi (min y4 (max 1 z579))), (5, zi y5)] i39_81 rfl ?_
            refine X.iinc 84 [(0, zr g0 33), (1, zi y1), (2, zi y2), (4, zi (min y4 (max 1 z579))), (5, zi (y5 + 1))] i39_81 rfl rfl rfl (by omega) rfl ?_
            refine X.goto 6 i39_84 rfl rfl ?_
            exact ih (min y4 (max 1 z579)) (y5 + 1) (by omega) (by omega) (by omega) (by omega) (by omega)
          · refine X.iconst 13 i40_12 rfl rfl (by decide) ?_
            refine X.goto 17 i40_13 rfl rfl ?_
            refine X.cut [] i40_17 rfl ?_
            refine X.retz i40_17 rfl t40 (by omega) ?_
            show X (EE s) d 39 51 [(0, zr g0 33), (1, zi y1), (2, zi y2), (4, zi y4), (5, zi y5), (6, zi 1)] [zi 1] m _
            refine X.ifne 81 54 i39_51 rfl rfl rfl (fun h580 => ?_) (fun h580 => (by exfalso; omega))
            refine X.cut [(0, zr g0 33), (1, zi y1), (2, zi y2), (4, zi y4), (5, zi y5)] i39_81 rfl ?_
            refine X.iinc 84 [(0, zr g0 33), (1, zi y1), (2, zi y2), (4, zi y4), (5, zi (y5 + 1))] i39_81 rfl rfl rfl (by omega) rfl ?_
            refine X.goto 6 i39_84 rfl rfl ?_
            exact ih y4 (y5 + 1) (by omega) (by omega) (by omega) (by omega) (by omega)
-- WorkMeter$Marks.secondsToTurn
theorem c39_1 {s : Nat × (Nat → Int32)} {S : zS} {m0 m : zM} {B : Int} {d : Nat} {Q : Option zV → zM → Prop} (g0 : Nat) (a1 a2 a3 : Int) (hd : 13 ≤ d) (hJ : J S m0 B m) (hB : B + 0 ≤ 1000000000) (ha1 : (-2147483648) ≤ a1 ∧ a1 ≤ 2147483647) (ha2 : 0 ≤ a2 ∧ a2 ≤ 1000000) (ha3 : (-1999999999) ≤ a3 ∧ a3 ≤ 3600) (hp0 : 1 ≤ a3) (hQ : ∀ (v : Int), ((-1999999999) ≤ v ∧ v ≤ 3600) → (1 ≤ v) → (v ≤ a3) → Q (some (zi v)) m) : X (EE s) d 39 0 [(0, zr g0 33), (1, zi a1), (2, zi a2), (3, zi a3)] [] m Q := by
  refine X.iload_n 1 i39_0 rfl rfl rfl ?_
  refine X.istore 3 [(0, zr g0 33), (1, zi a1), (2, zi a2), (3, zi a3), (4, zi a3)] i39_1 rfl rfl rfl ?_
  refine X.iconst 4 i39_3 rfl rfl (by decide) ?_
  refine X.istore 6 [(0, zr g0 33), (1, zi a1), (2, zi a2), (3, zi a3), (4, zi a3), (5, zi 2)] i39_4 rfl rfl rfl ?_
  refine X.cut [(0, zr g0 33), (1, zi a1), (2, zi a2), (4, zi a3), (5, zi 2)] i39_6 rfl ?_
  refine l39_6_1 (s := s) (S := S) (m0 := m0) (m := m) (B := B) (d := d) g0 a1 a2 a3 (by omega) (hJ.up (by omega)) (by omega) (by omega) (by omega) (by omega) (fun y501 y502 y503 hby501 hby502 hby503 hrlm5040 hrlm5041 => ?_) (fun y507 hby507 hrlm5080 hrlm5081 => ?_) ((5 - 2 : Int).toNat + 1) a3 2 (by omega) (by omega) (by omega) (by omega) (by omega)
  · refine X.iconst 44 i39_43 rfl rfl (by decide) ?_
    refine X.reti i39_44 rfl t39 ?_
    exact hQ 1 (by first | trivial | omega) (by omega) (by omega)
  · refine X.iload 89 i39_87 rfl rfl rfl ?_
    refine X.reti i39_89 rfl t39 ?_
    exact hQ y507 (by first | trivial | omega) (by omega) (by omega)
-- WorkMeter$Meter.isCreeping
theorem c44_1 {s : Nat × (Nat → Int32)} {S : zS} {m0 m : zM} {B : Int} {d : Nat} {Q : Option zV → zM → Prop} (g0 : Nat) (hd : 13 ≤ d) (hJ : J S m0 B m) (hB : B + 0 ≤ 1000000000) (hQ : ∀ (v : Int), (0 ≤ v ∧ v ≤ 1) → Q (some (zi v)) m) : X (EE s) d 44 0 [(0, zr g0 8)] [] m Q := by
  refine X.aload_n 1 i44_0 rfl rfl rfl ?_
  refine X.getR 4 i44_1 rfl rfl (by decide) rfl rfl ?_
  refine X.callv 7 [] [] [(0, zr g0 9)] i44_4 rfl (by decide) rfl rfl (by omega) rfl rfl (by decide) rfl t45 (Nat.le_of_ble_eq_true rfl) (Nat.le_of_ble_eq_true rfl) rfl ?_
  refine X.aload_n 1 i45_0 rfl rfl rfl ?_
  refine X.getR 4 i45_1 rfl rfl (by decide) rfl rfl ?_
  refine X.iconst 5 i45_4 rfl rfl (by decide) ?_
  refine X.iald 6 i45_5 rfl rfl (by decide) rfl (by omega) ?_
  have h501 := r10_0 hJ g0 (i := 0) (by omega)
  refine X.reti i45_6 rfl t45 ?_
  show X (EE s) d 44 7 [(0, zr g0 8)] [zi (m g0 10 0)] m _
  refine X.istore_n 8 [(0, zr g0 8), (1, zi (m g0 10 0))] i44_7 rfl rfl rfl ?_
  refine X.aload_n 9 i44_8 rfl rfl rfl ?_
  refine X.getZ 12 12 i44_9 rfl rfl (by decide) rfl rfl rfl (fun h502 => ?_)
  refine X.ifeq 19 15 i44_12 rfl rfl rfl (fun h503 => ?_) (fun h503 => ?_)
  · refine X.aload_n 20 i44_19 rfl rfl rfl ?_
    refine X.getR 23 i44_20 rfl rfl (by decide) rfl rfl ?_
    refine X.callv 26 [] [] [(0, zr g0 19)] i44_23 rfl (by decide) rfl rfl (by omega) rfl rfl (by decide) rfl t42 (Nat.le_of_ble_eq_true rfl) (Nat.le_of_ble_eq_true rfl) rfl ?_
    refine X.aload_n 1 i42_0 rfl rfl rfl ?_
    refine X.getR 4 i42_1 rfl rfl (by decide) rfl rfl ?_
    refine X.iconst 5 i42_4 rfl rfl (by decide) ?_
    refine X.lald 6 i42_5 rfl rfl (by decide) rfl (by omega) ?_
    refine X.retl i42_6 rfl t42 ?_
    show X (EE s) d 44 26 [(0, zr g0 8), (1, zi (m g0 10 0))] [zl (m g0 22 3)] m _
    refine X.lstore_n 27 [(0, zr g0 8), (1, zi (m g0 10 0)), (2, zl (m g0 22 3))] i44_26 rfl rfl rfl ?_
    refine X.aload_n 28 i44_27 rfl rfl rfl ?_
    refine X.getZ 31 12 i44_28 rfl rfl (by decide) rfl rfl rfl (fun h504 => ?_)
    refine X.ifeq 38 34 i44_31 rfl rfl rfl (fun h505 => ?_) (fun h505 => ?_)
    · refine X.aload_n 39 i44_38 rfl rfl rfl ?_
      refine X.getR 42 i44_39 rfl rfl (by decide) rfl rfl ?_
      refine X.callv 45 [] [] [(0, zr g0 19)] i44_42 rfl (by decide) rfl rfl (by omega) rfl rfl (by decide) rfl t46 (Nat.le_of_ble_eq_true rfl) (Nat.le_of_ble_eq_true rfl) rfl ?_
      refine X.aload_n 1 i46_0 rfl rfl rfl ?_
      refine X.getR 4 i46_1 rfl rfl (by decide) rfl rfl ?_
      refine X.bipush 6 i46_4 rfl rfl (by decide) ?_
      refine X.lald 7 i46_6 rfl rfl (by decide) rfl (by omega) ?_
      refine X.retl i46_7 rfl t46 ?_
      show X (EE s) d 44 45 [(0, zr g0 8), (1, zi (m g0 10 0)), (2, zl (m g0 22 3))] [zl (m g0 22 7)] m _
      refine X.cut [(1, zi (m g0 10 0)), (2, zl (m g0 22 3))] i44_45 rfl ?_
      refine X.lstore 47 [(1, zi (m g0 10 0)), (2, zl (m g0 22 3)), (4, zl (m g0 22 7))] i44_45 rfl rfl rfl ?_
      refine X.lload_n 48 i44_47 rfl rfl rfl ?_
      refine X.absF 51 i44_48 rfl rfl (by omega) (Nat.le_of_ble_eq_true rfl) (fun z506 hz506 => ?_)
      refine X.iload_n 52 i44_51 rfl rfl rfl ?_
      refine X.i2l 53 i44_52 rfl rfl ?_
      refine X.lcmp 54 i44_53 rfl rfl (fun z507 hz507 => ?_)
      refine X.ifge 72 57 i44_54 rfl rfl rfl (fun h508 => ?_) (fun h508 => ?_)
      · have h508c : z506 ≥ (m g0 10 0) := by omega
        clear h508 hz507
        refine X.cut [] i44_72 rfl ?_
        refine X.iconst 73 i44_72 rfl rfl (by decide) ?_
        refine X.retz i44_73 rfl t44 (by omega) ?_
        exact hQ 0 (by first | trivial | omega) 
      · have h508c : z506 < (m g0 10 0) := by omega
        clear h508 hz507
        refine X.lload 59 i44_57 rfl rfl rfl ?_
        refine X.absF 62 i44_59 rfl rfl (by omega) (Nat.le_of_ble_eq_true rfl) (fun z509 hz509 => ?_)
        refine X.iload_n 63 i44_62 rfl rfl rfl ?_
        refine X.i2l 64 i44_63 rfl rfl ?_
        refine X.lcmp 65 i44_64 rfl rfl (fun z510 hz510 => ?_)
        refine X.ifge 72 68 i44_65 rfl rfl rfl (fun h511 => ?_) (fun h511 => ?_)
        · have h511c : z509 ≥ (m g0 10 0) := by omega
          clear h511 hz510
          refine X.cut [] i44_72 rfl ?_
          refine X.iconst 73 i44_72 rfl rfl (by decide) ?_
          refine X.retz i44_73 rfl t44 (by omega) ?_
          exact hQ 0 (by first | trivial | omega) 
        · have h511c : z509 < (m g0 10 0) := by omega
          clear h511 hz510
          refine X.iconst 69 i44_68 rfl rfl (by decide) ?_
          refine X.goto 73 i44_69 rfl rfl ?_
          refine X.cut [] i44_73 rfl ?_
          refine X.retz i44_73 rfl t44 (by omega) ?_
          exact hQ 1 (by first | trivial | omega) 
    · refine X.lconst (y := 0) 35 i44_34 rfl rfl rfl ?_
      refine X.goto 45 i44_35 rfl rfl ?_
      refine X.cut [(1, zi (m g0 10 0)), (2, zl (m g0 22 3))] i44_45 rfl ?_
      refine X.lstore 47 [(1, zi (m g0 10 0)), (2, zl (m g0 22 3)), (4, zl 0)] i44_45 rfl rfl rfl ?_
      refine X.lload_n 48 i44_47 rfl rfl rfl ?_
      refine X.absF 51 i44_48 rfl rfl (by omega) (Nat.le_of_ble_eq_true rfl) (fun z512 hz512 => ?_)
      refine X.iload_n 52 i44_51 rfl rfl rfl ?_
      refine X.i2l 53 i44_52 rfl rfl ?_
      refine X.lcmp 54 i44_53 rfl rfl (fun z513 hz513 => ?_)
      refine X.ifge 72 57 i44_54 rfl rfl rfl (fun h514 => ?_) (fun h514 => ?_)
      · have h514c : z512 ≥ (m g0 10 0) := by omega
        clear h514 hz513
        refine X.cut [] i44_72 rfl ?_
        refine X.iconst 73 i44_72 rfl rfl (by decide) ?_
        refine X.retz i44_73 rfl t44 (by omega) ?_
        exact hQ 0 (by first | trivial | omega) 
      · have h514c : z512 < (m g0 10 0) := by omega
        clear h514 hz513
        refine X.lload 59 i44_57 rfl rfl rfl ?_
        refine X.absF 62 i44_59 rfl rfl (by omega) (Nat.le_of_ble_eq_true rfl) (fun z515 hz515 => ?_)
        refine X.iload_n 63 i44_62 rfl rfl rfl ?_
        refine X.i2l 64 i44_63 rfl rfl ?_
        refine X.lcmp 65 i44_64 rfl rfl (fun z516 hz516 => ?_)
        refine X.ifge 72 68 i44_65 rfl rfl rfl (fun h517 => ?_) (fun h517 => ?_)
        · have h517c : z515 ≥ (m g0 10 0) := by omega
          clear h517 hz516
          refine X.cut [] i44_72 rfl ?_
          refine X.iconst 73 i44_72 rfl rfl (by decide) ?_
          refine X.retz i44_73 rfl t44 (by omega) ?_
          exact hQ 0 (by first | trivial | omega) 
        · have h517c : z515 < (m g0 10 0) := by omega
          clear h517 hz516
          refine X.iconst 69 i44_68 rfl rfl (by decide) ?_
          refine X.goto 73 i44_69 rfl rfl ?_
          refine X.cut [] i44_73 rfl ?_
          refine X.retz i44_73 rfl t44 (by omega) ?_
          exact hQ 1 (by first | trivial | omega) 
  · refine X.lconst (y := 0) 16 i44_15 rfl rfl rfl ?_
    refine X.goto 26 i44_16 rfl rfl ?_
    refine X.lstore_n 27 [(0, zr g0 8), (1, zi (m g0 10 0)), (2, zl 0)] i44_26 rfl rfl rfl ?_
    refine X.aload_n 28 i44_27 rfl rfl rfl ?_
    refine X.getZ 31 12 i44_28 rfl rfl (by decide) rfl rfl rfl (fun h518 => ?_)
    refine X.ifeq 38 34 i44_31 rfl rfl rfl (fun h519 => ?_) (fun h519 => ?_)
    · refine X.aload_n 39 i44_38 rfl rfl rfl ?_
      refine X.getR 42 i44_39 rfl rfl (by decide) rfl rfl ?_
      refine X.callv 45 [] [] [(0, zr g0 19)] i44_42 rfl (by decide) rfl rfl (by omega) rfl rfl (by decide) rfl t46 (Nat.le_of_ble_eq_true rfl) (Nat.le_of_ble_eq_true rfl) rfl ?_
      refine X.aload_n 1 i46_0 rfl rfl rfl ?_
      refine X.getR 4 i46_1 rfl rfl (by decide) rfl rfl ?_
      refine X.bipush 6 i46_4 rfl rfl (by decide) ?_
      refine X.lald 7 i46_6 rfl rfl (by decide) rfl (by omega) ?_
      refine X.retl i46_7 rfl t46 ?_
      show X (EE s) d 44 45 [(0, zr g0 8), (1, zi (m g0 10 0)), (2, zl 0)] [zl (m g0 22 7)] m _
      refine X.cut [(1, zi (m g0 10 0)), (2, zl 0)] i44_45 rfl ?_
      refine X.lstore 47 [(1, zi (m g0 10 0)), (2, zl 0), (4, zl (m g0 22 7))] i44_45 rfl rfl rfl ?_
      refine X.lload_n 48 i44_47 rfl rfl rfl ?_
      refine X.absF 51 i44_48 rfl rfl (by omega) (Nat.le_of_ble_eq_true rfl) (fun z520 hz520 => ?_)
      refine X.iload_n 52 i44_51 rfl rfl rfl ?_
      refine X.i2l 53 i44_52 rfl rfl ?_
      refine X.lcmp 54 i44_53 rfl rfl (fun z521 hz521 => ?_)
      refine X.ifge 72 57 i44_54 rfl rfl rfl (fun h522 => ?_) (fun h522 => ?_)
      · have h522c : z520 ≥ (m g0 10 0) := by omega
        clear h522 hz521
        refine X.cut [] i44_72 rfl ?_
        refine X.iconst 73 i44_72 rfl rfl (by decide) ?_
        refine X.retz i44_73 rfl t44 (by omega) ?_
        exact hQ 0 (by first | trivial | omega) 
      · have h522c : z520 < (m g0 10 0) := by omega
        clear h522 hz521
        refine X.lload 59 i44_57 rfl rfl rfl ?_
        refine X.absF 62 i44_59 rfl rfl (by omega) (Nat.le_of_ble_eq_true rfl) (fun z523 hz523 => ?_)
        refine X.iload_n 63 i44_62 rfl rfl rfl ?_
        refine X.i2l 64 i44_63 rfl rfl ?_
        refine X.lcmp 65 i44_64 rfl rfl (fun z524 hz524 => ?_)
        refine X.ifge 72 68 i44_65 rfl rfl rfl (fun h525 => ?_) (fun h525 => ?_)
        · have h525c : z523 ≥ (m g0 10 0) := by omega
          clear h525 hz524
          refine X.cut [] i44_72 rfl ?_
          refine X.iconst 73 i44_72 rfl rfl (by decide) ?_
          refine X.retz i44_73 rfl t44 (by omega) ?_
          exact hQ 0 (by first | trivial | omega) 
        · have h525c : z523 < (m g0 10 0) := by omega
          clear h525 hz524
          refine X.iconst 69 i44_68 rfl rfl (by decide) ?_
          refine X.goto 73 i44_69 rfl rfl ?_
          refine X.cut [] i44_73 rfl ?_
          refine X.retz i44_73 rfl t44 (by omega) ?_
          exact hQ 1 (by first | trivial | omega) 
    · refine X.lconst (y := 0) 35 i44_34 rfl rfl rfl ?_
      refine X.goto 45 i44_35 rfl rfl ?_
      refine X.cut [(1, zi (m g0 10 0)), (2, zl 0)] i44_45 rfl ?_
      refine X.lstore 47 [(1, zi (m g0 10 0)), (2, zl 0), (4, zl 0)] i44_45 rfl rfl rfl ?_
      refine X.lload_n 48 i44_47 rfl rfl rfl ?_
      refine X.absF 51 i44_48 rfl rfl (by omega) (Nat.le_of_ble_eq_true rfl) (fun z526 hz526 => ?_)
      refine X.iload_n 52 i44_51 rfl rfl rfl ?_
      refine X.i2l 53 i44_52 rfl rfl ?_
      refine X.lcmp 54 i44_53 rfl rfl (fun z527 hz527 => ?_)
      refine X.ifge 72 57 i44_54 rfl rfl rfl (fun h528 => ?_) (fun h528 => ?_)
      · have h528c : z526 ≥ (m g0 10 0) := by omega
        clear h528 hz527
        refine X.cut [] i44_72 rfl ?_
        refine X.iconst 73 i44_72 rfl rfl (by decide) ?_
        refine X.retz i44_73 rfl t44 (by omega) ?_
        exact hQ 0 (by first | trivial | omega) 
      · have h528c : z526 < (m g0 10 0) := by omega
        clear h528 hz527
        refine X.lload 59 i44_57 rfl rfl rfl ?_
        refine X.absF 62 i44_59 rfl rfl (by omega) (Nat.le_of_ble_eq_true rfl) (fun z529 hz529 => ?_)
        refine X.iload_n 63 i44_62 rfl rfl rfl ?_
        refine X.i2l 64 i44_63 rfl rfl ?_
        refine X.lcmp 65 i44_64 rfl rfl (fun z530 hz530 => ?_)
        refine X.ifge 72 68 i44_65 rfl rfl rfl (fun h531 => ?_) (fun h531 => ?_)
        · have h531c : z529 ≥ (m g0 10 0) := by omega
          clear h531 hz530
          refine X.cut [] i44_72 rfl ?_
          refine X.iconst 73 i44_72 rfl rfl (by decide) ?_
          refine X.retz i44_73 rfl t44 (by omega) ?_
          exact hQ 0 (by first | trivial | omega) 
        · have h531c : z529 < (m g0 10 0) := by omega
          clear h531 hz530
          refine X.iconst 69 i44_68 rfl rfl (by decide) ?_
          refine X.goto 73 i44_69 rfl rfl ?_
          refine X.cut [] i44_73 rfl ?_
          refine X.retz i44_73 rfl t44 (by omega) ?_
          exact hQ 1 (by first | trivial | omega) 
-- WorkMeter$Meter.secondsToOpen
theorem c41_1 {s : Nat × (Nat → Int32)} {S : zS} {m0 m : zM} {B : Int} {d : Nat} {Q : Option zV → zM → Prop} (g0 : Nat) (a1 a2 : Int) (hd : 14 ≤ d) (hJ : J S m0 B m) (hB : B + 0 ≤ 1000000000) (ha1 : 0 ≤ a1 ∧ a1 ≤ 3) (ha2 : (-1999999999) ≤ a2 ∧ a2 ≤ 3600) (hp0 : 1 ≤ a2) (hQ : ∀ (v : Int), ((-1999999999) ≤ v ∧ v ≤ 3600) → (1 ≤ v) → (v ≤ a2) → Q (some (zi v)) m) : X (EE s) d 41 0 [(0, zr g0 8), (1, zi a1), (2, zi a2)] [] m Q := by
  refine X.aload_n 1 i41_0 rfl rfl rfl ?_
  refine X.getR 4 i41_1 rfl rfl (by decide) rfl rfl ?_
  refine X.callv 7 [] [] [(0, zr g0 19)] i41_4 rfl (by decide) rfl rfl (by omega) rfl rfl (by decide) rfl t42 (Nat.le_of_ble_eq_true rfl) (Nat.le_of_ble_eq_true rfl) rfl ?_
  refine X.aload_n 1 i42_0 rfl rfl rfl ?_
  refine X.getR 4 i42_1 rfl rfl (by decide) rfl rfl ?_
  refine X.iconst 5 i42_4 rfl rfl (by decide) ?_
  refine X.lald 6 i42_5 rfl rfl (by decide) rfl (by omega) ?_
  refine X.retl i42_6 rfl t42 ?_
  show X (EE s) d 41 7 [(0, zr g0 8), (1, zi a1), (2, zi a2)] [zl (m g0 22 3)] m _
  refine X.lstore_n 8 [(0, zr g0 8), (1, zi a1), (2, zi a2), (3, zl (m g0 22 3))] i41_7 rfl rfl rfl ?_
  refine X.aload_n 9 i41_8 rfl rfl rfl ?_
  refine X.getR 12 i41_9 rfl rfl (by decide) rfl rfl ?_
  refine X.iload_n 13 i41_12 rfl rfl rfl ?_
  refine X.callv 16 [zi a1] [] [(0, zr g0 9), (1, zi a1)] i41_13 rfl (by decide) rfl rfl (by omega) rfl rfl (by decide) rfl t43 (Nat.le_of_ble_eq_true rfl) (Nat.le_of_ble_eq_true rfl) rfl ?_
  refine X.aload_n 1 i43_0 rfl rfl rfl ?_
  refine X.getR 4 i43_1 rfl rfl (by decide) rfl rfl ?_
  refine X.bipush 6 i43_4 rfl rfl (by decide) ?_
  refine X.iload_n 7 i43_6 rfl rfl rfl ?_
  refine X.iadd 8 i43_7 rfl rfl (by omega) ?_
  refine X.iald 9 i43_8 rfl rfl (by decide) rfl (by omega) ?_
  have h501 := r10_6 hJ g0 (i := (6 + a1)) (by omega)
  refine X.reti i43_9 rfl t43 ?_
  show X (EE s) d 41 16 [(0, zr g0 8), (1, zi a1), (2, zi a2), (3, zl (m g0 22 3))] [zi (m g0 10 (6 + a1))] m _
  refine X.istore 18 [(0, zr g0 8), (1, zi a1), (2, zi a2), (3, zl (m g0 22 3)), (5, zi (m g0 10 (6 + a1)))] i41_16 rfl rfl rfl ?_
  refine X.aload_n 19 i41_18 rfl rfl rfl ?_
  refine X.getZ 22 11 i41_19 rfl rfl (by decide) rfl rfl rfl (fun h502 => ?_)
  refine X.ifeq 50 25 i41_22 rfl rfl rfl (fun h503 => ?_) (fun h503 => ?_)
  · refine X.cut [(2, zi a2)] i41_50 rfl ?_
    refine X.iload_n 51 i41_50 rfl rfl rfl ?_
    refine X.reti i41_51 rfl t41 ?_
    exact hQ a2 (by first | trivial | omega) (by omega) (by omega)
  · refine X.aload_n 26 i41_25 rfl rfl rfl ?_
    refine X.getZ 29 12 i41_26 rfl rfl (by decide) rfl rfl rfl (fun h504 => ?_)
    refine X.ifne 50 32 i41_29 rfl rfl rfl (fun h505 => ?_) (fun h505 => ?_)
    · refine X.cut [(2, zi a2)] i41_50 rfl ?_
      refine X.iload_n 51 i41_50 rfl rfl rfl ?_
      refine X.reti i41_51 rfl t41 ?_
      exact hQ a2 (by first | trivial | omega) (by omega) (by omega)
    · refine X.lload_n 33 i41_32 rfl rfl rfl ?_
      refine X.lconst (y := 0) 34 i41_33 rfl rfl rfl ?_
      refine X.lcmp 35 i41_34 rfl rfl (fun z506 hz506 => ?_)
      refine X.ifle 50 38 i41_35 rfl rfl rfl (fun h507 => ?_) (fun h507 => ?_)
      · have h507c : (m g0 22 3) ≤ 0 := by omega
        clear h507 hz506
        refine X.cut [(2, zi a2)] i41_50 rfl ?_
        refine X.iload_n 51 i41_50 rfl rfl rfl ?_
        refine X.reti i41_51 rfl t41 ?_
        exact hQ a2 (by first | trivial | omega) (by omega) (by omega)
      · have h507c : (m g0 22 3) > 0 := by omega
        clear h507 hz506
        refine X.iload 40 i41_38 rfl rfl rfl ?_
        refine X.ifle 50 43 i41_40 rfl rfl rfl (fun h508 => ?_) (fun h508 => ?_)
        · refine X.cut [(2, zi a2)] i41_50 rfl ?_
          refine X.iload_n 51 i41_50 rfl rfl rfl ?_
          refine X.reti i41_51 rfl t41 ?_
          exact hQ a2 (by first | trivial | omega) (by omega) (by omega)
        · refine X.aload_n 44 i41_43 rfl rfl rfl ?_
          refine X.callv 47 [] [] [(0, zr g0 8)] i41_44 rfl (by decide) rfl rfl (by omega) rfl rfl (by decide) rfl t44 (Nat.le_of_ble_eq_true rfl) (Nat.le_of_ble_eq_true rfl) rfl ?_
          refine c44_1 (B := B) g0  (by omega) (hJ.up (by omega)) (by omega)  (fun v511 hv511 => ?_)
          show X (EE s) d 41 47 [(0, zr g0 8), (1, zi a1), (2, zi a2), (3, zl (m g0 22 3)), (5, zi (m g0 10 (6 + a1)))] [zi v511] m _
          refine X.ifeq 52 50 i41_47 rfl rfl rfl (fun h512 => ?_) (fun h512 => ?_)
          · refine X.aload_n 53 i41_52 rfl rfl rfl ?_
            refine X.getL 56 10 i41_53 rfl rfl (by decide) rfl rfl rfl ?_
            refine X.iload 58 i41_56 rfl rfl rfl ?_
            refine X.i2l 59 i41_58 rfl rfl ?_
            refine X.llF 60 .ladd (fun x y => x + y) i41_59 rfl rfl rfl (fun _ _ => rfl) (fun z513 hz513 => ?_)
            refine X.lconst (y := 1) 61 i41_60 rfl rfl rfl ?_
            refine X.llF 62 .lsub (fun x y => x - y) i41_61 rfl rfl rfl (fun _ _ => rfl) (fun z514 hz514 => ?_)
            refine X.iload 64 i41_62 rfl rfl rfl ?_
            refine X.i2l 65 i41_64 rfl rfl ?_
            refine X.ldivF 66 i41_65 rfl rfl (by omega) (fun z515 => ?_)
            refine X.lstore 68 [(0, zr g0 8), (1, zi a1), (2, zi a2), (3, zl (m g0 22 3)), (5, zi (m g0 10 (6 + a1))), (6, zl z515)] i41_66 rfl rfl rfl ?_
            refine X.aload_n 69 i41_68 rfl rfl rfl ?_
            refine X.getR 72 i41_69 rfl rfl (by decide) rfl rfl ?_
            refine X.iload_n 73 i41_72 rfl rfl rfl ?_
            refine X.callv 76 [zi a1] [] [(0, zr g0 23), (1, zi a1)] i41_73 rfl (by decide) rfl rfl (by omega) rfl rfl (by decide) rfl t47 (Nat.le_of_ble_eq_true rfl) (Nat.le_of_ble_eq_true rfl) rfl ?_
            refine X.aload_n 1 i47_0 rfl rfl rfl ?_
            refine X.getR 4 i47_1 rfl rfl (by decide) rfl rfl ?_
            refine X.iconst 5 i47_4 rfl rfl (by decide) ?_
            refine X.iload_n 6 i47_5 rfl rfl rfl ?_
            refine X.iadd 7 i47_6 rfl rfl (by omega) ?_
            refine X.lald 8 i47_7 rfl rfl (by decide) rfl (by omega) ?_
            refine X.retl i47_8 rfl t47 ?_
            show X (EE s) d 41 76 [(0, zr g0 8), (1, zi a1), (2, zi a2), (3, zl (m g0 22 3)), (5, zi (m g0 10 (6 + a1))), (6, zl z515)] [zl (m g0 24 (0 + a1))] m _
            refine X.lstore 78 [(0, zr g0 8), (1, zi a1), (2, zi a2), (3, zl (m g0 22 3)), (5, zi (m g0 10 (6 + a1))), (6, zl z515), (8, zl (m g0 24 (0 + a1)))] i41_76 rfl rfl rfl ?_
            refine X.lload 80 i41_78 rfl rfl rfl ?_
            refine X.aload_n 81 i41_80 rfl rfl rfl ?_
            refine X.getR 84 i41_81 rfl rfl (by decide) rfl rfl ?_
            refine X.callv 87 [] [zl (m g0 24 (0 + a1))] [(0, zr g0 9)] i41_84 rfl (by decide) rfl rfl (by omega) rfl rfl (by decide) rfl t48 (Nat.le_of_ble_eq_true rfl) (Nat.le_of_ble_eq_true rfl) rfl ?_
            refine X.iconst 1 i48_0 rfl rfl (by decide) ?_
            refine X.aload_n 2 i48_1 rfl rfl rfl ?_
            refine X.getR 5 i48_2 rfl rfl (by decide) rfl rfl ?_
            refine X.iconst 6 i48_5 rfl rfl (by decide) ?_
            refine X.iald 7 i48_6 rfl rfl (by decide) rfl (by omega) ?_
            have h516 := r10_0 hJ g0 (i := 1) (by omega)
            refine X.maxI 10 i48_7 rfl rfl (by omega) (Nat.le_of_ble_eq_true rfl) ?_
            refine X.reti i48_10 rfl t48 ?_
            show X (EE s) d 41 87 [(0, zr g0 8), (1, zi a1), (2, zi a2), (3, zl (m g0 22 3)), (5, zi (m g0 10 (6 + a1))), (6, zl z515), (8, zl (m g0 24 (0 + a1)))] [zi (max 1 (m g0 10 1)), zl (m g0 24 (0 + a1))] m _
            refine X.i2l 88 i41_87 rfl rfl ?_
            refine X.ldivF 89 i41_88 rfl rfl (by omega) (fun z517 => ?_)
            refine X.lload 91 i41_89 rfl rfl rfl ?_
            refine X.llF 92 .ladd (fun x y => x + y) i41_91 rfl rfl rfl (fun _ _ => rfl) (fun z518 hz518 => ?_)
            refine X.aload_n 93 i41_92 rfl rfl rfl ?_
            refine X.getR 96 i41_93 rfl rfl (by decide) rfl rfl ?_
            refine X.callv 99 [] [zl z518] [(0, zr g0 9)] i41_96 rfl (by decide) rfl rfl (by omega) rfl rfl (by decide) rfl t48 (Nat.le_of_ble_eq_true rfl) (Nat.le_of_ble_eq_true rfl) rfl ?_
            refine X.iconst 1 i48_0 rfl rfl (by decide) ?_
            refine X.aload_n 2 i48_1 rfl rfl rfl ?_
            refine X.getR 5 i48_2 rfl rfl (by decide) rfl rfl ?_
            refine X.iconst 6 i48_5 rfl rfl (by decide) ?_
            refine X.iald 7 i48_6 rfl rfl (by decide) rfl (by omega) ?_
            refine X.maxI 10 i48_7 rfl rfl (by omega) (Nat.le_of_ble_eq_true rfl) ?_
            refine X.reti i48_10 rfl t48 ?_
            show X (EE s) d 41 99 [(0, zr g0 8), (1, zi a1), (2, zi a2), (3, zl (m g0 22 3)), (5, zi (m g0 10 (6 + a1))), (6, zl z515), (8, zl (m g0 24 (0 + a1)))] [zi (max 1 (m g0 10 1)), zl z518] m _
            refine X.i2l 100 i41_99 rfl rfl ?_
            refine X.llF 101 .lmul (fun x y => x * y) i41_100 rfl rfl rfl (fun _ _ => rfl) (fun z519 hz519 => ?_)
            refine X.lload 103 i41_101 rfl rfl rfl ?_
            refine X.llF 104 .lsub (fun x y => x - y) i41_103 rfl rfl rfl (fun _ _ => rfl) (fun z520 hz520 => ?_)
            refine X.lstore 106 [(0, zr g0 8), (1, zi a1), (2, zi a2), (3, zl (m g0 22 3)), (5, zi (m g0 10 (6 + a1))), (6, zl z515), (8, zl (m g0 24 (0 + a1))), (10, zl z520)] i41_104 rfl rfl rfl ?_
            refine X.lconst (y := 1) 107 i41_106 rfl rfl rfl ?_
            refine X.iload_n 108 i41_107 rfl rfl rfl ?_
            refine X.i2l 109 i41_108 rfl rfl ?_
            refine X.lload 111 i41_109 rfl rfl rfl ?_
            refine X.lload_n 112 i41_111 rfl rfl rfl ?_
            refine X.llF 113 .ladd (fun x y => x + y) i41_112 rfl rfl rfl (fun _ _ => rfl) (fun z521 hz521 => ?_)
            refine X.lconst (y := 1) 114 i41_113 rfl rfl rfl ?_
            refine X.llF 115 .lsub (fun x y => x - y) i41_114 rfl rfl rfl (fun _ _ => rfl) (fun z522 hz522 => ?_)
            refine X.lload_n 116 i41_115 rfl rfl rfl ?_
            refine X.ldivF 117 i41_116 rfl rfl (by omega) (fun z523 => ?_)
            refine X.minL 120 i41_117 rfl rfl (by omega) (Nat.le_of_ble_eq_true rfl) ?_
            refine X.maxL 123 i41_120 rfl rfl (by omega) (Nat.le_of_ble_eq_true rfl) ?_
            refine X.l2i 124 i41_123 rfl rfl (by omega) ?_
            refine X.reti i41_124 rfl t41 ?_
            exact hQ (max 1 (min a2 z523)) (by first | trivial | omega) (by omega) (by omega)
          · refine X.cut [(2, zi a2)] i41_50 rfl ?_
            refine X.iload_n 51 i41_50 rfl rfl rfl ?_
            refine X.reti i41_51 rfl t41 ?_
            exact hQ a2 (by first | trivial | omega) (by omega) (by omega)
-- WorkMeter$Meter.stretch
theorem c35_1 {s : Nat × (Nat → Int32)} {S : zS} {m0 m : zM} {B : Int} {d : Nat} {Q : Option zV → zM → Prop} (g0 : Nat) (a1 a2 a3 : Int) (hd : 16 ≤ d) (hJ : J S m0 B m) (hB : B + 0 ≤ 1000000000) (ha1 : 1 ≤ a1 ∧ a1 ≤ 3600) (ha2 : 0 ≤ a2 ∧ a2 ≤ 3) (ha3 : (-2147483648) ≤ a3 ∧ a3 ≤ 2147483647) (hp0 : 1 ≤ a1) (hQ : ∀ (v : Int), ((-1999999999) ≤ v ∧ v ≤ 3600) → (1 ≤ v) → (v + m g0 8 9 ≤ 2000000001) → (v ≤ a1) → Q (some (zi v)) m) : X (EE s) d 35 0 [(0, zr g0 8), (1, zi a1), (2, zi a2), (3, zi a3)] [] m Q := by
  refine X.aload_n 1 i35_0 rfl rfl rfl ?_
  refine X.getI 4 9 i35_1 rfl rfl (by decide) rfl rfl rfl ?_
  have h501 := r8_9 hJ g0
  refine X.ldc 6 i35_4 rfl rfl (by decide) ?_
  refine X.icmplt 11 9 i35_6 rfl rfl rfl (fun h502 => ?_) (fun h502 => ?_)
  · refine X.aload_n 12 i35_11 rfl rfl rfl ?_
    refine X.getR 15 i35_12 rfl rfl (by decide) rfl rfl ?_
    refine X.callv 18 [] [] [(0, zr g0 9)] i35_15 rfl (by decide) rfl rfl (by omega) rfl rfl (by decide) rfl t36 (Nat.le_of_ble_eq_true rfl) (Nat.le_of_ble_eq_true rfl) rfl ?_
    refine X.iconst 1 i36_0 rfl rfl (by decide) ?_
    refine X.aload_n 2 i36_1 rfl rfl rfl ?_
    refine X.getR 5 i36_2 rfl rfl (by decide) rfl rfl ?_
    refine X.iconst 6 i36_5 rfl rfl (by decide) ?_
    refine X.iald 7 i36_6 rfl rfl (by decide) rfl (by omega) ?_
    have h503 := r10_0 hJ g0 (i := 4) (by omega)
    refine X.maxI 10 i36_7 rfl rfl (by omega) (Nat.le_of_ble_eq_true rfl) ?_
    refine X.reti i36_10 rfl t36 ?_
    show X (EE s) d 35 18 [(0, zr g0 8), (1, zi a1), (2, zi a2), (3, zi a3)] [zi (max 1 (m g0 10 4))] m _
    refine X.istore 20 [(0, zr g0 8), (1, zi a1), (2, zi a2), (3, zi a3), (4, zi (max 1 (m g0 10 4)))] i35_18 rfl rfl rfl ?_
    refine X.iload_n 21 i35_20 rfl rfl rfl ?_
    refine X.ldc 23 i35_21 rfl rfl (by decide) ?_
    refine X.aload_n 24 i35_23 rfl rfl rfl ?_
    refine X.getI 27 9 i35_24 rfl rfl (by decide) rfl rfl rfl ?_
    refine X.isub 28 i35_27 rfl rfl (by omega) ?_
    refine X.minI 31 i35_28 rfl rfl (by omega) (Nat.le_of_ble_eq_true rfl) ?_
    refine X.istore 33 [(0, zr g0 8), (1, zi a1), (2, zi a2), (3, zi a3), (4, zi (max 1 (m g0 10 4))), (5, zi (min a1 (2000000000 - (m g0 8 9))))] i35_31 rfl rfl rfl ?_
    refine X.iload 35 i35_33 rfl rfl rfl ?_
    refine X.aload_n 36 i35_35 rfl rfl rfl ?_
    refine X.getR 39 i35_36 rfl rfl (by decide) rfl rfl ?_
    refine X.aload_n 40 i35_39 rfl rfl rfl ?_
    refine X.getI 43 9 i35_40 rfl rfl (by decide) rfl rfl rfl ?_
    refine X.callv 46 [zi (m g0 8 9)] [zi (min a1 (2000000000 - (m g0 8 9)))] [(0, zr g0 11), (1, zi (m g0 8 9))] i35_43 rfl (by decide) rfl rfl (by omega) rfl rfl (by decide) rfl t37 (Nat.le_of_ble_eq_true rfl) (Nat.le_of_ble_eq_true rfl) rfl ?_
    refine c37_1 (B := B) g0 (m g0 8 9) (by omega) (hJ.up (by omega)) (by omega) (by omega) (fun v506 hv506 hqv5060 => ?_)
    show X (EE s) d 35 46 [(0, zr g0 8), (1, zi a1), (2, zi a2), (3, zi a3), (4, zi (max 1 (m g0 10 4))), (5, zi (min a1 (2000000000 - (m g0 8 9))))] [zi v506, zi (min a1 (2000000000 - (m g0 8 9)))] m _
    refine X.aload_n 47 i35_46 rfl rfl rfl ?_
    refine X.getI 50 9 i35_47 rfl rfl (by decide) rfl rfl rfl ?_
    refine X.isub 51 i35_50 rfl rfl (by omega) ?_
    refine X.minI 54 i35_51 rfl rfl (by omega) (Nat.le_of_ble_eq_true rfl) ?_
    refine X.istore 56 [(0, zr g0 8), (1, zi a1), (2, zi a2), (3, zi a3), (4, zi (max 1 (m g0 10 4))), (5, zi (min (min a1 (2000000000 - (m g0 8 9))) (v506 - (m g0 8 9))))] i35_54 rfl rfl rfl ?_
    refine X.iload 58 i35_56 rfl rfl rfl ?_
    refine X.iload 60 i35_58 rfl rfl rfl ?_
    refine X.aload_n 61 i35_60 rfl rfl rfl ?_
    refine X.getI 64 9 i35_61 rfl rfl (by decide) rfl rfl rfl ?_
    refine X.iload 66 i35_64 rfl rfl rfl ?_
    refine X.irem 67 i35_66 rfl rfl (by omega) ?_
    have hz507 := z_modb (x := (m g0 8 9)) (y := (max 1 (m g0 10 4))) (by omega) (by omega)
    obtain ⟨z507, ez507⟩ : ∃ z, z = ((m g0 8 9) % (max 1 (m g0 10 4))) := ⟨_, rfl⟩
    rw [← ez507] at hz507 ⊢
    clear ez507
    refine X.isub 68 i35_67 rfl rfl (by omega) ?_
    refine X.minI 71 i35_68 rfl rfl (by omega) (Nat.le_of_ble_eq_true rfl) ?_
    refine X.istore 73 [(0, zr g0 8), (1, zi a1), (2, zi a2), (3, zi a3), (4, zi (max 1 (m g0 10 4))), (5, zi (min (min (min a1 (2000000000 - (m g0 8 9))) (v506 - (m g0 8 9))) ((max 1 (m g0 10 4)) - z507)))] i35_71 rfl rfl rfl ?_
    refine X.aload_n 74 i35_73 rfl rfl rfl ?_
    refine X.getR 77 i35_74 rfl rfl (by decide) rfl rfl ?_
    refine X.iload_n 78 i35_77 rfl rfl rfl ?_
    refine X.aload_n 79 i35_78 rfl rfl rfl ?_
    refine X.getR 82 i35_79 rfl rfl (by decide) rfl rfl ?_
    refine X.callv 85 [] [zi a3, zr g0 33] [(0, zr g0 9)] i35_82 rfl (by decide) rfl rfl (by omega) rfl rfl (by decide) rfl t38 (Nat.le_of_ble_eq_true rfl) (Nat.le_of_ble_eq_true rfl) rfl ?_
    refine X.aload_n 1 i38_0 rfl rfl rfl ?_
    refine X.getR 4 i38_1 rfl rfl (by decide) rfl rfl ?_
    refine X.iconst 5 i38_4 rfl rfl (by decide) ?_
    refine X.iald 6 i38_5 rfl rfl (by decide) rfl (by omega) ?_
    have h508 := r10_0 hJ g0 (i := 3) (by omega)
    refine X.reti i38_6 rfl t38 ?_
    show X (EE s) d 35 85 [(0, zr g0 8), (1, zi a1), (2, zi a2), (3, zi a3), (4, zi (max 1 (m g0 10 4))), (5, zi (min (min (min a1 (2000000000 - (m g0 8 9))) (v506 - (m g0 8 9))) ((max 1 (m g0 10 4)) - z507)))] [zi (m g0 10 3), zi a3, zr g0 33] m _
    refine X.iload 87 i35_85 rfl rfl rfl ?_
    refine X.callv 90 [zi a3, zi (m g0 10 3), zi (min (min (min a1 (2000000000 - (m g0 8 9))) (v506 - (m g0 8 9))) ((max 1 (m g0 10 4)) - z507))] [] [(0, zr g0 33), (1, zi a3), (2, zi (m g0 10 3)), (3, zi (min (min (min a1 (2000000000 - (m g0 8 9))) (v506 - (m g0 8 9))) ((max 1 (m g0 10 4)) - z507)))] i35_87 rfl (by decide) rfl rfl (by omega) rfl rfl (by decide) rfl t39 (Nat.le_of_ble_eq_true rfl) (Nat.le_of_ble_eq_true rfl) rfl ?_
    refine c39_1 (B := B) g0 a3 (m g0 10 3) (min (min (min a1 (2000000000 - (m g0 8 9))) (v506 - (m g0 8 9))) ((max 1 (m g0 10 4)) - z507)) (by omega) (hJ.up (by omega)) (by omega) (by omega) (by omega) (by omega) (by omega) (fun v511 hv511 hqv5110 hqv5111 => ?_)
    show X (EE s) d 35 90 [(0, zr g0 8), (1, zi a1), (2, zi a2), (3, zi a3), (4, zi (max 1 (m g0 10 4))), (5, zi (min (min (min a1 (2000000000 - (m g0 8 9))) (v506 - (m g0 8 9))) ((max 1 (m g0 10 4)) - z507)))] [zi v511] m _
    refine X.istore 92 [(0, zr g0 8), (1, zi a1), (2, zi a2), (3, zi a3), (4, zi (max 1 (m g0 10 4))), (5, zi v511)] i35_90 rfl rfl rfl ?_
    refine X.aload_n 93 i35_92 rfl rfl rfl ?_
    refine X.iload_n 94 i35_93 rfl rfl rfl ?_
    refine X.iload 96 i35_94 rfl rfl rfl ?_
    refine X.callv 99 [zi a2, zi v511] [] [(0, zr g0 8), (1, zi a2), (2, zi v511)] i35_96 rfl (by decide) rfl rfl (by omega) rfl rfl (by decide) rfl t41 (Nat.le_of_ble_eq_true rfl) (Nat.le_of_ble_eq_true rfl) rfl ?_
    refine c41_1 (B := B) g0 a2 v511 (by omega) (hJ.up (by omega)) (by omega) (by omega) (by omega) (by omega) (fun v514 hv514 hqv5140 hqv5141 => ?_)
    show X (EE s) d 35 99 [(0, zr g0 8), (1, zi a1), (2, zi a2), (3, zi a3), (4, zi (max 1 (m g0 10 4))), (5, zi v511)] [zi v514] m _
    refine X.reti i35_99 rfl t35 ?_
    exact hQ v514 (by first | trivial | omega) (by omega) (by omega) (by omega)
  · refine X.iconst 10 i35_9 rfl rfl (by decide) ?_
    refine X.reti i35_10 rfl t35 ?_
    exact hQ 1 (by first | trivial | omega) (by omega) (by omega) (by omega)
-- WorkMeter$Registers.count
theorem c50_1 {s : Nat × (Nat → Int32)} {S : zS} {m0 m : zM} {B : Int} {d : Nat} {Q : Option zV → zM → Prop} (g0 : Nat) (a1 a2 a3 a4 : Int) (hd : 13 ≤ d) (hJ : J S m0 B m) (hB : B + 0 ≤ 1000000000) (ha1 : 0 ≤ a1 ∧ a1 ≤ 3) (hQ : ∀ m', J S m0 (B) m' → Q none m') : X (EE s) d 50 0 [(0, zr g0 23), (1, zi a1), (2, zl a2), (4, zl a3), (6, zl a4)] [] m Q := by
  refine X.lload_n 1 i50_0 rfl rfl rfl ?_
  refine X.lconst (y := 0) 2 i50_1 rfl rfl rfl ?_
  refine X.lcmp 3 i50_2 rfl rfl (fun z501 hz501 => ?_)
  refine X.ifle 21 6 i50_3 rfl rfl rfl (fun h502 => ?_) (fun h502 => ?_)
  · have h502c : a2 ≤ 0 := by omega
    clear h502 hz501
    refine X.aload_n 22 i50_21 rfl rfl rfl ?_
    refine X.getR 25 i50_22 rfl rfl (by decide) rfl rfl ?_
    refine X.iconst 26 i50_25 rfl rfl (by decide) ?_
    refine X.iload_n 27 i50_26 rfl rfl rfl ?_
    refine X.iadd 28 i50_27 rfl rfl (by omega) ?_
    refine X.dup2 29 i50_28 rfl rfl ?_
    refine X.lald 30 i50_29 rfl rfl (by decide) rfl (by omega) ?_
    refine X.lload_n 31 i50_30 rfl rfl rfl ?_
    refine X.llF 32 .lsub (fun x y => x - y) i50_31 rfl rfl rfl (fun _ _ => rfl) (fun z503 hz503 => ?_)
    refine X.last' 33 i50_32 rfl rfl (by decide) rfl (by omega) (fun hrm504 m504 hm504 => ?_)
    have hJ505 := w24_0 hJ hm504 (by omega) hrm504
    refine X.iconst 34 i50_33 rfl rfl (by decide) ?_
    refine X.lload_n 35 i50_34 rfl rfl rfl ?_
    refine X.lload 37 i50_35 rfl rfl rfl ?_
    refine X.calls 40 [zl a2, zl a3] [zi 2] [(0, zl a2), (2, zl a3)] i50_37 (by decide) rfl rfl (by omega) rfl rfl t51 (Nat.le_of_ble_eq_true rfl) (Nat.le_of_ble_eq_true rfl) rfl ?_
    refine X.lload_n 1 i51_0 rfl rfl rfl ?_
    refine X.lconst (y := 0) 2 i51_1 rfl rfl rfl ?_
    refine X.lcmp 3 i51_2 rfl rfl (fun z506 hz506 => ?_)
    refine X.iflt 18 6 i51_3 rfl rfl rfl (fun h507 => ?_) (fun h507 => ?_)
    · have h507c : a2 < 0 := by omega
      clear h507 hz506
      refine X.cut [(2, zl a3)] i51_18 rfl ?_
      refine X.lload_n 19 i51_18 rfl rfl rfl ?_
      refine X.lconst (y := 0) 20 i51_19 rfl rfl rfl ?_
      refine X.lcmp 21 i51_20 rfl rfl (fun z508 hz508 => ?_)
      refine X.iflt 28 24 i51_21 rfl rfl rfl (fun h509 => ?_) (fun h509 => ?_)
      · have h509c : a3 < 0 := by omega
        clear h509 hz508
        refine X.cut [] i51_28 rfl ?_
        refine X.iconst 29 i51_28 rfl rfl (by decide) ?_
        refine X.reti i51_29 rfl t51 ?_
        show X (EE s) d 50 40 [(0, zr g0 23), (1, zi a1), (2, zl a2), (4, zl a3), (6, zl a4)] [zi 3, zi 2] m504 _
        refine X.iadd 41 i50_40 rfl rfl (by omega) ?_
        refine X.iconst 42 i50_41 rfl rfl (by decide) ?_
        refine X.isub 43 i50_42 rfl rfl (by omega) ?_
        refine X.istore 45 [(0, zr g0 23), (1, zi a1), (2, zl a2), (4, zl a3), (6, zl a4), (8, zi ((2 + 3) - 1))] i50_43 rfl rfl rfl ?_
        refine X.aload_n 46 i50_45 rfl rfl rfl ?_
        refine X.getR 49 i50_46 rfl rfl (by decide) rfl rfl ?_
        refine X.iload 51 i50_49 rfl rfl rfl ?_
        refine X.iconst 52 i50_51 rfl rfl (by decide) ?_
        refine X.imul 53 i50_52 rfl rfl (by omega) ?_
        refine X.iload_n 54 i50_53 rfl rfl rfl ?_
        refine X.iadd 55 i50_54 rfl rfl (by omega) ?_
        refine X.dup2 56 i50_55 rfl rfl ?_
        refine X.lald 57 i50_56 rfl rfl (by decide) rfl (by omega) ?_
        refine X.lload 59 i50_57 rfl rfl rfl ?_
        refine X.absF 62 i50_59 rfl rfl (by omega) (Nat.le_of_ble_eq_true rfl) (fun z510 hz510 => ?_)
        refine X.llF 63 .ladd (fun x y => x + y) i50_62 rfl rfl rfl (fun _ _ => rfl) (fun z511 hz511 => ?_)
        refine X.last' 64 i50_63 rfl rfl (by decide) rfl (by omega) (fun hrm512 m512 hm512 => ?_)
        have hJ513 := w24_0 hJ505 hm512 (by omega) hrm512
        refine X.aload_n 65 i50_64 rfl rfl rfl ?_
        refine X.getR 68 i50_65 rfl rfl (by decide) rfl rfl ?_
        refine X.bipush 70 i50_68 rfl rfl (by decide) ?_
        refine X.iload_n 71 i50_70 rfl rfl rfl ?_
        refine X.iadd 72 i50_71 rfl rfl (by omega) ?_
        refine X.dup2 73 i50_72 rfl rfl ?_
        refine X.lald 74 i50_73 rfl rfl (by decide) rfl (by omega) ?_
        refine X.lload 76 i50_74 rfl rfl rfl ?_
        refine X.llF 77 .ladd (fun x y => x + y) i50_76 rfl rfl rfl (fun _ _ => rfl) (fun z514 hz514 => ?_)
        refine X.last' 78 i50_77 rfl rfl (by decide) rfl (by omega) (fun hrm515 m515 hm515 => ?_)
        have hJ516 := w24_0 hJ513 hm515 (by omega) hrm515
        refine X.retv i50_78 rfl t50 ?_
        exact hQ  m515  (hJ516.up (by omega)) 
      · have h509c : a3 ≥ 0 := by omega
        clear h509 hz508
        refine X.iconst 25 i51_24 rfl rfl (by decide) ?_
        refine X.goto 29 i51_25 rfl rfl ?_
        refine X.cut [] i51_29 rfl ?_
        refine X.reti i51_29 rfl t51 ?_
        show X (EE s) d 50 40 [(0, zr g0 23), (1, zi a1), (2, zl a2), (4, zl a3), (6, zl a4)] [zi 2, zi 2] m504 _
        refine X.iadd 41 i50_40 rfl rfl (by omega) ?_
        refine X.iconst 42 i50_41 rfl rfl (by decide) ?_
        refine X.isub 43 i50_42 rfl rfl (by omega) ?_
        refine X.istore 45 [(0, zr g0 23), (1, zi a1), (2, zl a2), (4, zl a3), (6, zl a4), (8, zi ((2 + 2) - 1))] i50_43 rfl rfl rfl ?_
        refine X.aload_n 46 i50_45 rfl rfl rfl ?_
        refine X.getR 49 i50_46 rfl rfl (by decide) rfl rfl ?_
        refine X.iload 51 i50_49 rfl rfl rfl ?_
        refine X.iconst 52 i50_51 rfl rfl (by decide) ?_
        refine X.imul 53 i50_52 rfl rfl (by omega) ?_
        refine X.iload_n 54 i50_53 rfl rfl rfl ?_
        refine X.iadd 55 i50_54 rfl rfl (by omega) ?_
        refine X.dup2 56 i50_55 rfl rfl ?_
        refine X.lald 57 i50_56 rfl rfl (by decide) rfl (by omega) ?_
        refine X.lload 59 i50_57 rfl rfl rfl ?_
        refine X.absF 62 i50_59 rfl rfl (by omega) (Nat.le_of_ble_eq_true rfl) (fun z517 hz517 => ?_)
        refine X.llF 63 .ladd (fun x y => x + y) i50_62 rfl rfl rfl (fun _ _ => rfl) (fun z518 hz518 => ?_)
        refine X.last' 64 i50_63 rfl rfl (by decide) rfl (by omega) (fun hrm519 m519 hm519 => ?_)
        have hJ520 := w24_0 hJ505 hm519 (by omega) hrm519
        refine X.aload_n 65 i50_64 rfl rfl rfl ?_
        refine X.getR 68 i50_65 rfl rfl (by decide) rfl rfl ?_
        refine X.bipush 70 i50_68 rfl rfl (by decide) ?_
        refine X.iload_n 71 i50_70 rfl rfl rfl ?_
        refine X.iadd 72 i50_71 rfl rfl (by omega) ?_
        refine X.dup2 73 i50_72 rfl rfl ?_
        refine X.lald 74 i50_73 rfl rfl (by decide) rfl (by omega) ?_
        refine X.lload 76 i50_74 rfl rfl rfl ?_
        refine X.llF 77 .ladd (fun x y => x + y) i50_76 rfl rfl rfl (fun _ _ => rfl) (fun z521 hz521 => ?_)
        refine X.last' 78 i50_77 rfl rfl (by decide) rfl (by omega) (fun hrm522 m522 hm522 => ?_)
        have hJ523 := w24_0 hJ520 hm522 (by omega) hrm522
        refine X.retv i50_78 rfl t50 ?_
        exact hQ  m522  (hJ523.up (by omega)) 
    · have h507c : a2 ≥ 0 := by omega
      clear h507 hz506
      refine X.lload_n 7 i51_6 rfl rfl rfl ?_
      refine X.lconst (y := 0) 8 i51_7 rfl rfl rfl ?_
      refine X.lcmp 9 i51_8 rfl rfl (fun z524 hz524 => ?_)
      refine X.iflt 16 12 i51_9 rfl rfl rfl (fun h525 => ?_) (fun h525 => ?_)
      · have h525c : a3 < 0 := by omega
        clear h525 hz524
        refine X.cut [] i51_16 rfl ?_
        refine X.iconst 17 i51_16 rfl rfl (by decide) ?_
        refine X.reti i51_17 rfl t51 ?_
        show X (EE s) d 50 40 [(0, zr g0 23), (1, zi a1), (2, zl a2), (4, zl a3), (6, zl a4)] [zi 4, zi 2] m504 _
        refine X.iadd 41 i50_40 rfl rfl (by omega) ?_
        refine X.iconst 42 i50_41 rfl rfl (by decide) ?_
        refine X.isub 43 i50_42 rfl rfl (by omega) ?_
        refine X.istore 45 [(0, zr g0 23), (1, zi a1), (2, zl a2), (4, zl a3), (6, zl a4), (8, zi ((2 + 4) - 1))] i50_43 rfl rfl rfl ?_
        refine X.aload_n 46 i50_45 rfl rfl rfl ?_
        refine X.getR 49 i50_46 rfl rfl (by decide) rfl rfl ?_
        refine X.iload 51 i50_49 rfl rfl rfl ?_
        refine X.iconst 52 i50_51 rfl rfl (by decide) ?_
        refine X.imul 53 i50_52 rfl rfl (by omega) ?_
        refine X.iload_n 54 i50_53 rfl rfl rfl ?_
        refine X.iadd 55 i50_54 rfl rfl (by omega) ?_
        refine X.dup2 56 i50_55 rfl rfl ?_
        refine X.lald 57 i50_56 rfl rfl (by decide) rfl (by omega) ?_
        refine X.lload 59 i50_57 rfl rfl rfl ?_
        refine X.absF 62 i50_59 rfl rfl (by omega) (Nat.le_of_ble_eq_true rfl) (fun z526 hz526 => ?_)
        refine X.llF 63 .ladd (fun x y => x + y) i50_62 rfl rfl rfl (fun _ _ => rfl) (fun z527 hz527 => ?_)
        refine X.last' 64 i50_63 rfl rfl (by decide) rfl (by omega) (fun hrm528 m528 hm528 => ?_)
        have hJ529 := w24_0 hJ505 hm528 (by omega) hrm528
        refine X.aload_n 65 i50_64 rfl rfl rfl ?_
        refine X.getR 68 i50_65 rfl rfl (by decide) rfl rfl ?_
        refine X.bipush 70 i50_68 rfl rfl (by decide) ?_
        refine X.iload_n 71 i50_70 rfl rfl rfl ?_
        refine X.iadd 72 i50_71 rfl rfl (by omega) ?_
        refine X.dup2 73 i50_72 rfl rfl ?_
        refine X.lald 74 i50_73 rfl rfl (by decide) rfl (by omega) ?_
        refine X.lload 76 i50_74 rfl rfl rfl ?_
        refine X.llF 77 .ladd (fun x y => x + y) i50_76 rfl rfl rfl (fun _ _ => rfl) (fun z530 hz530 => ?_)
        refine X.last' 78 i50_77 rfl rfl (by decide) rfl (by omega) (fun hrm531 m531 hm531 => ?_)
        have hJ532 := w24_0 hJ529 hm531 (by omega) hrm531
        refine X.retv i50_78 rfl t50 ?_
        exact hQ  m531  (hJ532.up (by omega)) 
      · have h525c : a3 ≥ 0 := by omega
        clear h525 hz524
        refine X.iconst 13 i51_12 rfl rfl (by decide) ?_
        refine X.goto 17 i51_13 rfl rfl ?_
        refine X.cut [] i51_17 rfl ?_
        refine X.reti i51_17 rfl t51 ?_
        show X (EE s) d 50 40 [(0, zr g0 23), (1, zi a1), (2, zl a2), (4, zl a3), (6, zl a4)] [zi 1, zi 2] m504 _
        refine X.iadd 41 i50_40 rfl rfl (by omega) ?_
        refine X.iconst 42 i50_41 rfl rfl (by decide) ?_
        refine X.isub 43 i50_42 rfl rfl (by omega) ?_
        refine X.istore 45 [(0, zr g0 23), (1, zi a1), (2, zl a2), (4, zl a3), (6, zl a4), (8, zi ((2 + 1) - 1))] i50_43 rfl rfl rfl ?_
        refine X.aload_n 46 i50_45 rfl rfl rfl ?_
        refine X.getR 49 i50_46 rfl rfl (by decide) rfl rfl ?_
        refine X.iload 51 i50_49 rfl rfl rfl ?_
        refine X.iconst 52 i50_51 rfl rfl (by decide) ?_
        refine X.imul 53 i50_52 rfl rfl (by omega) ?_
        refine X.iload_n 54 i50_53 rfl rfl rfl ?_
        refine X.iadd 55 i50_54 rfl rfl (by omega) ?_
        refine X.dup2 56 i50_55 rfl rfl ?_
        refine X.lald 57 i50_56 rfl rfl (by decide) rfl (by omega) ?_
        refine X.lload 59 i50_57 rfl rfl rfl ?_
        refine X.absF 62 i50_59 rfl rfl (by omega) (Nat.le_of_ble_eq_true rfl) (fun z533 hz533 => ?_)
        refine X.llF 63 .ladd (fun x y => x + y) i50_62 rfl rfl rfl (fun _ _ => rfl) (fun z534 hz534 => ?_)
        refine X.last' 64 i50_63 rfl rfl (by decide) rfl (by omega) (fun hrm535 m535 hm535 => ?_)
        have hJ536 := w24_0 hJ505 hm535 (by omega) hrm535
        refine X.aload_n 65 i50_64 rfl rfl rfl ?_
        refine X.getR 68 i50_65 rfl rfl (by decide) rfl rfl ?_
        refine X.bipush 70 i50_68 rfl rfl (by decide) ?_
        refine X.iload_n 71 i50_70 rfl rfl rfl ?_
        refine X.iadd 72 i50_71 rfl rfl (by omega) ?_
        refine X.dup2 73 i50_72 rfl rfl ?_
        refine X.lald 74 i50_73 rfl rfl (by decide) rfl (by omega) ?_
        refine X.lload 76 i50_74 rfl rfl rfl ?_
        refine X.llF 77 .ladd (fun x y => x + y) i50_76 rfl rfl rfl (fun _ _ => rfl) (fun z537 hz537 => ?_)
        refine X.last' 78 i50_77 rfl rfl (by decide) rfl (by omega) (fun hrm538 m538 hm538 => ?_)
        have hJ539 := w24_0 hJ536 hm538 (by omega) hrm538
        refine X.retv i50_78 rfl t50 ?_
        exact hQ  m538  (hJ539.up (by omega)) 
  · have h502c : a2 > 0 := by omega
    clear h502 hz501
    refine X.aload_n 7 i50_6 rfl rfl rfl ?_
    refine X.getR 10 i50_7 rfl rfl (by decide) rfl rfl ?_
    refine X.iconst 11 i50_10 rfl rfl (by decide) ?_
    refine X.iload_n 12 i50_11 rfl rfl rfl ?_
    refine X.iadd 13 i50_12 rfl rfl (by omega) ?_
    refine X.dup2 14 i50_13 rfl rfl ?_
    refine X.lald 15 i50_14 rfl rfl (by decide) rfl (by omega) ?_
    refine X.lload_n 16 i50_15 rfl rfl rfl ?_
    refine X.llF 17 .ladd (fun x y => x + y) i50_16 rfl rfl rfl (fun _ _ => rfl) (fun z540 hz540 => ?_)
    refine X.last' 18 i50_17 rfl rfl (by decide) rfl (by omega) (fun hrm541 m541 hm541 => ?_)
    have hJ542 := w24_0 hJ hm541 (by omega) hrm541
    refine X.goto 33 i50_18 rfl rfl ?_
    refine X.iconst 34 i50_33 rfl rfl (by decide) ?_
    refine X.lload_n 35 i50_34 rfl rfl rfl ?_
    refine X.lload 37 i50_35 rfl rfl rfl ?_
    refine X.calls 40 [zl a2, zl a3] [zi 2] [(0, zl a2), (2, zl a3)] i50_37 (by decide) rfl rfl (by omega) rfl rfl t51 (Nat.le_of_ble_eq_true rfl) (Nat.le_of_ble_eq_true rfl) rfl ?_
    refine X.lload_n 1 i51_0 rfl rfl rfl ?_
    refine X.lconst (y := 0) 2 i51_1 rfl rfl rfl ?_
    refine X.lcmp 3 i51_2 rfl rfl (fun z543 hz543 => ?_)
    refine X.iflt 18 6 i51_3 rfl rfl rfl (fun h544 => (by exfalso; omega)) (fun h544 => ?_)
    have h544c : a2 ≥ 0 := by omega
    clear h544 hz543
    refine X.lload_n 7 i51_6 rfl rfl rfl ?_
    refine X.lconst (y := 0) 8 i51_7 rfl rfl rfl ?_
    refine X.lcmp 9 i51_8 rfl rfl (fun z545 hz545 => ?_)
    refine X.iflt 16 12 i51_9 rfl rfl rfl (fun h546 => ?_) (fun h546 => ?_)
    · have h546c : a3 < 0 := by omega
      clear h546 hz545
      refine X.cut [] i51_16 rfl ?_
      refine X.iconst 17 i51_16 rfl rfl (by decide) ?_
      refine X.reti i51_17 rfl t51 ?_
      show X (EE s) d 50 40 [(0, zr g0 23), (1, zi a1), (2, zl a2), (4, zl a3), (6, zl a4)] [zi 4, zi 2] m541 _
      refine X.iadd 41 i50_40 rfl rfl (by omega) ?_
      refine X.iconst 42 i50_41 rfl rfl (by decide) ?_
      refine X.isub 43 i50_42 rfl rfl (by omega) ?_
      refine X.istore 45 [(0, zr g0 23), (1, zi a1), (2, zl a2), (4, zl a3), (6, zl a4), (8, zi ((2 + 4) - 1))] i50_43 rfl rfl rfl ?_
      refine X.aload_n 46 i50_45 rfl rfl rfl ?_
      refine X.getR 49 i50_46 rfl rfl (by decide) rfl rfl ?_
      refine X.iload 51 i50_49 rfl rfl rfl ?_
      refine X.iconst 52 i50_51 rfl rfl (by decide) ?_
      refine X.imul 53 i50_52 rfl rfl (by omega) ?_
      refine X.iload_n 54 i50_53 rfl rfl rfl ?_
      refine X.iadd 55 i50_54 rfl rfl (by omega) ?_
      refine X.dup2 56 i50_55 rfl rfl ?_
      refine X.lald 57 i50_56 rfl rfl (by decide) rfl (by omega) ?_
      refine X.lload 59 i50_57 rfl rfl rfl ?_
      refine X.absF 62 i50_59 rfl rfl (by omega) (Nat.le_of_ble_eq_true rfl) (fun z547 hz547 => ?_)
      refine X.llF 63 .ladd (fun x y => x + y) i50_62 rfl rfl rfl (fun _ _ => rfl) (fun z548 hz548 => ?_)
      refine X.last' 64 i50_63 rfl rfl (by decide) rfl (by omega) (fun hrm549 m549 hm549 => ?_)
      have hJ550 := w24_0 hJ542 hm549 (by omega) hrm549
      refine X.aload_n 65 i50_64 rfl rfl rfl ?_
      refine X.getR 68 i50_65 rfl rfl (by decide) rfl rfl ?_
      refine X.bipush 70 i50_68 rfl rfl (by decide) ?_
      refine X.iload_n 71 i50_70 rfl rfl rfl ?_
      refine X.iadd 72 i50_71 rfl rfl (by omega) ?_
      refine X.dup2 73 i50_72 rfl rfl ?_
      refine X.lald 74 i50_73 rfl rfl (by decide) rfl (by omega) ?_
      refine X.lload 76 i50_74 rfl rfl rfl ?_
      refine X.llF 77 .ladd (fun x y => x + y) i50_76 rfl rfl rfl (fun _ _ => rfl) (fun z551 hz551 => ?_)
      refine X.last' 78 i50_77 rfl rfl (by decide) rfl (by omega) (fun hrm552 m552 hm552 => ?_)
      have hJ553 := w24_0 hJ550 hm552 (by omega) hrm552
      refine X.retv i50_78 rfl t50 ?_
      exact hQ  m552  (hJ553.up (by omega)) 
    · have h546c : a3 ≥ 0 := by omega
      clear h546 hz545
      refine X.iconst 13 i51_12 rfl rfl (by decide) ?_
      refine X.goto 17 i51_13 rfl rfl ?_
      refine X.cut [] i51_17 rfl ?_
      refine X.reti i51_17 rfl t51 ?_
      show X (EE s) d 50 40 [(0, zr g0 23), (1, zi a1), (2, zl a2), (4, zl a3), (6, zl a4)] [zi 1, zi 2] m541 _
      refine X.iadd 41 i50_40 rfl rfl (by omega) ?_
      refine X.iconst 42 i50_41 rfl rfl (by decide) ?_
      refine X.isub 43 i50_42 rfl rfl (by omega) ?_
      refine X.istore 45 [(0, zr g0 23), (1, zi a1), (2, zl a2), (4, zl a3), (6, zl a4), (8, zi ((2 + 1) - 1))] i50_43 rfl rfl rfl ?_
      refine X.aload_n 46 i50_45 rfl rfl rfl ?_
      refine X.getR 49 i50_46 rfl rfl (by decide) rfl rfl ?_
      refine X.iload 51 i50_49 rfl rfl rfl ?_
      refine X.iconst 52 i50_51 rfl rfl (by decide) ?_
      refine X.imul 53 i50_52 rfl rfl (by omega) ?_
      refine X.iload_n 54 i50_53 rfl rfl rfl ?_
      refine X.iadd 55 i50_54 rfl rfl (by omega) ?_
      refine X.dup2 56 i50_55 rfl rfl ?_
      refine X.lald 57 i50_56 rfl rfl (by decide) rfl (by omega) ?_
      refine X.lload 59 i50_57 rfl rfl rfl ?_
      refine X.absF 62 i50_59 rfl rfl (by omega) (Nat.le_of_ble_eq_true rfl) (fun z554 hz554 => ?_)
      refine X.llF 63 .ladd (fun x y => x + y) i50_62 rfl rfl rfl (fun _ _ => rfl) (fun z555 hz555 => ?_)
      refine X.last' 64 i50_63 rfl rfl (by decide) rfl (by omega) (fun hrm556 m556 hm556 => ?_)
      have hJ557 := w24_0 hJ542 hm556 (by omega) hrm556
      refine X.aload_n 65 i50_64 rfl rfl rfl ?_
      refine X.getR 68 i50_65 rfl rfl (by decide) rfl rfl ?_
      refine X.bipush 70 i50_68 rfl rfl (by decide) ?_
      refine X.iload_n 71 i50_70 rfl rfl rfl ?_
      refine X.iadd 72 i50_71 rfl rfl (by omega) ?_
      refine X.dup2 73 i50_72 rfl rfl ?_
      refine X.lald 74 i50_73 rfl rfl (by decide) rfl (by omega) ?_
      refine X.lload 76 i50_74 rfl rfl rfl ?_
      refine X.llF 77 .ladd (fun x y => x + y) i50_76 rfl rfl rfl (fun _ _ => rfl) (fun z558 hz558 => ?_)
      refine X.last' 78 i50_77 rfl rfl (by decide) rfl (by omega) (fun hrm559 m559 hm559 => ?_)
      have hJ560 := w24_0 hJ557 hm559 (by omega) hrm559
      refine X.retv i50_78 rfl t50 ?_
      exact hQ  m559  (hJ560.up (by omega)) 
-- WorkMeter$Meter.meterPower
theorem c49_1 {s : Nat × (Nat → Int32)} {S : zS} {m0 m : zM} {B : Int} {d : Nat} {Q : Option zV → zM → Prop} (g0 : Nat) (a1 a2 : Int) (hd : 14 ≤ d) (hJ : J S m0 B m) (hB : B + 0 ≤ 1000000000) (ha1 : (-1999999999) ≤ a1 ∧ a1 ≤ 3600) (ha2 : 0 ≤ a2 ∧ a2 ≤ 3) (hQ : ∀ m', J S m0 (B) m' → Q none m') : X (EE s) d 49 0 [(0, zr g0 8), (1, zi a1), (2, zi a2)] [] m Q := by
  refine X.aload_n 1 i49_0 rfl rfl rfl ?_
  refine X.callv 4 [] [] [(0, zr g0 8)] i49_1 rfl (by decide) rfl rfl (by omega) rfl rfl (by decide) rfl t44 (Nat.le_of_ble_eq_true rfl) (Nat.le_of_ble_eq_true rfl) rfl ?_
  refine c44_1 (B := B) g0  (by omega) (hJ.up (by omega)) (by omega)  (fun v503 hv503 => ?_)
  show X (EE s) d 49 4 [(0, zr g0 8), (1, zi a1), (2, zi a2)] [zi v503] m _
  refine X.ifeq 18 7 i49_4 rfl rfl rfl (fun h504 => ?_) (fun h504 => ?_)
  · refine X.aload_n 19 i49_18 rfl rfl rfl ?_
    refine X.getZ 22 12 i49_19 rfl rfl (by decide) rfl rfl rfl (fun h505 => ?_)
    refine X.ifeq 26 25 i49_22 rfl rfl rfl (fun h506 => ?_) (fun h506 => ?_)
    · refine X.aload_n 27 i49_26 rfl rfl rfl ?_
      refine X.getR 30 i49_27 rfl rfl (by decide) rfl rfl ?_
      refine X.callv 33 [] [] [(0, zr g0 19)] i49_30 rfl (by decide) rfl rfl (by omega) rfl rfl (by decide) rfl t42 (Nat.le_of_ble_eq_true rfl) (Nat.le_of_ble_eq_true rfl) rfl ?_
      refine X.aload_n 1 i42_0 rfl rfl rfl ?_
      refine X.getR 4 i42_1 rfl rfl (by decide) rfl rfl ?_
      refine X.iconst 5 i42_4 rfl rfl (by decide) ?_
      refine X.lald 6 i42_5 rfl rfl (by decide) rfl (by omega) ?_
      refine X.retl i42_6 rfl t42 ?_
      show X (EE s) d 49 33 [(0, zr g0 8), (1, zi a1), (2, zi a2)] [zl (m g0 22 3)] m _
      refine X.iload_n 34 i49_33 rfl rfl rfl ?_
      refine X.i2l 35 i49_34 rfl rfl ?_
      refine X.llF 36 .lmul (fun x y => x * y) i49_35 rfl rfl rfl (fun _ _ => rfl) (fun z507 hz507 => ?_)
      refine X.lstore_n 37 [(0, zr g0 8), (1, zi a1), (2, zi a2), (3, zl z507)] i49_36 rfl rfl rfl ?_
      refine X.aload_n 38 i49_37 rfl rfl rfl ?_
      refine X.getR 41 i49_38 rfl rfl (by decide) rfl rfl ?_
      refine X.getL 44 6 i49_41 rfl rfl (by decide) rfl rfl rfl ?_
      refine X.iload_n 45 i49_44 rfl rfl rfl ?_
      refine X.i2l 46 i49_45 rfl rfl ?_
      refine X.llF 47 .lmul (fun x y => x * y) i49_46 rfl rfl rfl (fun _ _ => rfl) (fun z508 hz508 => ?_)
      refine X.lstore 49 [(0, zr g0 8), (1, zi a1), (2, zi a2), (3, zl z507), (5, zl z508)] i49_47 rfl rfl rfl ?_
      refine X.aload_n 50 i49_49 rfl rfl rfl ?_
      refine X.getR 53 i49_50 rfl rfl (by decide) rfl rfl ?_
      refine X.iload_n 54 i49_53 rfl rfl rfl ?_
      refine X.callv 57 [zi a2] [] [(0, zr g0 23), (1, zi a2)] i49_54 rfl (by decide) rfl rfl (by omega) rfl rfl (by decide) rfl t47 (Nat.le_of_ble_eq_true rfl) (Nat.le_of_ble_eq_true rfl) rfl ?_
      refine X.aload_n 1 i47_0 rfl rfl rfl ?_
      refine X.getR 4 i47_1 rfl rfl (by decide) rfl rfl ?_
      refine X.iconst 5 i47_4 rfl rfl (by decide) ?_
      refine X.iload_n 6 i47_5 rfl rfl rfl ?_
      refine X.iadd 7 i47_6 rfl rfl (by omega) ?_
      refine X.lald 8 i47_7 rfl rfl (by decide) rfl (by omega) ?_
      refine X.retl i47_8 rfl t47 ?_
      show X (EE s) d 49 57 [(0, zr g0 8), (1, zi a1), (2, zi a2), (3, zl z507), (5, zl z508)] [zl (m g0 24 (0 + a2))] m _
      refine X.aload_n 58 i49_57 rfl rfl rfl ?_
      refine X.getR 61 i49_58 rfl rfl (by decide) rfl rfl ?_
      refine X.callv 64 [] [zl (m g0 24 (0 + a2))] [(0, zr g0 9)] i49_61 rfl (by decide) rfl rfl (by omega) rfl rfl (by decide) rfl t48 (Nat.le_of_ble_eq_true rfl) (Nat.le_of_ble_eq_true rfl) rfl ?_
      refine X.iconst 1 i48_0 rfl rfl (by decide) ?_
      refine X.aload_n 2 i48_1 rfl rfl rfl ?_
      refine X.getR 5 i48_2 rfl rfl (by decide) rfl rfl ?_
      refine X.iconst 6 i48_5 rfl rfl (by decide) ?_
      refine X.iald 7 i48_6 rfl rfl (by decide) rfl (by omega) ?_
      have h509 := r10_0 hJ g0 (i := 1) (by omega)
      refine X.maxI 10 i48_7 rfl rfl (by omega) (Nat.le_of_ble_eq_true rfl) ?_
      refine X.reti i48_10 rfl t48 ?_
      show X (EE s) d 49 64 [(0, zr g0 8), (1, zi a1), (2, zi a2), (3, zl z507), (5, zl z508)] [zi (max 1 (m g0 10 1)), zl (m g0 24 (0 + a2))] m _
      refine X.i2l 65 i49_64 rfl rfl ?_
      refine X.ldivF 66 i49_65 rfl rfl (by omega) (fun z510 => ?_)
      refine X.lstore 68 [(0, zr g0 8), (1, zi a1), (2, zi a2), (3, zl z507), (5, zl z508), (7, zl z510)] i49_66 rfl rfl rfl ?_
      refine X.aload_n 69 i49_68 rfl rfl rfl ?_
      refine X.getR 72 i49_69 rfl rfl (by decide) rfl rfl ?_
      refine X.iload_n 73 i49_72 rfl rfl rfl ?_
      refine X.lload_n 74 i49_73 rfl rfl rfl ?_
      refine X.aload_n 75 i49_74 rfl rfl rfl ?_
      refine X.getR 78 i49_75 rfl rfl (by decide) rfl rfl ?_
      refine X.callv 81 [] [zl z507, zi a2, zr g0 23] [(0, zr g0 19)] i49_78 rfl (by decide) rfl rfl (by omega) rfl rfl (by decide) rfl t46 (Nat.le_of_ble_eq_true rfl) (Nat.le_of_ble_eq_true rfl) rfl ?_
      refine X.aload_n 1 i46_0 rfl rfl rfl ?_
      refine X.getR 4 i46_1 rfl rfl (by decide) rfl rfl ?_
      refine X.bipush 6 i46_4 rfl rfl (by decide) ?_
      refine X.lald 7 i46_6 rfl rfl (by decide) rfl (by omega) ?_
      refine X.retl i46_7 rfl t46 ?_
      show X (EE s) d 49 81 [(0, zr g0 8), (1, zi a1), (2, zi a2), (3, zl z507), (5, zl z508), (7, zl z510)] [zl (m g0 22 7), zl z507, zi a2, zr g0 23] m _
      refine X.iload_n 82 i49_81 rfl rfl rfl ?_
      refine X.i2l 83 i49_82 rfl rfl ?_
      refine X.llF 84 .lmul (fun x y => x * y) i49_83 rfl rfl rfl (fun _ _ => rfl) (fun z511 hz511 => ?_)
      refine X.lload 86 i49_84 rfl rfl rfl ?_
      refine X.callv 89 [zi a2, zl z507, zl z511, zl z508] [] [(0, zr g0 23), (1, zi a2), (2, zl z507), (4, zl z511), (6, zl z508)] i49_86 rfl (by decide) rfl rfl (by omega) rfl rfl (by decide) rfl t50 (Nat.le_of_ble_eq_true rfl) (Nat.le_of_ble_eq_true rfl) rfl ?_
      refine c50_1 (B := B) g0 a2 z507 z511 z508 (by omega) (hJ.up (by omega)) (by omega) (by omega) (fun m512 hJ513 => ?_)
      show X (EE s) d 49 89 [(0, zr g0 8), (1, zi a1), (2, zi a2), (3, zl z507), (5, zl z508), (7, zl z510)] [] m512 _
      refine X.aload_n 90 i49_89 rfl rfl rfl ?_
      refine X.getR 93 i49_90 rfl rfl (by decide) rfl rfl ?_
      refine X.iload_n 94 i49_93 rfl rfl rfl ?_
      refine X.callv 97 [zi a2] [] [(0, zr g0 23), (1, zi a2)] i49_94 rfl (by decide) rfl rfl (by omega) rfl rfl (by decide) rfl t47 (Nat.le_of_ble_eq_true rfl) (Nat.le_of_ble_eq_true rfl) rfl ?_
      refine X.aload_n 1 i47_0 rfl rfl rfl ?_
      refine X.getR 4 i47_1 rfl rfl (by decide) rfl rfl ?_
      refine X.iconst 5 i47_4 rfl rfl (by decide) ?_
      refine X.iload_n 6 i47_5 rfl rfl rfl ?_
      refine X.iadd 7 i47_6 rfl rfl (by omega) ?_
      refine X.lald 8 i47_7 rfl rfl (by decide) rfl (by omega) ?_
      refine X.retl i47_8 rfl t47 ?_
      show X (EE s) d 49 97 [(0, zr g0 8), (1, zi a1), (2, zi a2), (3, zl z507), (5, zl z508), (7, zl z510)] [zl (m512 g0 24 (0 + a2))] m512 _
      refine X.aload_n 98 i49_97 rfl rfl rfl ?_
      refine X.getR 101 i49_98 rfl rfl (by decide) rfl rfl ?_
      refine X.callv 104 [] [zl (m512 g0 24 (0 + a2))] [(0, zr g0 9)] i49_101 rfl (by decide) rfl rfl (by omega) rfl rfl (by decide) rfl t48 (Nat.le_of_ble_eq_true rfl) (Nat.le_of_ble_eq_true rfl) rfl ?_
      refine X.iconst 1 i48_0 rfl rfl (by decide) ?_
      refine X.aload_n 2 i48_1 rfl rfl rfl ?_
      refine X.getR 5 i48_2 rfl rfl (by decide) rfl rfl ?_
      refine X.iconst 6 i48_5 rfl rfl (by decide) ?_
      refine X.iald 7 i48_6 rfl rfl (by decide) rfl (by omega) ?_
      have h515 := r10_0 hJ513 g0 (i := 1) (by omega)
      refine X.maxI 10 i48_7 rfl rfl (by omega) (Nat.le_of_ble_eq_true rfl) ?_
      refine X.reti i48_10 rfl t48 ?_
      show X (EE s) d 49 104 [(0, zr g0 8), (1, zi a1), (2, zi a2), (3, zl z507), (5, zl z508), (7, zl z510)] [zi (max 1 (m512 g0 10 1)), zl (m512 g0 24 (0 + a2))] m512 _
      refine X.i2l 105 i49_104 rfl rfl ?_
      refine X.ldivF 106 i49_105 rfl rfl (by omega) (fun z516 => ?_)
      refine X.lload 108 i49_106 rfl rfl rfl ?_
      refine X.llF 109 .lsub (fun x y => x - y) i49_108 rfl rfl rfl (fun _ _ => rfl) (fun z517 hz517 => ?_)
      refine X.lstore 111 [(0, zr g0 8), (1, zi a1), (2, zi a2), (3, zl z507), (5, zl z508), (7, zl z510), (9, zl z517)] i49_109 rfl rfl rfl ?_
      refine X.aload_n 112 i49_111 rfl rfl rfl ?_
      refine X.dup 113 i49_112 rfl rfl rfl ?_
      refine X.getL 116 10 i49_113 rfl rfl (by decide) rfl rfl rfl ?_
      refine X.lload 118 i49_116 rfl rfl rfl ?_
      refine X.aload_n 119 i49_118 rfl rfl rfl ?_
      refine X.getR 122 i49_119 rfl rfl (by decide) rfl rfl ?_
      refine X.iload_n 123 i49_122 rfl rfl rfl ?_
      refine X.callv 126 [zi a2] [zl z517, zl (m512 g0 8 10), zr g0 8] [(0, zr g0 9), (1, zi a2)] i49_123 rfl (by decide) rfl rfl (by omega) rfl rfl (by decide) rfl t43 (Nat.le_of_ble_eq_true rfl) (Nat.le_of_ble_eq_true rfl) rfl ?_
      refine X.aload_n 1 i43_0 rfl rfl rfl ?_
      refine X.getR 4 i43_1 rfl rfl (by decide) rfl rfl ?_
      refine X.bipush 6 i43_4 rfl rfl (by decide) ?_
      refine X.iload_n 7 i43_6 rfl rfl rfl ?_
      refine X.iadd 8 i43_7 rfl rfl (by omega) ?_
      refine X.iald 9 i43_8 rfl rfl (by decide) rfl (by omega) ?_
      have h518 := r10_6 hJ513 g0 (i := (6 + a2)) (by omega)
      refine X.reti i43_9 rfl t43 ?_
      show X (EE s) d 49 126 [(0, zr g0 8), (1, zi a1), (2, zi a2), (3, zl z507), (5, zl z508), (7, zl z510), (9, zl z517)] [zi (m512 g0 10 (6 + a2)), zl z517, zl (m512 g0 8 10), zr g0 8] m512 _
      refine X.i2l 127 i49_126 rfl rfl ?_
      refine X.llF 128 .lmul (fun x y => x * y) i49_127 rfl rfl rfl (fun _ _ => rfl) (fun z519 hz519 => ?_)
      refine X.llF 129 .lsub (fun x y => x - y) i49_128 rfl rfl rfl (fun _ _ => rfl) (fun z520 hz520 => ?_)
      refine X.putL' 132 10 i49_129 rfl rfl (by decide) rfl rfl rfl (fun hrm521 m521 hm521 => ?_)
      have hJ522 := w8_10 hJ513 hm521 hrm521
      refine X.aload_n 133 i49_132 rfl rfl rfl ?_
      refine X.getR 136 i49_133 rfl rfl (by decide) rfl rfl ?_
      refine X.lload_n 137 i49_136 rfl rfl rfl ?_
      refine X.lload 139 i49_137 rfl rfl rfl ?_
      refine X.callv 142 [zl z507, zl z508] [] [(0, zr g0 27), (1, zl z507), (3, zl z508)] i49_139 rfl (by decide) rfl rfl (by omega) rfl rfl (by decide) rfl t52 (Nat.le_of_ble_eq_true rfl) (Nat.le_of_ble_eq_true rfl) rfl ?_
      refine X.lload_n 1 i52_0 rfl rfl rfl ?_
      refine X.lconst (y := 0) 2 i52_1 rfl rfl rfl ?_
      refine X.lcmp 3 i52_2 rfl rfl (fun z523 hz523 => ?_)
      refine X.ifle 19 6 i52_3 rfl rfl rfl (fun h524 => ?_) (fun h524 => ?_)
      · have h524c : z507 ≤ 0 := by omega
        clear h524 hz523
        refine X.aload_n 20 i52_19 rfl rfl rfl ?_
        refine X.dup 21 i52_20 rfl rfl rfl ?_
        refine X.getL 24 4 i52_21 rfl rfl (by decide) rfl rfl rfl ?_
        refine X.lload_n 25 i52_24 rfl rfl rfl ?_
        refine X.llF 26 .lsub (fun x y => x - y) i52_25 rfl rfl rfl (fun _ _ => rfl) (fun z525 hz525 => ?_)
        refine X.putL' 29 4 i52_26 rfl rfl (by decide) rfl rfl rfl (fun hrm526 m526 hm526 => ?_)
        have hJ527 := w27_3 hJ522 hm526 (by omega) hrm526
        refine X.cut [(0, zr g0 27), (3, zl z508)] i52_29 rfl ?_
        refine X.aload_n 30 i52_29 rfl rfl rfl ?_
        refine X.dup 31 i52_30 rfl rfl rfl ?_
        refine X.getL 34 5 i52_31 rfl rfl (by decide) rfl rfl rfl ?_
        refine X.lload_n 35 i52_34 rfl rfl rfl ?_
        refine X.llF 36 .ladd (fun x y => x + y) i52_35 rfl rfl rfl (fun _ _ => rfl) (fun z528 hz528 => ?_)
        refine X.putL' 39 5 i52_36 rfl rfl (by decide) rfl rfl rfl (fun hrm529 m529 hm529 => ?_)
        have hJ530 := w27_3 hJ527 hm529 (by omega) hrm529
        refine X.retv i52_39 rfl t52 ?_
        show X (EE s) d 49 142 [(0, zr g0 8), (1, zi a1), (2, zi a2), (3, zl z507), (5, zl z508), (7, zl z510), (9, zl z517)] [] m529 _
        refine X.retv i49_142 rfl t49 ?_
        exact hQ  m529  (hJ530.up (by omega)) 
      · have h524c : z507 > 0 := by omega
        clear h524 hz523
        refine X.aload_n 7 i52_6 rfl rfl rfl ?_
        refine X.dup 8 i52_7 rfl rfl rfl ?_
        refine X.getL 11 3 i52_8 rfl rfl (by decide) rfl rfl rfl ?_
        refine X.lload_n 12 i52_11 rfl rfl rfl ?_
        refine X.llF 13 .ladd (fun x y => x + y) i52_12 rfl rfl rfl (fun _ _ => rfl) (fun z531 hz531 => ?_)
        refine X.putL' 16 3 i52_13 rfl rfl (by decide) rfl rfl rfl (fun hrm532 m532 hm532 => ?_)
        have hJ533 := w27_3 hJ522 hm532 (by omega) hrm532
        refine X.goto 29 i52_16 rfl rfl ?_
        refine X.cut [(0, zr g0 27), (3, zl z508)] i52_29 rfl ?_
        refine X.aload_n 30 i52_29 rfl rfl rfl ?_
        refine X.dup 31 i52_30 rfl rfl rfl ?_
        refine X.getL 34 5 i52_31 rfl rfl (by decide) rfl rfl rfl ?_
        refine X.lload_n 35 i52_34 rfl rfl rfl ?_
        refine X.llF 36 .ladd (fun x y => x + y) i52_35 rfl rfl rfl (fun _ _ => rfl) (fun z534 hz534 => ?_)
        refine X.putL' 39 5 i52_36 rfl rfl (by decide) rfl rfl rfl (fun hrm535 m535 hm535 => ?_)
        have hJ536 := w27_3 hJ533 hm535 (by omega) hrm535
        refine X.retv i52_39 rfl t52 ?_
        show X (EE s) d 49 142 [(0, zr g0 8), (1, zi a1), (2, zi a2), (3, zl z507), (5, zl z508), (7, zl z510), (9, zl z517)] [] m535 _
        refine X.retv i49_142 rfl t49 ?_
        exact hQ  m535  (hJ536.up (by omega)) 
    · refine X.retv i49_25 rfl t49 ?_
      exact hQ  m  (hJ.up (by omega)) 
  · refine X.aload_n 8 i49_7 rfl rfl rfl ?_
    refine X.dup 9 i49_8 rfl rfl rfl ?_
    refine X.getIr 12 14 i49_9 rfl rfl (by decide) rfl rfl rfl (fun h537 => ?_)
    refine X.iload_n 13 i49_12 rfl rfl rfl ?_
    refine X.iiF 14 .iadd (fun x y => x + y) i49_13 rfl rfl rfl (fun _ _ => rfl) (fun z538 hz538 => ?_)
    refine X.putI' 17 14 i49_14 rfl rfl (by decide) rfl rfl rfl (fun hrm539 m539 hm539 => ?_)
    have hJ540 := w8_14 hJ hm539 (by omega) hrm539
    refine X.retv i49_17 rfl t49 ?_
    exact hQ  m539  (hJ540.up (by omega)) 
-- WorkMeter$Marks.turn
theorem c57_1 {s : Nat × (Nat → Int32)} {S : zS} {m0 m : zM} {B : Int} {d : Nat} {Q : Option zV → zM → Prop} (g0 g3 : Nat) (a1 a2 a4 : Int) (hd : 13 ≤ d) (hJ : J S m0 B m) (hB : B + 1 ≤ 1000000000) (ha1 : 2 ≤ a1 ∧ a1 ≤ 4) (ha2 : 1 ≤ a2 ∧ a2 ≤ 1) (ha4 : (-2000000000) ≤ a4 ∧ a4 ≤ 2000003599) (hQ : ∀ m', J S m0 (B + 1) m' → Q none m') : X (EE s) d 57 0 [(0, zr g0 33), (1, zi a1), (2, zi a2), (3, zr g3 37), (4, zi a4)] [] m Q := by
  refine X.iload_n 1 i57_0 rfl rfl rfl ?_
  refine X.ifeq 37 4 i57_1 rfl rfl rfl (fun h501 => (by exfalso; omega)) (fun h501 => ?_)
  refine X.aload_n 5 i57_4 rfl rfl rfl ?_
  refine X.dup 6 i57_5 rfl rfl rfl ?_
  refine X.getIr 9 3 i57_6 rfl rfl (by decide) rfl rfl rfl (fun h502 => ?_)
  refine X.iconst 10 i57_9 rfl rfl (by decide) ?_
  refine X.iload_n 11 i57_10 rfl rfl rfl ?_
  refine X.iiF 12 .ishl (fun x y => x <<< (y &&& 31)) i57_11 rfl rfl rfl (fun _ _ => rfl) (fun z503 hz503 => ?_)
  refine X.iiF 13 .ior (fun x y => x ||| y) i57_12 rfl rfl rfl (fun _ _ => rfl) (fun z504 hz504 => ?_)
  refine X.putI' 16 3 i57_13 rfl rfl (by decide) rfl rfl rfl (fun hrm505 m505 hm505 => ?_)
  have hJ506 := w33_0 hJ hm505 (by omega) hrm505
  refine X.aload_n 17 i57_16 rfl rfl rfl ?_
  refine X.getR 20 i57_17 rfl rfl (by decide) rfl rfl ?_
  refine X.iload_n 21 i57_20 rfl rfl rfl ?_
  refine X.dup2 22 i57_21 rfl rfl ?_
  refine X.ialdr 23 i57_22 rfl rfl (by decide) rfl (by omega) (fun h507 => ?_)
  refine X.iconst 24 i57_23 rfl rfl (by decide) ?_
  refine X.iiF 25 .iadd (fun x y => x + y) i57_24 rfl rfl rfl (fun _ _ => rfl) (fun z508 hz508 => ?_)
  refine X.iast' 26 i57_25 rfl rfl (by decide) rfl (by omega) (fun hrm509 m509 hm509 => ?_)
  have hJ510 := w34_0 hJ506 hm509 (by omega) hrm509
  refine X.aload_n 27 i57_26 rfl rfl rfl ?_
  refine X.iload 29 i57_27 rfl rfl rfl ?_
  refine X.iload_n 30 i57_29 rfl rfl rfl ?_
  refine X.iconst 31 i57_30 rfl rfl (by decide) ?_
  refine X.callv 34 [zi a4, zi a1, zi 0] [] [(0, zr g3 37), (1, zi a4), (2, zi a1), (3, zi 0)] i57_31 rfl (by decide) rfl rfl (by omega) rfl rfl (by decide) rfl t55 (Nat.le_of_ble_eq_true rfl) (Nat.le_of_ble_eq_true rfl) rfl ?_
  refine X.aload_n 1 i55_0 rfl rfl rfl ?_
  refine X.getI 4 1 i55_1 rfl rfl (by decide) rfl rfl rfl ?_
  have h511 := r37_1 hJ510 g3
  refine X.bipush 6 i55_4 rfl rfl (by decide) ?_
  refine X.irem 7 i55_6 rfl rfl (by omega) ?_
  refine X.iconst 8 i55_7 rfl rfl (by decide) ?_
  refine X.imul 9 i55_8 rfl rfl (by omega) ?_
  refine X.istore 11 [(0, zr g3 37), (1, zi a4), (2, zi a1), (3, zi 0), (4, zi (((m509 g3 37 1) % 40) * 3))] i55_9 rfl rfl rfl ?_
  refine X.aload_n 12 i55_11 rfl rfl rfl ?_
  refine X.getR 15 i55_12 rfl rfl (by decide) rfl rfl ?_
  refine X.iload 17 i55_15 rfl rfl rfl ?_
  refine X.iload_n 18 i55_17 rfl rfl rfl ?_
  refine X.iast' 19 i55_18 rfl rfl (by decide) rfl (by omega) (fun hrm512 m512 hm512 => ?_)
  have hJ513 := w38_0 hJ510 hm512 (by omega) hrm512
  refine X.aload_n 20 i55_19 rfl rfl rfl ?_
  refine X.getR 23 i55_20 rfl rfl (by decide) rfl rfl ?_
  refine X.iload 25 i55_23 rfl rfl rfl ?_
  refine X.iconst 26 i55_25 rfl rfl (by decide) ?_
  refine X.iadd 27 i55_26 rfl rfl (by omega) ?_
  refine X.iload_n 28 i55_27 rfl rfl rfl ?_
  refine X.iast' 29 i55_28 rfl rfl (by decide) rfl (by omega) (fun hrm514 m514 hm514 => ?_)
  have hJ515 := w38_0 hJ513 hm514 (by omega) hrm514
  refine X.aload_n 30 i55_29 rfl rfl rfl ?_
  refine X.getR 33 i55_30 rfl rfl (by decide) rfl rfl ?_
  refine X.iload 35 i55_33 rfl rfl rfl ?_
  refine X.iconst 36 i55_35 rfl rfl (by decide) ?_
  refine X.iadd 37 i55_36 rfl rfl (by omega) ?_
  refine X.iload_n 38 i55_37 rfl rfl rfl ?_
  refine X.iast' 39 i55_38 rfl rfl (by decide) rfl (by omega) (fun hrm516 m516 hm516 => ?_)
  have hJ517 := w38_0 hJ515 hm516 (by omega) hrm516
  refine X.aload_n 40 i55_39 rfl rfl rfl ?_
  refine X.dup 41 i55_40 rfl rfl rfl ?_
  refine X.getI 44 1 i55_41 rfl rfl (by decide) rfl rfl rfl ?_
  have h518 := r37_1 hJ517 g3
  refine X.iconst 45 i55_44 rfl rfl (by decide) ?_
  refine X.iadd 46 i55_45 rfl rfl (by omega) ?_
  refine X.putI' 49 1 i55_46 rfl rfl (by decide) rfl rfl rfl (fun hrm519 m519 hm519 => ?_)
  have hJ520 := w37_1 (hJ517.up (B' := B + 1) (by omega)) hm519 (by omega)
  refine X.retv i55_49 rfl t55 ?_
  show X (EE s) d 57 34 [(0, zr g0 33), (1, zi a1), (2, zi a2), (3, zr g3 37), (4, zi a4)] [] m519 _
  refine X.goto 62 i57_34 rfl rfl ?_
  refine X.cut [] i57_62 rfl ?_
  refine X.retv i57_62 rfl t57 ?_
  exact hQ  m519  (hJ520.up (by omega)) 
-- WorkMeter$Marks.turn
theorem c57_2 {s : Nat × (Nat → Int32)} {S : zS} {m0 m : zM} {B : Int} {d : Nat} {Q : Option zV → zM → Prop} (g0 g3 : Nat) (a1 a2 a4 : Int) (hd : 13 ≤ d) (hJ : J S m0 B m) (hB : B + 1 ≤ 1000000000) (ha1 : 2 ≤ a1 ∧ a1 ≤ 4) (ha2 : 0 ≤ a2 ∧ a2 ≤ 0) (ha4 : (-2000000000) ≤ a4 ∧ a4 ≤ 2000003599) (hQ : ∀ m', J S m0 (B + 1) m' → Q none m') : X (EE s) d 57 0 [(0, zr g0 33), (1, zi a1), (2, zi a2), (3, zr g3 37), (4, zi a4)] [] m Q := by
  refine X.iload_n 1 i57_0 rfl rfl rfl ?_
  refine X.ifeq 37 4 i57_1 rfl rfl rfl (fun h501 => ?_) (fun h501 => (by exfalso; omega))
  refine X.cut [(0, zr g0 33), (1, zi a1), (3, zr g3 37), (4, zi a4)] i57_37 rfl ?_
  refine X.aload_n 38 i57_37 rfl rfl rfl ?_
  refine X.dup 39 i57_38 rfl rfl rfl ?_
  refine X.getIr 42 3 i57_39 rfl rfl (by decide) rfl rfl rfl (fun h502 => ?_)
  refine X.iconst 43 i57_42 rfl rfl (by decide) ?_
  refine X.iload_n 44 i57_43 rfl rfl rfl ?_
  refine X.iiF 45 .ishl (fun x y => x <<< (y &&& 31)) i57_44 rfl rfl rfl (fun _ _ => rfl) (fun z503 hz503 => ?_)
  refine X.iconst 46 i57_45 rfl rfl (by decide) ?_
  refine X.iiF 47 .ixor (fun x y => x ^^^ y) i57_46 rfl rfl rfl (fun _ _ => rfl) (fun z504 hz504 => ?_)
  refine X.iiF 48 .iand (fun x y => x &&& y) i57_47 rfl rfl rfl (fun _ _ => rfl) (fun z505 hz505 => ?_)
  refine X.putI' 51 3 i57_48 rfl rfl (by decide) rfl rfl rfl (fun hrm506 m506 hm506 => ?_)
  have hJ507 := w33_0 hJ hm506 (by omega) hrm506
  refine X.aload_n 52 i57_51 rfl rfl rfl ?_
  refine X.iload 54 i57_52 rfl rfl rfl ?_
  refine X.iload_n 55 i57_54 rfl rfl rfl ?_
  refine X.bipush 57 i57_55 rfl rfl (by decide) ?_
  refine X.iadd 58 i57_57 rfl rfl (by omega) ?_
  refine X.iconst 59 i57_58 rfl rfl (by decide) ?_
  refine X.callv 62 [zi a4, zi (a1 + 10), zi 0] [] [(0, zr g3 37), (1, zi a4), (2, zi (a1 + 10)), (3, zi 0)] i57_59 rfl (by decide) rfl rfl (by omega) rfl rfl (by decide) rfl t55 (Nat.le_of_ble_eq_true rfl) (Nat.le_of_ble_eq_true rfl) rfl ?_
  refine X.aload_n 1 i55_0 rfl rfl rfl ?_
  refine X.getI 4 1 i55_1 rfl rfl (by decide) rfl rfl rfl ?_
  have h508 := r37_1 hJ507 g3
  refine X.bipush 6 i55_4 rfl rfl (by decide) ?_
  refine X.irem 7 i55_6 rfl rfl (by omega) ?_
  refine X.iconst 8 i55_7 rfl rfl (by decide) ?_
  refine X.imul 9 i55_8 rfl rfl (by omega) ?_
  refine X.istore 11 [(0, zr g3 37), (1, zi a4), (2, zi (a1 + 10)), (3, zi 0), (4, zi (((m506 g3 37 1) % 40) * 3))] i55_9 rfl rfl rfl ?_
  refine X.aload_n 12 i55_11 rfl rfl rfl ?_
  refine X.getR 15 i55_12 rfl rfl (by decide) rfl rfl ?_
  refine X.iload 17 i55_15 rfl rfl rfl ?_
  refine X.iload_n 18 i55_17 rfl rfl rfl ?_
  refine X.iast' 19 i55_18 rfl rfl (by decide) rfl (by omega) (fun hrm509 m509 hm509 => ?_)
  have hJ510 := w38_0 hJ507 hm509 (by omega) hrm509
  refine X.aload_n 20 i55_19 rfl rfl rfl ?_
  refine X.getR 23 i55_20 rfl rfl (by decide) rfl rfl ?_
  refine X.iload 25 i55_23 rfl rfl rfl ?_
  refine X.iconst 26 i55_25 rfl rfl (by decide) ?_
  refine X.iadd 27 i55_26 rfl rfl (by omega) ?_
  refine X.iload_n 28 i55_27 rfl rfl rfl ?_
  refine X.iast' 29 i55_28 rfl rfl (by decide) rfl (by omega) (fun hrm511 m511 hm511 => ?_)
  have hJ512 := w38_0 hJ510 hm511 (by omega) hrm511
  refine X.aload_n 30 i55_29 rfl rfl rfl ?_
  refine X.getR 33 i55_30 rfl rfl (by decide) rfl rfl ?_
  refine X.iload 35 i55_33 rfl rfl rfl ?_
  refine X.iconst 36 i55_35 rfl rfl (by decide) ?_
  refine X.iadd 37 i55_36 rfl rfl (by omega) ?_
  refine X.iload_n 38 i55_37 rfl rfl rfl ?_
  refine X.iast' 39 i55_38 rfl rfl (by decide) rfl (by omega) (fun hrm513 m513 hm513 => ?_)
  have hJ514 := w38_0 hJ512 hm513 (by omega) hrm513
  refine X.aload_n 40 i55_39 rfl rfl rfl ?_
  refine X.dup 41 i55_40 rfl rfl rfl ?_
  refine X.getI 44 1 i55_41 rfl rfl (by decide) rfl rfl rfl ?_
  have h515 := r37_1 hJ514 g3
  refine X.iconst 45 i55_44 rfl rfl (by decide) ?_
  refine X.iadd 46 i55_45 rfl rfl (by omega) ?_
  refine X.putI' 49 1 i55_46 rfl rfl (by decide) rfl rfl rfl (fun hrm516 m516 hm516 => ?_)
  have hJ517 := w37_1 (hJ514.up (B' := B + 1) (by omega)) hm516 (by omega)
  refine X.retv i55_49 rfl t55 ?_
  show X (EE s) d 57 62 [(0, zr g0 33), (1, zi a1), (3, zr g3 37), (4, zi a4)] [] m516 _
  refine X.cut [] i57_62 rfl ?_
  refine X.retv i57_62 rfl t57 ?_
  exact hQ  m516  (hJ517.up (by omega)) 
theorem l56_3_1 {s : Nat × (Nat → Int32)} {S : zS} {m0 : zM} {d : Nat} {Q : Option zV → zM → Prop} (g0 g4 : Nat) (y1 y2 y3 y5 : Int) (BE : Int) (hE : BE ≤ 1000000000) (hd : 14 ≤ d) (hy1 : (-1999999999) ≤ y1 ∧ y1 ≤ 3600) (hy2 : (-2147483648) ≤ y2 ∧ y2 ≤ 2147483647) (hy3 : 0 ≤ y3 ∧ y3 ≤ 1000000) (hy5 : (-2000000000) ≤ y5 ∧ y5 ≤ 2000003599)
    (K149 : ∀ (m' : zM) (B' : Int), J S m0 B' m' → B' ≤ BE → X (EE s) d 56 149 [] [] m' Q) :
    ∀ (n : Nat) (y6 : Int) (m : zM) (B : Int), J S m0 B m → B + 1 * (n : Int) ≤ BE → (0 ≤ y6 ∧ y6 ≤ 5) → 5 - y6 < (n : Int) → X (EE s) d 56 3 [(0, zr g0 33), (1, zi y1), (2, zi y2), (3, zi y3), (4, zr g4 37), (5, zi y5), (6, zi y6)] [] m Q := by
  intro n
  induction n with
  | zero =>
    intro y6 m B hJ hB  hy6 hn
    exfalso
    omega
  | succ n ih =>
    intro y6 m B hJ hB  hy6 hn
    refine X.iload 5 i56_3 rfl rfl rfl ?_
    refine X.iconst 6 i56_5 rfl rfl (by decide) ?_
    refine X.icmpge 149 9 i56_6 rfl rfl rfl (fun h623 => ?_) (fun h623 => ?_)
    · refine X.cut [] i56_149 rfl ?_
      exact K149  m (B) (hJ.up (by omega)) (by omega)  
    · refine X.aload_n 10 i56_9 rfl rfl rfl ?_
      refine X.iload 12 i56_10 rfl rfl rfl ?_
      refine X.callv 15 [zi y6] [] [(0, zr g0 33), (1, zi y6)] i56_12 rfl (by decide) rfl rfl (by omega) rfl rfl (by decide) rfl t40 (Nat.le_of_ble_eq_true rfl) (Nat.le_of_ble_eq_true rfl) rfl ?_
      refine X.aload_n 1 i40_0 rfl rfl rfl ?_
      refine X.getIr 4 3 i40_1 rfl rfl (by decide) rfl rfl rfl (fun h624 => ?_)
      refine X.iload_n 5 i40_4 rfl rfl rfl ?_
      refine X.iiF 6 .ishr (fun x y => x >>> (y &&& 31)) i40_5 rfl rfl rfl (fun _ _ => rfl) (fun z625 hz625 => ?_)
      refine X.iconst 7 i40_6 rfl rfl (by decide) ?_
      refine X.andF 8 1 i40_7 rfl rfl (by decide) (.inl rfl) (fun z626 hz626 => ?_)
      refine X.iconst 9 i40_8 rfl rfl (by decide) ?_
      refine X.icmpne 16 12 i40_9 rfl rfl rfl (fun h627 => ?_) (fun h627 => ?_)
      · refine X.cut [] i40_16 rfl ?_
        refine X.iconst 17 i40_16 rfl rfl (by decide) ?_
        refine X.retz i40_17 rfl t40 (by omega) ?_
        show X (EE s) d 56 15 [(0, zr g0 33), (1, zi y1), (2, zi y2), (3, zi y3), (4, zr g4 37), (5, zi y5), (6, zi y6)] [zi 0] m _
        refine X.istore 17 [(0, zr g0 33), (1, zi y1), (2, zi y2), (3, zi y3), (4, zr g4 37), (5, zi y5), (6, zi y6), (7, zi 0)] i56_15 rfl rfl rfl ?_
        refine X.iload 19 i56_17 rfl rfl rfl ?_
        refine X.iconst 20 i56_19 rfl rfl (by decide) ?_
        refine X.icmplt 114 23 i56_20 rfl rfl rfl (fun h628 => ?_) (fun h628 => ?_)
        · refine X.aload_n 115 i56_114 rfl rfl rfl ?_
          refine X.iload 117 i56_115 rfl rfl rfl ?_
          refine X.callv 120 [zi y6] [] [(0, zr g0 33), (1, zi y6)] i56_117 rfl (by decide) rfl rfl (by omega) rfl rfl (by decide) rfl t40 (Nat.le_of_ble_eq_true rfl) (Nat.le_of_ble_eq_true rfl) rfl ?_
          refine X.aload_n 1 i40_0 rfl rfl rfl ?_
          refine X.getI 4 3 i40_1 rfl rfl (by decide) rfl rfl rfl ?_
          refine X.iload_n 5 i40_4 rfl rfl rfl ?_
          refine X.iiF 6 .ishr (fun x y => x >>> (y &&& 31)) i40_5 rfl rfl rfl (fun _ _ => rfl) (fun z629 hz629 => ?_)
          refine X.iconst 7 i40_6 rfl rfl (by decide) ?_
          refine X.andF 8 1 i40_7 rfl rfl (by decide) (.inl rfl) (fun z630 hz630 => ?_)
          refine X.iconst 9 i40_8 rfl rfl (by decide) ?_
          refine X.icmpne 16 12 i40_9 rfl rfl rfl (fun h631 => ?_) (fun h631 => ?_)
          · refine X.cut [] i40_16 rfl ?_
            refine X.iconst 17 i40_16 rfl rfl (by decide) ?_
            refine X.retz i40_17 rfl t40 (by omega) ?_
            show X (EE s) d 56 120 [(0, zr g0 33), (1, zi y1), (2, zi y2), (3, zi y3), (4, zr g4 37), (5, zi y5), (6, zi y6), (7, zi 0)] [zi 0] m _
            refine X.ifeq 143 123 i56_120 rfl rfl rfl (fun h632 => ?_) (fun h632 => (by exfalso; omega))
            refine X.cut [(0, zr g0 33), (1, zi y1), (2, zi y2), (3, zi y3), (4, zr g4 37), (5, zi y5), (6, zi y6)] i56_143 rfl ?_
            refine X.iinc 146 [(0, zr g0 33), (1, zi y1), (2, zi y2), (3, zi y3), (4, zr g4 37), (5, zi y5), (6, zi (y6 + 1))] i56_143 rfl rfl rfl (by omega) rfl ?_
            refine X.goto 3 i56_146 rfl rfl ?_
            exact ih (y6 + 1) m (B) (hJ.up (by omega)) (by omega)  (by omega) (by omega)
          · refine X.iconst 13 i40_12 rfl rfl (by decide) ?_
            refine X.goto 17 i40_13 rfl rfl ?_
            refine X.cut [] i40_17 rfl ?_
            refine X.retz i40_17 rfl t40 (by omega) ?_
            show X (EE s) d 56 120 [(0, zr g0 33), (1, zi y1), (2, zi y2), (3, zi y3), (4, zr g4 37), (5, zi y5), (6, zi y6), (7, zi 0)] [zi 1] m _
            refine X.ifeq 143 123 i56_120 rfl rfl rfl (fun h633 => (by exfalso; omega)) (fun h633 => ?_)
            refine X.aload_n 124 i56_123 rfl rfl rfl ?_
            refine X.getR 127 i56_124 rfl rfl (by decide) rfl rfl ?_
            refine X.iload 129 i56_127 rfl rfl rfl ?_
            refine X.dup2 130 i56_129 rfl rfl ?_
            refine X.ialdr 131 i56_130 rfl rfl (by decide) rfl (by omega) (fun h634 => ?_)
            refine X.iload 133 i56_131 rfl rfl rfl ?_
            refine X.ifeq 140 136 i56_133 rfl rfl rfl (fun h635 => ?_) (fun h635 => (by exfalso; omega))
            refine X.cut [(0, zr g0 33), (1, zi y1), (2, zi y2), (3, zi y3), (4, zr g4 37), (5, zi y5), (6, zi y6)] i56_140 rfl ?_
            refine X.iconst 141 i56_140 rfl rfl (by decide) ?_
            refine X.iiF 142 .iadd (fun x y => x + y) i56_141 rfl rfl rfl (fun _ _ => rfl) (fun z636 hz636 => ?_)
            refine X.iast' 143 i56_142 rfl rfl (by decide) rfl (by omega) (fun hrm637 m637 hm637 => ?_)
            have hJ638 := w35_0 hJ hm637 (by omega) hrm637
            refine X.iinc 146 [(0, zr g0 33), (1, zi y1), (2, zi y2), (3, zi y3), (4, zr g4 37), (5, zi y5), (6, zi (y6 + 1))] i56_143 rfl rfl rfl (by omega) rfl ?_
            refine X.goto 3 i56_146 rfl rfl ?_
            exact ih (y6 + 1) m637 (B) (hJ638.up (by omega)) (by omega)  (by omega) (by omega)
        · refine X.iload_n 24 i56_23 rfl rfl rfl ?_
          refine X.iload 26 i56_24 rfl rfl rfl ?_
          refine X.iiF 27 .ishr (fun x y => x >>> (y &&& 31)) i56_26 rfl rfl rfl (fun _ _ => rfl) (fun z639 hz639 => ?_)
          refine X.iconst 28 i56_27 rfl rfl (by decide) ?_
          refine X.andF 29 1 i56_28 rfl rfl (by decide) (.inl rfl) (fun z640 hz640 => ?_)
          refine X.iconst 30 i56_29 rfl rfl (by decide) ?_
          refine X.icmpne 37 33 i56_30 rfl rfl rfl (fun h641 => ?_) (fun h641 => ?_)
          · refine X.iconst 38 i56_37 rfl rfl (by decide) ?_
            refine X.istore 40 [(0, zr g0 33), (1, zi y1), (2, zi y2), (3, zi y3), (4, zr g4 37), (5, zi y5), (6, zi y6), (7, zi 0), (8, zi 0)] i56_38 rfl rfl rfl ?_
            refine X.aload_n 41 i56_40 rfl rfl rfl ?_
            refine X.getR 44 i56_41 rfl rfl (by decide) rfl rfl ?_
            refine X.iload 46 i56_44 rfl rfl rfl ?_
            refine X.iload 48 i56_46 rfl rfl rfl ?_
            refine X.ifeq 63 51 i56_48 rfl rfl rfl (fun h642 => ?_) (fun h642 => (by exfalso; omega))
            refine X.iconst 64 i56_63 rfl rfl (by decide) ?_
            refine X.iast' 65 i56_64 rfl rfl (by decide) rfl (by omega) (fun hrm643 m643 hm643 => ?_)
            have hJ644 := w36_0 hJ hm643 (by omega) hrm643
            refine X.iload 67 i56_65 rfl rfl rfl ?_
            refine X.ifeq 78 70 i56_67 rfl rfl rfl (fun h645 => ?_) (fun h645 => (by exfalso; omega))
            refine X.iload 80 i56_78 rfl rfl rfl ?_
            refine X.ifeq 114 83 i56_80 rfl rfl rfl (fun h646 => ?_) (fun h646 => (by exfalso; omega))
            refine X.cut [(0, zr g0 33), (1, zi y1), (2, zi y2), (3, zi y3), (4, zr g4 37), (5, zi y5), (6, zi y6), (7, zi 0)] i56_114 rfl ?_
            refine X.aload_n 115 i56_114 rfl rfl rfl ?_
            refine X.iload 117 i56_115 rfl rfl rfl ?_
            refine X.callv 120 [zi y6] [] [(0, zr g0 33), (1, zi y6)] i56_117 rfl (by decide) rfl rfl (by omega) rfl rfl (by decide) rfl t40 (Nat.le_of_ble_eq_true rfl) (Nat.le_of_ble_eq_true rfl) rfl ?_
            refine X.aload_n 1 i40_0 rfl rfl rfl ?_
            refine X.getIr 4 3 i40_1 rfl rfl (by decide) rfl rfl rfl (fun h647 => ?_)
            refine X.iload_n 5 i40_4 rfl rfl rfl ?_
            refine X.iiF 6 .ishr (fun x y => x >>> (y &&& 31)) i40_5 rfl rfl rfl (fun _ _ => rfl) (fun z648 hz648 => ?_)
            refine X.iconst 7 i40_6 rfl rfl (by decide) ?_
            refine X.andF 8 1 i40_7 rfl rfl (by decide) (.inl rfl) (fun z649 hz649 => ?_)
            refine X.iconst 9 i40_8 rfl rfl (by decide) ?_
            refine X.icmpne 16 12 i40_9 rfl rfl rfl (fun h650 => ?_) (fun h650 => ?_)
            · refine X.cut [] i40_16 rfl ?_
              refine X.iconst 17 i40_16 rfl rfl (by decide) ?_
              refine X.retz i40_17 rfl t40 (by omega) ?_
              show X (EE s) d 56 120 [(0, zr g0 33), (1, zi y1), (2, zi y2), (3, zi y3), (4, zr g4 37), (5, zi y5), (6, zi y6), (7, zi 0)] [zi 0] m643 _
              refine X.ifeq 143 123 i56_120 rfl rfl rfl (fun h651 => ?_) (fun h651 => (by exfalso; omega))
              refine X.cut [(0, zr g0 33), (1, zi y1), (2, zi y2), (3, zi y3), (4, zr g4 37), (5, zi y5), (6, zi y6)] i56_143 rfl ?_
              refine X.iinc 146 [(0, zr g0 33), (1, zi y1), (2, zi y2), (3, zi y3), (4, zr g4 37), (5, zi y5), (6, zi (y6 + 1))] i56_143 rfl rfl rfl (by omega) rfl ?_
              refine X.goto 3 i56_146 rfl rfl ?_
              exact ih (y6 + 1) m643 (B) (hJ644.up (by omega)) (by omega)  (by omega) (by omega)
            · refine X.iconst 13 i40_12 rfl rfl (by decide) ?_
              refine X.goto 17 i40_13 rfl rfl ?_
              refine X.cut [] i40_17 rfl ?_
              refine X.retz i40_17 rfl t40 (by omega) ?_
              show X (EE s) d 56 120 [(0, zr g0 33), (1, zi y1), (2, zi y2), (3, zi y3), (4, zr g4 37), (5, zi y5), (6, zi y6), (7, zi 0)] [zi 1] m643 _
              refine X.ifeq 143 123 i56_120 rfl rfl rfl (fun h652 => (by exfalso; omega)) (fun h652 => ?_)
              refine X.aload_n 124 i56_123 rfl rfl rfl ?_
              refine X.getR 127 i56_124 rfl rfl (by decide) rfl rfl ?_
              refine X.iload 129 i56_127 rfl rfl rfl ?_
              refine X.dup2 130 i56_129 rfl rfl ?_
              refine X.ialdr 131 i56_130 rfl rfl (by decide) rfl (by omega) (fun h653 => ?_)
              refine X.iload 133 i56_131 rfl rfl rfl ?_
              refine X.ifeq 140 136 i56_133 rfl rfl rfl (fun h654 => ?_) (fun h654 => (by exfalso; omega))
              refine X.cut [(0, zr g0 33), (1, zi y1), (2, zi y2), (3, zi y3), (4, zr g4 37), (5, zi y5), (6, zi y6)] i56_140 rfl ?_
              refine X.iconst 141 i56_140 rfl rfl (by decide) ?_
              refine X.iiF 142 .iadd (fun x y => x + y) i56_141 rfl rfl rfl (fun _ _ => rfl) (fun z655 hz655 => ?_)
              refine X.iast' 143 i56_142 rfl rfl (by decide) rfl (by omega) (fun hrm656 m656 hm656 => ?_)
              have hJ657 := w35_0 hJ644 hm656 (by omega) hrm656
              refine X.iinc 146 [(0, zr g0 33), (1, zi y1), (2, zi y2), (3, zi y3), (4, zr g4 37), (5, zi y5), (6, zi (y6 + 1))] i56_143 rfl rfl rfl (by omega) rfl ?_
              refine X.goto 3 i56_146 rfl rfl ?_
              exact ih (y6 + 1) m656 (B) (hJ657.up (by omega)) (by omega)  (by omega) (by omega)
          · refine X.iconst 34 i56_33 rfl rfl (by decide) ?_
            refine X.goto 38 i56_34 rfl rfl ?_
            refine X.istore 40 [(0, zr g0 33), (1, zi y1), (2, zi y2), (3, zi y3), (4, zr g4 37), (5, zi y5), (6, zi y6), (7, zi 0), (8, zi 1)] i56_38 rfl rfl rfl ?_
            refine X.aload_n 41 i56_40 rfl rfl rfl ?_
            refine X.getR 44 i56_41 rfl rfl (by decide) rfl rfl ?_
            refine X.iload 46 i56_44 rfl rfl rfl ?_
            refine X.iload 48 i56_46 rfl rfl rfl ?_
            refine X.ifeq 63 51 i56_48 rfl rfl rfl (fun h658 => (by exfalso; omega)) (fun h658 => ?_)
            refine X.aload_n 52 i56_51 rfl rfl rfl ?_
            refine X.getR 55 i56_52 rfl rfl (by decide) rfl rfl ?_
            refine X.iload 57 i56_55 rfl rfl rfl ?_
            refine X.ialdr 58 i56_57 rfl rfl (by decide) rfl (by omega) (fun h659 => ?_)
            refine X.iload_n 59 i56_58 rfl rfl rfl ?_
            refine X.iiF 60 .iadd (fun x y => x + y) i56_59 rfl rfl rfl (fun _ _ => rfl) (fun z660 hz660 => ?_)
            refine X.goto 64 i56_60 rfl rfl ?_
            refine X.iast' 65 i56_64 rfl rfl (by decide) rfl (by omega) (fun hrm661 m661 hm661 => ?_)
            have hJ662 := w36_0 hJ hm661 (by omega) hrm661
            refine X.iload 67 i56_65 rfl rfl rfl ?_
            refine X.ifeq 78 70 i56_67 rfl rfl rfl (fun h663 => ?_) (fun h663 => (by exfalso; omega))
            refine X.iload 80 i56_78 rfl rfl rfl ?_
            refine X.ifeq 114 83 i56_80 rfl rfl rfl (fun h664 => (by exfalso; omega)) (fun h664 => ?_)
            refine X.aload_n 84 i56_83 rfl rfl rfl ?_
            refine X.getR 87 i56_84 rfl rfl (by decide) rfl rfl ?_
            refine X.iload 89 i56_87 rfl rfl rfl ?_
            refine X.ialdr 90 i56_89 rfl rfl (by decide) rfl (by omega) (fun h665 => ?_)
            refine X.iload_n 91 i56_90 rfl rfl rfl ?_
            refine X.icmple 114 94 i56_91 rfl rfl rfl (fun h666 => ?_) (fun h666 => ?_)
            · refine X.cut [(0, zr g0 33), (1, zi y1), (2, zi y2), (3, zi y3), (4, zr g4 37), (5, zi y5), (6, zi y6), (7, zi 0)] i56_114 rfl ?_
              refine X.aload_n 115 i56_114 rfl rfl rfl ?_
              refine X.iload 117 i56_115 rfl rfl rfl ?_
              refine X.callv 120 [zi y6] [] [(0, zr g0 33), (1, zi y6)] i56_117 rfl (by decide) rfl rfl (by omega) rfl rfl (by decide) rfl t40 (Nat.le_of_ble_eq_true rfl) (Nat.le_of_ble_eq_true rfl) rfl ?_
              refine X.aload_n 1 i40_0 rfl rfl rfl ?_
              refine X.getIr 4 3 i40_1 rfl rfl (by decide) rfl rfl rfl (fun h667 => ?_)
              refine X.iload_n 5 i40_4 rfl rfl rfl ?_
              refine X.iiF 6 .ishr (fun x y => x >>> (y &&& 31)) i40_5 rfl rfl rfl (fun _ _ => rfl) (fun z668 hz668 => ?_)
              refine X.iconst 7 i40_6 rfl rfl (by decide) ?_
              refine X.andF 8 1 i40_7 rfl rfl (by decide) (.inl rfl) (fun z669 hz669 => ?_)
              refine X.iconst 9 i40_8 rfl rfl (by decide) ?_
              refine X.icmpne 16 12 i40_9 rfl rfl rfl (fun h670 => ?_) (fun h670 => ?_)
              · refine X.cut [] i40_16 rfl ?_
                refine X.iconst 17 i40_16 rfl rfl (by decide) ?_
                refine X.retz i40_17 rfl t40 (by omega) ?_
                show X (EE s) d 56 120 [(0, zr g0 33), (1, zi y1), (2, zi y2), (3, zi y3), (4, zr g4 37), (5, zi y5), (6, zi y6), (7, zi 0)] [zi 0] m661 _
                refine X.ifeq 143 123 i56_120 rfl rfl rfl (fun h671 => ?_) (fun h671 => (by exfalso; omega))
                refine X.cut [(0, zr g0 33), (1, zi y1), (2, zi y2), (3, zi y3), (4, zr g4 37), (5, zi y5), (6, zi y6)] i56_143 rfl ?_
                refine X.iinc 146 [(0, zr g0 33), (1, zi y1), (2, zi y2), (3, zi y3), (4, zr g4 37), (5, zi y5), (6, zi (y6 + 1))] i56_143 rfl rfl rfl (by omega) rfl ?_
                refine X.goto 3 i56_146 rfl rfl ?_
                exact ih (y6 + 1) m661 (B) (hJ662.up (by omega)) (by omega)  (by omega) (by omega)
              · refine X.iconst 13 i40_12 rfl rfl (by decide) ?_
                refine X.goto 17 i40_13 rfl rfl ?_
                refine X.cut [] i40_17 rfl ?_
                refine X.retz i40_17 rfl t40 (by omega) ?_
                show X (EE s) d 56 120 [(0, zr g0 33), (1, zi y1), (2, zi y2), (3, zi y3), (4, zr g4 37), (5, zi y5), (6, zi y6), (7, zi 0)] [zi 1] m661 _
                refine X.ifeq 143 123 i56_120 rfl rfl rfl (fun h672 => (by exfalso; omega)) (fun h672 => ?_)
                refine X.aload_n 124 i56_123 rfl rfl rfl ?_
                refine X.getR 127 i56_124 rfl rfl (by decide) rfl rfl ?_
                refine X.iload 129 i56_127 rfl rfl rfl ?_
                refine X.dup2 130 i56_129 rfl rfl ?_
                refine X.ialdr 131 i56_130 rfl rfl (by decide) rfl (by omega) (fun h673 => ?_)
                refine X.iload 133 i56_131 rfl rfl rfl ?_
                refine X.ifeq 140 136 i56_133 rfl rfl rfl (fun h674 => ?_) (fun h674 => (by exfalso; omega))
                refine X.cut [(0, zr g0 33), (1, zi y1), (2, zi y2), (3, zi y3), (4, zr g4 37), (5, zi y5), (6, zi y6)] i56_140 rfl ?_
                refine X.iconst 141 i56_140 rfl rfl (by decide) ?_
                refine X.iiF 142 .iadd (fun x y => x + y) i56_141 rfl rfl rfl (fun _ _ => rfl) (fun z675 hz675 => ?_)
                refine X.iast' 143 i56_142 rfl rfl (by decide) rfl (by omega) (fun hrm676 m676 hm676 => ?_)
                have hJ677 := w35_0 hJ662 hm676 (by omega) hrm676
                refine X.iinc 146 [(0, zr g0 33), (1, zi y1), (2, zi y2), (3, zi y3), (4, zr g4 37), (5, zi y5), (6, zi (y6 + 1))] i56_143 rfl rfl rfl (by omega) rfl ?_
                refine X.goto 3 i56_146 rfl rfl ?_
                exact ih (y6 + 1) m676 (B) (hJ677.up (by omega)) (by omega)  (by omega) (by omega)
            · refine X.cut [(0, zr g0 33), (1, zi y1), (2, zi y2), (3, zi y3), (4, zr g4 37), (5, zi y5), (6, zi y6), (7, zi 0)] i56_94 rfl ?_
              refine X.aload_n 95 i56_94 rfl rfl rfl ?_
              refine X.iload 97 i56_95 rfl rfl rfl ?_
              refine X.iload 99 i56_97 rfl rfl rfl ?_
              refine X.ifne 106 102 i56_99 rfl rfl rfl (fun h678 => (by exfalso; omega)) (fun h678 => ?_)
              refine X.iconst 103 i56_102 rfl rfl (by decide) ?_
              refine X.goto 107 i56_103 rfl rfl ?_
              refine X.aload 109 i56_107 rfl rfl rfl ?_
              refine X.iload 111 i56_109 rfl rfl rfl ?_
              refine X.callv 114 [zi y6, zi 1, zr g4 37, zi y5] [] [(0, zr g0 33), (1, zi y6), (2, zi 1), (3, zr g4 37), (4, zi y5)] i56_111 rfl (by decide) rfl rfl (by omega) rfl rfl (by decide) rfl t57 (Nat.le_of_ble_eq_true rfl) (Nat.le_of_ble_eq_true rfl) rfl ?_
              refine c57_1 (B := B) g0 g4 y6 1 y5 (by omega) (hJ662.up (by omega)) (by omega) (by omega) (by omega) (by omega) (fun m679 hJ680 => ?_)
              show X (EE s) d 56 114 [(0, zr g0 33), (1, zi y1), (2, zi y2), (3, zi y3), (4, zr g4 37), (5, zi y5), (6, zi y6), (7, zi 0)] [] m679 _
              refine X.aload_n 115 i56_114 rfl rfl rfl ?_
              refine X.iload 117 i56_115 rfl rfl rfl ?_
              refine X.callv 120 [zi y6] [] [(0, zr g0 33), (1, zi y6)] i56_117 rfl (by decide) rfl rfl (by omega) rfl rfl (by decide) rfl t40 (Nat.le_of_ble_eq_true rfl) (Nat.le_of_ble_eq_true rfl) rfl ?_
              refine X.aload_n 1 i40_0 rfl rfl rfl ?_
              refine X.getIr 4 3 i40_1 rfl rfl (by decide) rfl rfl rfl (fun h682 => ?_)
              refine X.iload_n 5 i40_4 rfl rfl rfl ?_
              refine X.iiF 6 .ishr (fun x y => x >>> (y &&& 31)) i40_5 rfl rfl rfl (fun _ _ => rfl) (fun z683 hz683 => ?_)
              refine X.iconst 7 i40_6 rfl rfl (by decide) ?_
              refine X.andF 8 1 i40_7 rfl rfl (by decide) (.inl rfl) (fun z684 hz684 => ?_)
              refine X.iconst 9 i40_8 rfl rfl (by decide) ?_
              refine X.icmpne 16 12 i40_9 rfl rfl rfl (fun h685 => ?_) (fun h685 => ?_)
              · refine X.cut [] i40_16 rfl ?_
                refine X.iconst 17 i40_16 rfl rfl (by decide) ?_
                refine X.retz i40_17 rfl t40 (by omega) ?_
                show X (EE s) d 56 120 [(0, zr g0 33), (1, zi y1), (2, zi y2), (3, zi y3), (4, zr g4 37), (5, zi y5), (6, zi y6), (7, zi 0)] [zi 0] m679 _
                refine X.ifeq 143 123 i56_120 rfl rfl rfl (fun h686 => ?_) (fun h686 => (by exfalso; omega))
                refine X.cut [(0, zr g0 33), (1, zi y1), (2, zi y2), (3, zi y3), (4, zr g4 37), (5, zi y5), (6, zi y6)] i56_143 rfl ?_
                refine X.iinc 146 [(0, zr g0 33), (1, zi y1), (2, zi y2), (3, zi y3), (4, zr g4 37), (5, zi y5), (6, zi (y6 + 1))] i56_143 rfl rfl rfl (by omega) rfl ?_
                refine X.goto 3 i56_146 rfl rfl ?_
                exact ih (y6 + 1) m679 (B + 1) (hJ680.up (by omega)) (by omega)  (by omega) (by omega)
              · refine X.iconst 13 i40_12 rfl rfl (by decide) ?_
                refine X.goto 17 i40_13 rfl rfl ?_
                refine X.cut [] i40_17 rfl ?_
                refine X.retz i40_17 rfl t40 (by omega) ?_
                show X (EE s) d 56 120 [(0, zr g0 33), (1, zi y1), (2, zi y2), (3, zi y3), (4, zr g4 37), (5, zi y5), (6, zi y6), (7, zi 0)] [zi 1] m679 _
                refine X.ifeq 143 123 i56_120 rfl rfl rfl (fun h687 => (by exfalso; omega)) (fun h687 => ?_)
                refine X.aload_n 124 i56_123 rfl rfl rfl ?_
                refine X.getR 127 i56_124 rfl rfl (by decide) rfl rfl ?_
                refine X.iload 129 i56_127 rfl rfl rfl ?_
                refine X.dup2 130 i56_129 rfl rfl ?_
                refine X.ialdr 131 i56_130 rfl rfl (by decide) rfl (by omega) (fun h688 => ?_)
                refine X.iload 133 i56_131 rfl rfl rfl ?_
                refine X.ifeq 140 136 i56_133 rfl rfl rfl (fun h689 => ?_) (fun h689 => (by exfalso; omega))
                refine X.cut [(0, zr g0 33), (1, zi y1), (2, zi y2), (3, zi y3), (4, zr g4 37), (5, zi y5), (6, zi y6)] i56_140 rfl ?_
                refine X.iconst 141 i56_140 rfl rfl (by decide) ?_
                refine X.iiF 142 .iadd (fun x y => x + y) i56_141 rfl rfl rfl (fun _ _ => rfl) (fun z690 hz690 => ?_)
                refine X.iast' 143 i56_142 rfl rfl (by decide) rfl (by omega) (fun hrm691 m691 hm691 => ?_)
                have hJ692 := w35_0 hJ680 hm691 (by omega) hrm691
                refine X.iinc 146 [(0, zr g0 33), (1, zi y1), (2, zi y2), (3, zi y3), (4, zr g4 37), (5, zi y5), (6, zi (y6 + 1))] i56_143 rfl rfl rfl (by omega) rfl ?_
                refine X.goto 3 i56_146 rfl rfl ?_
                exact ih (y6 + 1) m691 (B + 1) (hJ692.up (by omega)) (by omega)  (by omega) (by omega)
      · refine X.iconst 13 i40_12 rfl rfl (by decide) ?_
        refine X.goto 17 i40_13 rfl rfl ?_
        refine X.cut [] i40_17 rfl ?_
        refine X.retz i40_17 rfl t40 (by omega) ?_
        show X (EE s) d 56 15 [(0, zr g0 33), (1, zi y1), (2, zi y2), (3, zi y3), (4, zr g4 37), (5, zi y5), (6, zi y6)] [zi 1] m _
        refine X.istore 17 [(0, zr g0 33), (1, zi y1), (2, zi y2), (3, zi y3), (4, zr g4 37), (5, zi y5), (6, zi y6), (7, zi 1)] i56_15 rfl rfl rfl ?_
        refine X.iload 19 i56_17 rfl rfl rfl ?_
        refine X.iconst 20 i56_19 rfl rfl (by decide) ?_
        refine X.icmplt 114 23 i56_20 rfl rfl rfl (fun h693 => ?_) (fun h693 => ?_)
        · refine X.aload_n 115 i56_114 rfl rfl rfl ?_
          refine X.iload 117 i56_115 rfl rfl rfl ?_
          refine X.callv 120 [zi y6] [] [(0, zr g0 33), (1, zi y6)] i56_117 rfl (by decide) rfl rfl (by omega) rfl rfl (by decide) rfl t40 (Nat.le_of_ble_eq_true rfl) (Nat.le_of_ble_eq_true rfl) rfl ?_
          refine X.aload_n 1 i40_0 rfl rfl rfl ?_
          refine X.getI 4 3 i40_1 rfl rfl (by decide) rfl rfl rfl ?_
          refine X.iload_n 5 i40_4 rfl rfl rfl ?_
          refine X.iiF 6 .ishr (fun x y => x >>> (y &&& 31)) i40_5 rfl rfl rfl (fun _ _ => rfl) (fun z694 hz694 => ?_)
          refine X.iconst 7 i40_6 rfl rfl (by decide) ?_
          refine X.andF 8 1 i40_7 rfl rfl (by decide) (.inl rfl) (fun z695 hz695 => ?_)
          refine X.iconst 9 i40_8 rfl rfl (by decide) ?_
          refine X.icmpne 16 12 i40_9 rfl rfl rfl (fun h696 => ?_) (fun h696 => ?_)
          · refine X.cut [] i40_16 rfl ?_
            refine X.iconst 17 i40_16 rfl rfl (by decide) ?_
            refine X.retz i40_17 rfl t40 (by omega) ?_
            show X (EE s) d 56 120 [(0, zr g0 33), (1, zi y1), (2, zi y2), (3, zi y3), (4, zr g4 37), (5, zi y5), (6, zi y6), (7, zi 1)] [zi 0] m _
            refine X.ifeq 143 123 i56_120 rfl rfl rfl (fun h697 => ?_) (fun h697 => (by exfalso; omega))
            refine X.cut [(0, zr g0 33), (1, zi y1), (2, zi y2), (3, zi y3), (4, zr g4 37), (5, zi y5), (6, zi y6)] i56_143 rfl ?_
            refine X.iinc 146 [(0, zr g0 33), (1, zi y1), (2, zi y2), (3, zi y3), (4, zr g4 37), (5, zi y5), (6, zi (y6 + 1))] i56_143 rfl rfl rfl (by omega) rfl ?_
            refine X.goto 3 i56_146 rfl rfl ?_
            exact ih (y6 + 1) m (B) (hJ.up (by omega)) (by omega)  (by omega) (by omega)
          · refine X.iconst 13 i40_12 rfl rfl (by decide) ?_
            refine X.goto 17 i40_13 rfl rfl ?_
            refine X.cut [] i40_17 rfl ?_
            refine X.retz i40_17 rfl t40 (by omega) ?_
            show X (EE s) d 56 120 [(0, zr g0 33), (1, zi y1), (2, zi y2), (3, zi y3), (4, zr g4 37), (5, zi y5), (6, zi y6), (7, zi 1)] [zi 1] m _
            refine X.ifeq 143 123 i56_120 rfl rfl rfl (fun h698 => (by exfalso; omega)) (fun h698 => ?_)
            refine X.aload_n 124 i56_123 rfl rfl rfl ?_
            refine X.getR 127 i56_124 rfl rfl (by decide) rfl rfl ?_
            refine X.iload 129 i56_127 rfl rfl rfl ?_
            refine X.dup2 130 i56_129 rfl rfl ?_
            refine X.ialdr 131 i56_130 rfl rfl (by decide) rfl (by omega) (fun h699 => ?_)
            refine X.iload 133 i56_131 rfl rfl rfl ?_
            refine X.ifeq 140 136 i56_133 rfl rfl rfl (fun h700 => (by exfalso; omega)) (fun h700 => ?_)
            refine X.iload_n 137 i56_136 rfl rfl rfl ?_
            refine X.goto 141 i56_137 rfl rfl ?_
            refine X.cut [(0, zr g0 33), (1, zi y1), (2, zi y2), (3, zi y3), (4, zr g4 37), (5, zi y5), (6, zi y6)] i56_141 rfl ?_
            refine X.iiF 142 .iadd (fun x y => x + y) i56_141 rfl rfl rfl (fun _ _ => rfl) (fun z701 hz701 => ?_)
            refine X.iast' 143 i56_142 rfl rfl (by decide) rfl (by omega) (fun hrm702 m702 hm702 => ?_)
            have hJ703 := w35_0 hJ hm702 (by omega) hrm702
            refine X.iinc 146 [(0, zr g0 33), (1, zi y1), (2, zi y2), (3, zi y3), (4, zr g4 37), (5, zi y5), (6, zi (y6 + 1))] i56_143 rfl rfl rfl (by omega) rfl ?_
            refine X.goto 3 i56_146 rfl rfl ?_
            exact ih (y6 + 1) m702 (B) (hJ703.up (by omega)) (by omega)  (by omega) (by omega)
        · refine X.iload_n 24 i56_23 rfl rfl rfl ?_
          refine X.iload 26 i56_24 rfl rfl rfl ?_
          refine X.iiF 27 .ishr (fun x y => x >>> (y &&& 31)) i56_26 rfl rfl rfl (fun _ _ => rfl) (fun z704 hz704 => ?_)
          refine X.iconst 28 i56_27 rfl rfl (by decide) ?_
          refine X.andF 29 1 i56_28 rfl rfl (by decide) (.inl rfl) (fun z705 hz705 => ?_)
          refine X.iconst 30 i56_29 rfl rfl (by decide) ?_
          refine X.icmpne 37 33 i56_30 rfl rfl rfl (fun h706 => ?_) (fun h706 => ?_)
          · refine X.iconst 38 i56_37 rfl rfl (by decide) ?_
            refine X.istore 40 [(0, zr g0 33), (1, zi y1), (2, zi y2), (3, zi y3), (4, zr g4 37), (5, zi y5), (6, zi y6), (7, zi 1), (8, zi 0)] i56_38 rfl rfl rfl ?_
            refine X.aload_n 41 i56_40 rfl rfl rfl ?_
            refine X.getR 44 i56_41 rfl rfl (by decide) rfl rfl ?_
            refine X.iload 46 i56_44 rfl rfl rfl ?_
            refine X.iload 48 i56_46 rfl rfl rfl ?_
            refine X.ifeq 63 51 i56_48 rfl rfl rfl (fun h707 => ?_) (fun h707 => (by exfalso; omega))
            refine X.iconst 64 i56_63 rfl rfl (by decide) ?_
            refine X.iast' 65 i56_64 rfl rfl (by decide) rfl (by omega) (fun hrm708 m708 hm708 => ?_)
            have hJ709 := w36_0 hJ hm708 (by omega) hrm708
            refine X.iload 67 i56_65 rfl rfl rfl ?_
            refine X.ifeq 78 70 i56_67 rfl rfl rfl (fun h710 => (by exfalso; omega)) (fun h710 => ?_)
            refine X.iload 72 i56_70 rfl rfl rfl ?_
            refine X.ifne 114 75 i56_72 rfl rfl rfl (fun h711 => (by exfalso; omega)) (fun h711 => ?_)
            refine X.goto 94 i56_75 rfl rfl ?_
            refine X.cut [(0, zr g0 33), (1, zi y1), (2, zi y2), (3, zi y3), (4, zr g4 37), (5, zi y5), (6, zi y6), (7, zi 1)] i56_94 rfl ?_
            refine X.aload_n 95 i56_94 rfl rfl rfl ?_
            refine X.iload 97 i56_95 rfl rfl rfl ?_
            refine X.iload 99 i56_97 rfl rfl rfl ?_
            refine X.ifne 106 102 i56_99 rfl rfl rfl (fun h712 => ?_) (fun h712 => (by exfalso; omega))
            refine X.iconst 107 i56_106 rfl rfl (by decide) ?_
            refine X.aload 109 i56_107 rfl rfl rfl ?_
            refine X.iload 111 i56_109 rfl rfl rfl ?_
            refine X.callv 114 [zi y6, zi 0, zr g4 37, zi y5] [] [(0, zr g0 33), (1, zi y6), (2, zi 0), (3, zr g4 37), (4, zi y5)] i56_111 rfl (by decide) rfl rfl (by omega) rfl rfl (by decide) rfl t57 (Nat.le_of_ble_eq_true rfl) (Nat.le_of_ble_eq_true rfl) rfl ?_
            refine c57_2 (B := B) g0 g4 y6 0 y5 (by omega) (hJ709.up (by omega)) (by omega) (by omega) (by omega) (by omega) (fun m713 hJ714 => ?_)
            show X (EE s) d 56 114 [(0, zr g0 33), (1, zi y1), (2, zi y2), (3, zi y3), (4, zr g4 37), (5, zi y5), (6, zi y6), (7, zi 1)] [] m713 _
            refine X.aload_n 115 i56_114 rfl rfl rfl ?_
            refine X.iload 117 i56_115 rfl rfl rfl ?_
            refine X.callv 120 [zi y6] [] [(0, zr g0 33), (1, zi y6)] i56_117 rfl (by decide) rfl rfl (by omega) rfl rfl (by decide) rfl t40 (Nat.le_of_ble_eq_true rfl) (Nat.le_of_ble_eq_true rfl) rfl ?_
            refine X.aload_n 1 i40_0 rfl rfl rfl ?_
            refine X.getIr 4 3 i40_1 rfl rfl (by decide) rfl rfl rfl (fun h716 => ?_)
            refine X.iload_n 5 i40_4 rfl rfl rfl ?_
            refine X.iiF 6 .ishr (fun x y => x >>> (y &&& 31)) i40_5 rfl rfl rfl (fun _ _ => rfl) (fun z717 hz717 => ?_)
            refine X.iconst 7 i40_6 rfl rfl (by decide) ?_
            refine X.andF 8 1 i40_7 rfl rfl (by decide) (.inl rfl) (fun z718 hz718 => ?_)
            refine X.iconst 9 i40_8 rfl rfl (by decide) ?_
            refine X.icmpne 16 12 i40_9 rfl rfl rfl (fun h719 => ?_) (fun h719 => ?_)
            · refine X.cut [] i40_16 rfl ?_
              refine X.iconst 17 i40_16 rfl rfl (by decide) ?_
              refine X.retz i40_17 rfl t40 (by omega) ?_
              show X (EE s) d 56 120 [(0, zr g0 33), (1, zi y1), (2, zi y2), (3, zi y3), (4, zr g4 37), (5, zi y5), (6, zi y6), (7, zi 1)] [zi 0] m713 _
              refine X.ifeq 143 123 i56_120 rfl rfl rfl (fun h720 => ?_) (fun h720 => (by exfalso; omega))
              refine X.cut [(0, zr g0 33), (1, zi y1), (2, zi y2), (3, zi y3), (4, zr g4 37), (5, zi y5), (6, zi y6)] i56_143 rfl ?_
              refine X.iinc 146 [(0, zr g0 33), (1, zi y1), (2, zi y2), (3, zi y3), (4, zr g4 37), (5, zi y5), (6, zi (y6 + 1))] i56_143 rfl rfl rfl (by omega) rfl ?_
              refine X.goto 3 i56_146 rfl rfl ?_
              exact ih (y6 + 1) m713 (B + 1) (hJ714.up (by omega)) (by omega)  (by omega) (by omega)
            · refine X.iconst 13 i40_12 rfl rfl (by decide) ?_
              refine X.goto 17 i40_13 rfl rfl ?_
              refine X.cut [] i40_17 rfl ?_
              refine X.retz i40_17 rfl t40 (by omega) ?_
              show X (EE s) d 56 120 [(0, zr g0 33), (1, zi y1), (2, zi y2), (3, zi y3), (4, zr g4 37), (5, zi y5), (6, zi y6), (7, zi 1)] [zi 1] m713 _
              refine X.ifeq 143 123 i56_120 rfl rfl rfl (fun h721 => (by exfalso; omega)) (fun h721 => ?_)
              refine X.aload_n 124 i56_123 rfl rfl rfl ?_
              refine X.getR 127 i56_124 rfl rfl (by decide) rfl rfl ?_
              refine X.iload 129 i56_127 rfl rfl rfl ?_
              refine X.dup2 130 i56_129 rfl rfl ?_
              refine X.ialdr 131 i56_130 rfl rfl (by decide) rfl (by omega) (fun h722 => ?_)
              refine X.iload 133 i56_131 rfl rfl rfl ?_
              refine X.ifeq 140 136 i56_133 rfl rfl rfl (fun h723 => (by exfalso; omega)) (fun h723 => ?_)
              refine X.iload_n 137 i56_136 rfl rfl rfl ?_
              refine X.goto 141 i56_137 rfl rfl ?_
              refine X.cut [(0, zr g0 33), (1, zi y1), (2, zi y2), (3, zi y3), (4, zr g4 37), (5, zi y5), (6, zi y6)] i56_141 rfl ?_
              refine X.iiF 142 .iadd (fun x y => x + y) i56_141 rfl rfl rfl (fun _ _ => rfl) (fun z724 hz724 => ?_)
              refine X.iast' 143 i56_142 rfl rfl (by decide) rfl (by omega) (fun hrm725 m725 hm725 => ?_)
              have hJ726 := w35_0 hJ714 hm725 (by omega) hrm725
              refine X.iinc 146 [(0, zr g0 33), (1, zi y1), (2, zi y2), (3, zi y3), (4, zr g4 37), (5, zi y5), (6, zi (y6 + 1))] i56_143 rfl rfl rfl (by omega) rfl ?_
              refine X.goto 3 i56_146 rfl rfl ?_
              exact ih (y6 + 1) m725 (B + 1) (hJ726.up (by omega)) (by omega)  (by omega) (by omega)
          · refine X.iconst 34 i56_33 rfl rfl (by decide) ?_
            refine X.goto 38 i56_34 rfl rfl ?_
            refine X.istore 40 [(0, zr g0 33), (1, zi y1), (2, zi y2), (3, zi y3), (4, zr g4 37), (5, zi y5), (6, zi y6), (7, zi 1), (8, zi 1)] i56_38 rfl rfl rfl ?_
            refine X.aload_n 41 i56_40 rfl rfl rfl ?_
            refine X.getR 44 i56_41 rfl rfl (by decide) rfl rfl ?_
            refine X.iload 46 i56_44 rfl rfl rfl ?_
            refine X.iload 48 i56_46 rfl rfl rfl ?_
            refine X.ifeq 63 51 i56_48 rfl rfl rfl (fun h727 => (by exfalso; omega)) (fun h727 => ?_)
            refine X.aload_n 52 i56_51 rfl rfl rfl ?_
            refine X.getR 55 i56_52 rfl rfl (by decide) rfl rfl ?_
            refine X.iload 57 i56_55 rfl rfl rfl ?_
            refine X.ialdr 58 i56_57 rfl rfl (by decide) rfl (by omega) (fun h728 => ?_)
            refine X.iload_n 59 i56_58 rfl rfl rfl ?_
            refine X.iiF 60 .iadd (fun x y => x + y) i56_59 rfl rfl rfl (fun _ _ => rfl) (fun z729 hz729 => ?_)
            refine X.goto 64 i56_60 rfl rfl ?_
            refine X.iast' 65 i56_64 rfl rfl (by decide) rfl (by omega) (fun hrm730 m730 hm730 => ?_)
            have hJ731 := w36_0 hJ hm730 (by omega) hrm730
            refine X.iload 67 i56_65 rfl rfl rfl ?_
            refine X.ifeq 78 70 i56_67 rfl rfl rfl (fun h732 => (by exfalso; omega)) (fun h732 => ?_)
            refine X.iload 72 i56_70 rfl rfl rfl ?_
            refine X.ifne 114 75 i56_72 rfl rfl rfl (fun h733 => ?_) (fun h733 => (by exfalso; omega))
            refine X.cut [(0, zr g0 33), (1, zi y1), (2, zi y2), (3, zi y3), (4, zr g4 37), (5, zi y5), (6, zi y6), (7, zi 1)] i56_114 rfl ?_
            refine X.aload_n 115 i56_114 rfl rfl rfl ?_
            refine X.iload 117 i56_115 rfl rfl rfl ?_
            refine X.callv 120 [zi y6] [] [(0, zr g0 33), (1, zi y6)] i56_117 rfl (by decide) rfl rfl (by omega) rfl rfl (by decide) rfl t40 (Nat.le_of_ble_eq_true rfl) (Nat.le_of_ble_eq_true rfl) rfl ?_
            refine X.aload_n 1 i40_0 rfl rfl rfl ?_
            refine X.getIr 4 3 i40_1 rfl rfl (by decide) rfl rfl rfl (fun h734 => ?_)
            refine X.iload_n 5 i40_4 rfl rfl rfl ?_
            refine X.iiF 6 .ishr (fun x y => x >>> (y &&& 31)) i40_5 rfl rfl rfl (fun _ _ => rfl) (fun z735 hz735 => ?_)
            refine X.iconst 7 i40_6 rfl rfl (by decide) ?_
            refine X.andF 8 1 i40_7 rfl rfl (by decide) (.inl rfl) (fun z736 hz736 => ?_)
            refine X.iconst 9 i40_8 rfl rfl (by decide) ?_
            refine X.icmpne 16 12 i40_9 rfl rfl rfl (fun h737 => ?_) (fun h737 => ?_)
            · refine X.cut [] i40_16 rfl ?_
              refine X.iconst 17 i40_16 rfl rfl (by decide) ?_
              refine X.retz i40_17 rfl t40 (by omega) ?_
              show X (EE s) d 56 120 [(0, zr g0 33), (1, zi y1), (2, zi y2), (3, zi y3), (4, zr g4 37), (5, zi y5), (6, zi y6), (7, zi 1)] [zi 0] m730 _
              refine X.ifeq 143 123 i56_120 rfl rfl rfl (fun h738 => ?_) (fun h738 => (by exfalso; omega))
              refine X.cut [(0, zr g0 33), (1, zi y1), (2, zi y2), (3, zi y3), (4, zr g4 37), (5, zi y5), (6, zi y6)] i56_143 rfl ?_
              refine X.iinc 146 [(0, zr g0 33), (1, zi y1), (2, zi y2), (3, zi y3), (4, zr g4 37), (5, zi y5), (6, zi (y6 + 1))] i56_143 rfl rfl rfl (by omega) rfl ?_
              refine X.goto 3 i56_146 rfl rfl ?_
              exact ih (y6 + 1) m730 (B) (hJ731.up (by omega)) (by omega)  (by omega) (by omega)
            · refine X.iconst 13 i40_12 rfl rfl (by decide) ?_
              refine X.goto 17 i40_13 rfl rfl ?_
              refine X.cut [] i40_17 rfl ?_
              refine X.retz i40_17 rfl t40 (by omega) ?_
              show X (EE s) d 56 120 [(0, zr g0 33), (1, zi y1), (2, zi y2), (3, zi y3), (4, zr g4 37), (5, zi y5), (6, zi y6), (7, zi 1)] [zi 1] m730 _
              refine X.ifeq 143 123 i56_120 rfl rfl rfl (fun h739 => (by exfalso; omega)) (fun h739 => ?_)
              refine X.aload_n 124 i56_123 rfl rfl rfl ?_
              refine X.getR 127 i56_124 rfl rfl (by decide) rfl rfl ?_
              refine X.iload 129 i56_127 rfl rfl rfl ?_
              refine X.dup2 130 i56_129 rfl rfl ?_
              refine X.ialdr 131 i56_130 rfl rfl (by decide) rfl (by omega) (fun h740 => ?_)
              refine X.iload 133 i56_131 rfl rfl rfl ?_
              refine X.ifeq 140 136 i56_133 rfl rfl rfl (fun h741 => (by exfalso; omega)) (fun h741 => ?_)
              refine X.iload_n 137 i56_136 rfl rfl rfl ?_
              refine X.goto 141 i56_137 rfl rfl ?_
              refine X.cut [(0, zr g0 33), (1, zi y1), (2, zi y2), (3, zi y3), (4, zr g4 37), (5, zi y5), (6, zi y6)] i56_141 rfl ?_
              refine X.iiF 142 .iadd (fun x y => x + y) i56_141 rfl rfl rfl (fun _ _ => rfl) (fun z742 hz742 => ?_)
              refine X.iast' 143 i56_142 rfl rfl (by decide) rfl (by omega) (fun hrm743 m743 hm743 => ?_)
              have hJ744 := w35_0 hJ731 hm743 (by omega) hrm743
              refine X.iinc 146 [(0, zr g0 33), (1, zi y1), (2, zi y2), (3, zi y3), (4, zr g4 37), (5, zi y5), (6, zi (y6 + 1))] i56_143 rfl rfl rfl (by omega) rfl ?_
              refine X.goto 3 i56_146 rfl rfl ?_
              exact ih (y6 + 1) m743 (B) (hJ744.up (by omega)) (by omega)  (by omega) (by omega)
-- WorkMeter$Marks.passSeconds
theorem c56_1 {s : Nat × (Nat → Int32)} {S : zS} {m0 m : zM} {B : Int} {d : Nat} {Q : Option zV → zM → Prop} (g0 g4 : Nat) (a1 a2 a3 a5 : Int) (hd : 14 ≤ d) (hJ : J S m0 B m) (hB : B + 6 ≤ 1000000000) (ha1 : (-1999999999) ≤ a1 ∧ a1 ≤ 3600) (ha2 : (-2147483648) ≤ a2 ∧ a2 ≤ 2147483647) (ha3 : 0 ≤ a3 ∧ a3 ≤ 1000000) (ha5 : (-2000000000) ≤ a5 ∧ a5 ≤ 2000003599) (hQ : ∀ m', J S m0 (B + 6) m' → Q none m') : X (EE s) d 56 0 [(0, zr g0 33), (1, zi a1), (2, zi a2), (3, zi a3), (4, zr g4 37), (5, zi a5)] [] m Q := by
  refine X.iconst 1 i56_0 rfl rfl (by decide) ?_
  refine X.istore 3 [(0, zr g0 33), (1, zi a1), (2, zi a2), (3, zi a3), (4, zr g4 37), (5, zi a5), (6, zi 0)] i56_1 rfl rfl rfl ?_
  refine l56_3_1 (s := s) (S := S) (m0 := m0) (d := d) g0 g4 a1 a2 a3 a5 (BE := B + 6) (by omega) (by omega) (by omega) (by omega) (by omega) (by omega) (fun  m501 B502 hJ503 hBB502 => ?_) ((5 - 0 : Int).toNat + 1) 0 m (B) (hJ.up (by omega)) (by omega)  (by omega) (by omega)
  refine X.retv i56_149 rfl t56 ?_
  exact hQ  m501  (hJ503.up (by omega)) 
theorem l62_14_1 {s : Nat × (Nat → Int32)} {S : zS} {m0 : zM} {d : Nat} {Q : Option zV → zM → Prop} (g0 : Nat) (y1 y2 y3 : Int) (BE : Int) (hE : BE ≤ 1000000000) (hd : 13 ≤ d) (hy1 : 0 ≤ y1 ∧ y1 ≤ 2000000000) (hy2 : (-2147483648) ≤ y2 ∧ y2 ≤ 2147483647) (hy3 : 0 ≤ y3 ∧ y3 ≤ 378)
    (K47 : ∀ (m' : zM) (B' : Int), J S m0 B' m' → B' ≤ BE → X (EE s) d 62 47 [(0, zr g0 27), (1, zi y1), (2, zi y2), (3, zi y3)] [] m' Q) :
    ∀ (n : Nat) (y4 : Int) (m : zM) (B : Int), J S m0 B m → B + 0 * (n : Int) ≤ BE → (0 ≤ y4 ∧ y4 ≤ 4) → 4 - y4 < (n : Int) → X (EE s) d 62 14 [(0, zr g0 27), (1, zi y1), (2, zi y2), (3, zi y3), (4, zi y4)] [] m Q := by
  intro n
  induction n with
  | zero =>
    intro y4 m B hJ hB  hy4 hn
    exfalso
    omega
  | succ n ih =>
    intro y4 m B hJ hB  hy4 hn
    refine X.iload 16 i62_14 rfl rfl rfl ?_
    refine X.iconst 17 i62_16 rfl rfl (by decide) ?_
    refine X.icmpge 47 20 i62_17 rfl rfl rfl (fun h505 => ?_) (fun h505 => ?_)
    · refine X.cut [(0, zr g0 27), (1, zi y1), (2, zi y2), (3, zi y3)] i62_47 rfl ?_
      exact K47  m (B) (hJ.up (by omega)) (by omega)  
    · refine X.aload_n 21 i62_20 rfl rfl rfl ?_
      refine X.getR 24 i62_21 rfl rfl (by decide) rfl rfl ?_
      refine X.iload 26 i62_24 rfl rfl rfl ?_
      refine X.dup2 27 i62_26 rfl rfl ?_
      refine X.lald 28 i62_27 rfl rfl (by decide) rfl (by omega) ?_
      refine X.aload_n 29 i62_28 rfl rfl rfl ?_
      refine X.getR 32 i62_29 rfl rfl (by decide) rfl rfl ?_
      refine X.iload_n 33 i62_32 rfl rfl rfl ?_
      refine X.iconst 34 i62_33 rfl rfl (by decide) ?_
      refine X.iadd 35 i62_34 rfl rfl (by omega) ?_
      refine X.iload 37 i62_35 rfl rfl rfl ?_
      refine X.iadd 38 i62_37 rfl rfl (by omega) ?_
      refine X.lald 39 i62_38 rfl rfl (by decide) rfl (by omega) ?_
      refine X.llF 40 .ladd (fun x y => x + y) i62_39 rfl rfl rfl (fun _ _ => rfl) (fun z506 hz506 => ?_)
      refine X.last' 41 i62_40 rfl rfl (by decide) rfl (by omega) (fun hrm507 m507 hm507 => ?_)
      have hJ508 := w29_0 hJ hm507 (by omega) hrm507
      refine X.iinc 44 [(0, zr g0 27), (1, zi y1), (2, zi y2), (3, zi y3), (4, zi (y4 + 1))] i62_41 rfl rfl rfl (by omega) rfl ?_
      refine X.goto 14 i62_44 rfl rfl ?_
      exact ih (y4 + 1) m507 (B) (hJ508.up (by omega)) (by omega)  (by omega) (by omega)
-- WorkMeter$Load.addLine
theorem c62_1 {s : Nat × (Nat → Int32)} {S : zS} {m0 m : zM} {B : Int} {d : Nat} {Q : Option zV → zM → Prop} (g0 : Nat) (a1 a2 : Int) (hd : 13 ≤ d) (hJ : J S m0 B m) (hB : B + 1 ≤ 1000000000) (ha1 : 0 ≤ a1 ∧ a1 ≤ 2000000000) (ha2 : (-2147483648) ≤ a2 ∧ a2 ≤ 2147483647) (hQ : ∀ m', J S m0 (B + 1) m' → Q none m') : X (EE s) d 62 0 [(0, zr g0 27), (1, zi a1), (2, zi a2)] [] m Q := by
  refine X.aload_n 1 i62_0 rfl rfl rfl ?_
  refine X.getI 4 2 i62_1 rfl rfl (by decide) rfl rfl rfl ?_
  have h501 := r27_2 hJ g0
  refine X.bipush 6 i62_4 rfl rfl (by decide) ?_
  refine X.irem 7 i62_6 rfl rfl (by omega) ?_
  refine X.bipush 9 i62_7 rfl rfl (by decide) ?_
  refine X.imul 10 i62_9 rfl rfl (by omega) ?_
  refine X.istore_n 11 [(0, zr g0 27), (1, zi a1), (2, zi a2), (3, zi (((m g0 27 2) % 64) * 6))] i62_10 rfl rfl rfl ?_
  refine X.iconst 12 i62_11 rfl rfl (by decide) ?_
  refine X.istore 14 [(0, zr g0 27), (1, zi a1), (2, zi a2), (3, zi (((m g0 27 2) % 64) * 6)), (4, zi 0)] i62_12 rfl rfl rfl ?_
  refine l62_14_1 (s := s) (S := S) (m0 := m0) (d := d) g0 a1 a2 (((m g0 27 2) % 64) * 6) (BE := B + 0) (by omega) (by omega) (by omega) (by omega) (by omega) (fun  m502 B503 hJ504 hBB503 => ?_) ((4 - 0 : Int).toNat + 1) 0 m (B) (hJ.up (by omega)) (by omega)  (by omega) (by omega)
  refine X.aload_n 48 i62_47 rfl rfl rfl ?_
  refine X.getR 51 i62_48 rfl rfl (by decide) rfl rfl ?_
  refine X.iload_n 52 i62_51 rfl rfl rfl ?_
  refine X.iconst 53 i62_52 rfl rfl (by decide) ?_
  refine X.iadd 54 i62_53 rfl rfl (by omega) ?_
  refine X.iload_n 55 i62_54 rfl rfl rfl ?_
  refine X.i2l 56 i62_55 rfl rfl ?_
  refine X.last' 57 i62_56 rfl rfl (by decide) rfl (by omega) (fun hrm505 m505 hm505 => ?_)
  have hJ506 := w28_0 hJ504 hm505 (by omega) hrm505
  refine X.aload_n 58 i62_57 rfl rfl rfl ?_
  refine X.getR 61 i62_58 rfl rfl (by decide) rfl rfl ?_
  refine X.iload_n 62 i62_61 rfl rfl rfl ?_
  refine X.iconst 63 i62_62 rfl rfl (by decide) ?_
  refine X.iadd 64 i62_63 rfl rfl (by omega) ?_
  refine X.aload_n 65 i62_64 rfl rfl rfl ?_
  refine X.getL 68 3 i62_65 rfl rfl (by decide) rfl rfl rfl ?_
  refine X.last' 69 i62_68 rfl rfl (by decide) rfl (by omega) (fun hrm507 m507 hm507 => ?_)
  have hJ508 := w28_0 hJ506 hm507 (by omega) hrm507
  refine X.aload_n 70 i62_69 rfl rfl rfl ?_
  refine X.getR 73 i62_70 rfl rfl (by decide) rfl rfl ?_
  refine X.iload_n 74 i62_73 rfl rfl rfl ?_
  refine X.iconst 75 i62_74 rfl rfl (by decide) ?_
  refine X.iadd 76 i62_75 rfl rfl (by omega) ?_
  refine X.aload_n 77 i62_76 rfl rfl rfl ?_
  refine X.getL 80 4 i62_77 rfl rfl (by decide) rfl rfl rfl ?_
  refine X.last' 81 i62_80 rfl rfl (by decide) rfl (by omega) (fun hrm509 m509 hm509 => ?_)
  have hJ510 := w28_0 hJ508 hm509 (by omega) hrm509
  refine X.aload_n 82 i62_81 rfl rfl rfl ?_
  refine X.getR 85 i62_82 rfl rfl (by decide) rfl rfl ?_
  refine X.iload_n 86 i62_85 rfl rfl rfl ?_
  refine X.iconst 87 i62_86 rfl rfl (by decide) ?_
  refine X.iadd 88 i62_87 rfl rfl (by omega) ?_
  refine X.aload_n 89 i62_88 rfl rfl rfl ?_
  refine X.getL 92 5 i62_89 rfl rfl (by decide) rfl rfl rfl ?_
  refine X.last' 93 i62_92 rfl rfl (by decide) rfl (by omega) (fun hrm511 m511 hm511 => ?_)
  have hJ512 := w28_0 hJ510 hm511 (by omega) hrm511
  refine X.aload_n 94 i62_93 rfl rfl rfl ?_
  refine X.getR 97 i62_94 rfl rfl (by decide) rfl rfl ?_
  refine X.iload_n 98 i62_97 rfl rfl rfl ?_
  refine X.iconst 99 i62_98 rfl rfl (by decide) ?_
  refine X.iadd 100 i62_99 rfl rfl (by omega) ?_
  refine X.aload_n 101 i62_100 rfl rfl rfl ?_
  refine X.getIr 104 6 i62_101 rfl rfl (by decide) rfl rfl rfl (fun h513 => ?_)
  refine X.i2l 105 i62_104 rfl rfl ?_
  refine X.last' 106 i62_105 rfl rfl (by decide) rfl (by omega) (fun hrm514 m514 hm514 => ?_)
  have hJ515 := w28_0 hJ512 hm514 (by omega) hrm514
  refine X.aload_n 107 i62_106 rfl rfl rfl ?_
  refine X.getR 110 i62_107 rfl rfl (by decide) rfl rfl ?_
  refine X.iload_n 111 i62_110 rfl rfl rfl ?_
  refine X.iconst 112 i62_111 rfl rfl (by decide) ?_
  refine X.iadd 113 i62_112 rfl rfl (by omega) ?_
  refine X.iload_n 114 i62_113 rfl rfl rfl ?_
  refine X.i2l 115 i62_114 rfl rfl ?_
  refine X.last' 116 i62_115 rfl rfl (by decide) rfl (by omega) (fun hrm516 m516 hm516 => ?_)
  have hJ517 := w28_0 hJ515 hm516 (by omega) hrm516
  refine X.aload_n 117 i62_116 rfl rfl rfl ?_
  refine X.dup 118 i62_117 rfl rfl rfl ?_
  refine X.getI 121 2 i62_118 rfl rfl (by decide) rfl rfl rfl ?_
  have h518 := r27_2 hJ517 g0
  refine X.iconst 122 i62_121 rfl rfl (by decide) ?_
  refine X.iadd 123 i62_122 rfl rfl (by omega) ?_
  refine X.putI' 126 2 i62_123 rfl rfl (by decide) rfl rfl rfl (fun hrm519 m519 hm519 => ?_)
  have hJ520 := w27_2 (hJ517.up (B' := B503 + 1) (by omega)) hm519 (by omega)
  refine X.retv i62_126 rfl t62 ?_
  exact hQ  m519  (hJ520.up (by omega)) 
-- WorkMeter$Load.endBlock
theorem c60_1 {s : Nat × (Nat → Int32)} {S : zS} {m0 m : zM} {B : Int} {d : Nat} {Q : Option zV → zM → Prop} (g0 : Nat) (a1 a2 a3 : Int) (hd : 14 ≤ d) (hJ : J S m0 B m) (hB : B + 1 ≤ 1000000000) (ha1 : 0 ≤ a1 ∧ a1 ≤ 2000000000) (ha2 : 1 ≤ a2 ∧ a2 ≤ 1000000) (ha3 : 0 ≤ a3 ∧ a3 ≤ 64) (hQ : ∀ m', J S m0 (B + 1) m' → Q none m') : X (EE s) d 60 0 [(0, zr g0 27), (1, zi a1), (2, zi a2), (3, zi a3)] [] m Q := by
  refine X.aload_n 1 i60_0 rfl rfl rfl ?_
  refine X.getIr 4 6 i60_1 rfl rfl (by decide) rfl rfl rfl (fun h501 => ?_)
  refine X.aload_n 5 i60_4 rfl rfl rfl ?_
  refine X.getIr 8 7 i60_5 rfl rfl (by decide) rfl rfl rfl (fun h502 => ?_)
  refine X.iiF 9 .iadd (fun x y => x + y) i60_8 rfl rfl rfl (fun _ _ => rfl) (fun z503 hz503 => ?_)
  refine X.ifle 43 12 i60_9 rfl rfl rfl (fun h504 => ?_) (fun h504 => ?_)
  · refine X.cut [(0, zr g0 27), (1, zi a1)] i60_43 rfl ?_
    refine X.aload_n 44 i60_43 rfl rfl rfl ?_
    refine X.lconst (y := 0) 45 i60_44 rfl rfl rfl ?_
    refine X.putL' 48 3 i60_45 rfl rfl (by decide) rfl rfl rfl (fun hrm505 m505 hm505 => ?_)
    have hJ506 := w27_3 hJ hm505 (by omega) hrm505
    refine X.aload_n 49 i60_48 rfl rfl rfl ?_
    refine X.lconst (y := 0) 50 i60_49 rfl rfl rfl ?_
    refine X.putL' 53 4 i60_50 rfl rfl (by decide) rfl rfl rfl (fun hrm507 m507 hm507 => ?_)
    have hJ508 := w27_3 hJ506 hm507 (by omega) hrm507
    refine X.aload_n 54 i60_53 rfl rfl rfl ?_
    refine X.lconst (y := 0) 55 i60_54 rfl rfl rfl ?_
    refine X.putL' 58 5 i60_55 rfl rfl (by decide) rfl rfl rfl (fun hrm509 m509 hm509 => ?_)
    have hJ510 := w27_3 hJ508 hm509 (by omega) hrm509
    refine X.aload_n 59 i60_58 rfl rfl rfl ?_
    refine X.iconst 60 i60_59 rfl rfl (by decide) ?_
    refine X.putI' 63 6 i60_60 rfl rfl (by decide) rfl rfl rfl (fun hrm511 m511 hm511 => ?_)
    have hJ512 := w27_3 hJ510 hm511 (by omega) hrm511
    refine X.aload_n 64 i60_63 rfl rfl rfl ?_
    refine X.iconst 65 i60_64 rfl rfl (by decide) ?_
    refine X.putI' 68 7 i60_65 rfl rfl (by decide) rfl rfl rfl (fun hrm513 m513 hm513 => ?_)
    have hJ514 := w27_3 hJ512 hm513 (by omega) hrm513
    refine X.aload_n 69 i60_68 rfl rfl rfl ?_
    refine X.iconst 70 i60_69 rfl rfl (by decide) ?_
    refine X.putI' 73 8 i60_70 rfl rfl (by decide) rfl rfl rfl (fun hrm515 m515 hm515 => ?_)
    have hJ516 := w27_3 hJ514 hm515 (by omega) hrm515
    refine X.aload_n 74 i60_73 rfl rfl rfl ?_
    refine X.iload_n 75 i60_74 rfl rfl rfl ?_
    refine X.putI' 78 9 i60_75 rfl rfl (by decide) rfl rfl rfl (fun hrm517 m517 hm517 => ?_)
    have hJ518 := w27_9 hJ516 hm517 (by omega)
    refine X.retv i60_78 rfl t60 ?_
    exact hQ  m517  (hJ518.up (by omega)) 
  · refine X.aload_n 13 i60_12 rfl rfl rfl ?_
    refine X.iload_n 14 i60_13 rfl rfl rfl ?_
    refine X.callv 17 [zi a2] [] [(0, zr g0 27), (1, zi a2)] i60_14 rfl (by decide) rfl rfl (by omega) rfl rfl (by decide) rfl t61 (Nat.le_of_ble_eq_true rfl) (Nat.le_of_ble_eq_true rfl) rfl ?_
    refine X.aload_n 1 i61_0 rfl rfl rfl ?_
    refine X.getIr 4 8 i61_1 rfl rfl (by decide) rfl rfl rfl (fun h519 => ?_)
    refine X.istore_n 5 [(0, zr g0 27), (1, zi a2), (2, zi (m g0 27 8))] i61_4 rfl rfl rfl ?_
    refine X.aload_n 6 i61_5 rfl rfl rfl ?_
    refine X.getI 9 7 i61_6 rfl rfl (by decide) rfl rfl rfl ?_
    refine X.ifle 17 12 i61_9 rfl rfl rfl (fun h520 => ?_) (fun h520 => ?_)
    · refine X.aload_n 18 i61_17 rfl rfl rfl ?_
      refine X.getI 21 9 i61_18 rfl rfl (by decide) rfl rfl rfl ?_
      have h521 := r27_9 hJ g0
      refine X.iload_n 22 i61_21 rfl rfl rfl ?_
      refine X.irem 23 i61_22 rfl rfl (by omega) ?_
      have hz522 := z_modb (x := (m g0 27 9)) (y := a2) (by omega) (by omega)
      obtain ⟨z522, ez522⟩ : ∃ z, z = ((m g0 27 9) % a2) := ⟨_, rfl⟩
      rw [← ez522] at hz522 ⊢
      clear ez522
      refine X.ifeq 34 26 i61_23 rfl rfl rfl (fun h523 => ?_) (fun h523 => ?_)
      · refine X.cut [(2, zi (m g0 27 8))] i61_34 rfl ?_
        refine X.iload_n 35 i61_34 rfl rfl rfl ?_
        refine X.cut [] i61_35 rfl ?_
        refine X.reti i61_35 rfl t61 ?_
        show X (EE s) d 60 17 [(0, zr g0 27), (1, zi a1), (2, zi a2), (3, zi a3)] [zi (m g0 27 8)] m _
        refine X.iload_n 18 i60_17 rfl rfl rfl ?_
        refine X.iiF 19 .ior (fun x y => x ||| y) i60_18 rfl rfl rfl (fun _ _ => rfl) (fun z524 hz524 => ?_)
        refine X.istore 21 [(0, zr g0 27), (1, zi a1), (2, zi a2), (3, zi a3), (4, zi z524)] i60_19 rfl rfl rfl ?_
        refine X.aload_n 22 i60_21 rfl rfl rfl ?_
        refine X.iload_n 23 i60_22 rfl rfl rfl ?_
        refine X.iload_n 24 i60_23 rfl rfl rfl ?_
        refine X.iload_n 25 i60_24 rfl rfl rfl ?_
        refine X.irem 26 i60_25 rfl rfl (by omega) ?_
        have hz525 := z_modb (x := a1) (y := a2) (by omega) (by omega)
        obtain ⟨z525, ez525⟩ : ∃ z, z = (a1 % a2) := ⟨_, rfl⟩
        rw [← ez525] at hz525 ⊢
        clear ez525
        refine X.ifeq 38 29 i60_26 rfl rfl rfl (fun h526 => ?_) (fun h526 => ?_)
        · refine X.cut [(0, zr g0 27), (1, zi a1), (4, zi z524)] i60_38 rfl ?_
          refine X.iload 40 i60_38 rfl rfl rfl ?_
          refine X.cut [(0, zr g0 27), (1, zi a1)] i60_40 rfl ?_
          refine X.callv 43 [zi a1, zi z524] [] [(0, zr g0 27), (1, zi a1), (2, zi z524)] i60_40 rfl (by decide) rfl rfl (by omega) rfl rfl (by decide) rfl t62 (Nat.le_of_ble_eq_true rfl) (Nat.le_of_ble_eq_true rfl) rfl ?_
          refine c62_1 (B := B) g0 a1 z524 (by omega) (hJ.up (by omega)) (by omega) (by omega) (by omega) (fun m527 hJ528 => ?_)
          show X (EE s) d 60 43 [(0, zr g0 27), (1, zi a1)] [] m527 _
          refine X.aload_n 44 i60_43 rfl rfl rfl ?_
          refine X.lconst (y := 0) 45 i60_44 rfl rfl rfl ?_
          refine X.putL' 48 3 i60_45 rfl rfl (by decide) rfl rfl rfl (fun hrm530 m530 hm530 => ?_)
          have hJ531 := w27_3 hJ528 hm530 (by omega) hrm530
          refine X.aload_n 49 i60_48 rfl rfl rfl ?_
          refine X.lconst (y := 0) 50 i60_49 rfl rfl rfl ?_
          refine X.putL' 53 4 i60_50 rfl rfl (by decide) rfl rfl rfl (fun hrm532 m532 hm532 => ?_)
          have hJ533 := w27_3 hJ531 hm532 (by omega) hrm532
          refine X.aload_n 54 i60_53 rfl rfl rfl ?_
          refine X.lconst (y := 0) 55 i60_54 rfl rfl rfl ?_
          refine X.putL' 58 5 i60_55 rfl rfl (by decide) rfl rfl rfl (fun hrm534 m534 hm534 => ?_)
          have hJ535 := w27_3 hJ533 hm534 (by omega) hrm534
          refine X.aload_n 59 i60_58 rfl rfl rfl ?_
          refine X.iconst 60 i60_59 rfl rfl (by decide) ?_
          refine X.putI' 63 6 i60_60 rfl rfl (by decide) rfl rfl rfl (fun hrm536 m536 hm536 => ?_)
          have hJ537 := w27_3 hJ535 hm536 (by omega) hrm536
          refine X.aload_n 64 i60_63 rfl rfl rfl ?_
          refine X.iconst 65 i60_64 rfl rfl (by decide) ?_
          refine X.putI' 68 7 i60_65 rfl rfl (by decide) rfl rfl rfl (fun hrm538 m538 hm538 => ?_)
          have hJ539 := w27_3 hJ537 hm538 (by omega) hrm538
          refine X.aload_n 69 i60_68 rfl rfl rfl ?_
          refine X.iconst 70 i60_69 rfl rfl (by decide) ?_
          refine X.putI' 73 8 i60_70 rfl rfl (by decide) rfl rfl rfl (fun hrm540 m540 hm540 => ?_)
          have hJ541 := w27_3 hJ539 hm540 (by omega) hrm540
          refine X.aload_n 74 i60_73 rfl rfl rfl ?_
          refine X.iload_n 75 i60_74 rfl rfl rfl ?_
          refine X.putI' 78 9 i60_75 rfl rfl (by decide) rfl rfl rfl (fun hrm542 m542 hm542 => ?_)
          have hJ543 := w27_9 hJ541 hm542 (by omega)
          refine X.retv i60_78 rfl t60 ?_
          exact hQ  m542  (hJ543.up (by omega)) 
        · refine X.iload 31 i60_29 rfl rfl rfl ?_
          refine X.sipush 34 i60_31 rfl rfl (by decide) ?_
          refine X.iiF 35 .ior (fun x y => x ||| y) i60_34 rfl rfl rfl (fun _ _ => rfl) (fun z544 hz544 => ?_)
          refine X.goto 40 i60_35 rfl rfl ?_
          refine X.cut [(0, zr g0 27), (1, zi a1)] i60_40 rfl ?_
          refine X.callv 43 [zi a1, zi z544] [] [(0, zr g0 27), (1, zi a1), (2, zi z544)] i60_40 rfl (by decide) rfl rfl (by omega) rfl rfl (by decide) rfl t62 (Nat.le_of_ble_eq_true rfl) (Nat.le_of_ble_eq_true rfl) rfl ?_
          refine c62_1 (B := B) g0 a1 z544 (by omega) (hJ.up (by omega)) (by omega) (by omega) (by omega) (fun m545 hJ546 => ?_)
          show X (EE s) d 60 43 [(0, zr g0 27), (1, zi a1)] [] m545 _
          refine X.aload_n 44 i60_43 rfl rfl rfl ?_
          refine X.lconst (y := 0) 45 i60_44 rfl rfl rfl ?_
          refine X.putL' 48 3 i60_45 rfl rfl (by decide) rfl rfl rfl (fun hrm548 m548 hm548 => ?_)
          have hJ549 := w27_3 hJ546 hm548 (by omega) hrm548
          refine X.aload_n 49 i60_48 rfl rfl rfl ?_
          refine X.lconst (y := 0) 50 i60_49 rfl rfl rfl ?_
          refine X.putL' 53 4 i60_50 rfl rfl (by decide) rfl rfl rfl (fun hrm550 m550 hm550 => ?_)
          have hJ551 := w27_3 hJ549 hm550 (by omega) hrm550
          refine X.aload_n 54 i60_53 rfl rfl rfl ?_
          refine X.lconst (y := 0) 55 i60_54 rfl rfl rfl ?_
          refine X.putL' 58 5 i60_55 rfl rfl (by decide) rfl rfl rfl (fun hrm552 m552 hm552 => ?_)
          have hJ553 := w27_3 hJ551 hm552 (by omega) hrm552
          refine X.aload_n 59 i60_58 rfl rfl rfl ?_
          refine X.iconst 60 i60_59 rfl rfl (by decide) ?_
          refine X.putI' 63 6 i60_60 rfl rfl (by decide) rfl rfl rfl (fun hrm554 m554 hm554 => ?_)
          have hJ555 := w27_3 hJ553 hm554 (by omega) hrm554
          refine X.aload_n 64 i60_63 rfl rfl rfl ?_
          refine X.iconst 65 i60_64 rfl rfl (by decide) ?_
          refine X.putI' 68 7 i60_65 rfl rfl (by decide) rfl rfl rfl (fun hrm556 m556 hm556 => ?_)
          have hJ557 := w27_3 hJ555 hm556 (by omega) hrm556
          refine X.aload_n 69 i60_68 rfl rfl rfl ?_
          refine X.iconst 70 i60_69 rfl rfl (by decide) ?_
          refine X.putI' 73 8 i60_70 rfl rfl (by decide) rfl rfl rfl (fun hrm558 m558 hm558 => ?_)
          have hJ559 := w27_3 hJ557 hm558 (by omega) hrm558
          refine X.aload_n 74 i60_73 rfl rfl rfl ?_
          refine X.iload_n 75 i60_74 rfl rfl rfl ?_
          refine X.putI' 78 9 i60_75 rfl rfl (by decide) rfl rfl rfl (fun hrm560 m560 hm560 => ?_)
          have hJ561 := w27_9 hJ559 hm560 (by omega)
          refine X.retv i60_78 rfl t60 ?_
          exact hQ  m560  (hJ561.up (by omega)) 
      · refine X.iload_n 27 i61_26 rfl rfl rfl ?_
        refine X.sipush 30 i61_27 rfl rfl (by decide) ?_
        refine X.iiF 31 .ior (fun x y => x ||| y) i61_30 rfl rfl rfl (fun _ _ => rfl) (fun z562 hz562 => ?_)
        refine X.goto 35 i61_31 rfl rfl ?_
        refine X.cut [] i61_35 rfl ?_
        refine X.reti i61_35 rfl t61 ?_
        show X (EE s) d 60 17 [(0, zr g0 27), (1, zi a1), (2, zi a2), (3, zi a3)] [zi z562] m _
        refine X.iload_n 18 i60_17 rfl rfl rfl ?_
        refine X.iiF 19 .ior (fun x y => x ||| y) i60_18 rfl rfl rfl (fun _ _ => rfl) (fun z563 hz563 => ?_)
        refine X.istore 21 [(0, zr g0 27), (1, zi a1), (2, zi a2), (3, zi a3), (4, zi z563)] i60_19 rfl rfl rfl ?_
        refine X.aload_n 22 i60_21 rfl rfl rfl ?_
        refine X.iload_n 23 i60_22 rfl rfl rfl ?_
        refine X.iload_n 24 i60_23 rfl rfl rfl ?_
        refine X.iload_n 25 i60_24 rfl rfl rfl ?_
        refine X.irem 26 i60_25 rfl rfl (by omega) ?_
        have hz564 := z_modb (x := a1) (y := a2) (by omega) (by omega)
        obtain ⟨z564, ez564⟩ : ∃ z, z = (a1 % a2) := ⟨_, rfl⟩
        rw [← ez564] at hz564 ⊢
        clear ez564
        refine X.ifeq 38 29 i60_26 rfl rfl rfl (fun h565 => ?_) (fun h565 => ?_)
        · refine X.cut [(0, zr g0 27), (1, zi a1), (4, zi z563)] i60_38 rfl ?_
          refine X.iload 40 i60_38 rfl rfl rfl ?_
          refine X.cut [(0, zr g0 27), (1, zi a1)] i60_40 rfl ?_
          refine X.callv 43 [zi a1, zi z563] [] [(0, zr g0 27), (1, zi a1), (2, zi z563)] i60_40 rfl (by decide) rfl rfl (by omega) rfl rfl (by decide) rfl t62 (Nat.le_of_ble_eq_true rfl) (Nat.le_of_ble_eq_true rfl) rfl ?_
          refine c62_1 (B := B) g0 a1 z563 (by omega) (hJ.up (by omega)) (by omega) (by omega) (by omega) (fun m566 hJ567 => ?_)
          show X (EE s) d 60 43 [(0, zr g0 27), (1, zi a1)] [] m566 _
          refine X.aload_n 44 i60_43 rfl rfl rfl ?_
          refine X.lconst (y := 0) 45 i60_44 rfl rfl rfl ?_
          refine X.putL' 48 3 i60_45 rfl rfl (by decide) rfl rfl rfl (fun hrm569 m569 hm569 => ?_)
          have hJ570 := w27_3 hJ567 hm569 (by omega) hrm569
          refine X.aload_n 49 i60_48 rfl rfl rfl ?_
          refine X.lconst (y := 0) 50 i60_49 rfl rfl rfl ?_
          refine X.putL' 53 4 i60_50 rfl rfl (by decide) rfl rfl rfl (fun hrm571 m571 hm571 => ?_)
          have hJ572 := w27_3 hJ570 hm571 (by omega) hrm571
          refine X.aload_n 54 i60_53 rfl rfl rfl ?_
          refine X.lconst (y := 0) 55 i60_54 rfl rfl rfl ?_
          refine X.putL' 58 5 i60_55 rfl rfl (by decide) rfl rfl rfl (fun hrm573 m573 hm573 => ?_)
          have hJ574 := w27_3 hJ572 hm573 (by omega) hrm573
          refine X.aload_n 59 i60_58 rfl rfl rfl ?_
          refine X.iconst 60 i60_59 rfl rfl (by decide) ?_
          refine X.putI' 63 6 i60_60 rfl rfl (by decide) rfl rfl rfl (fun hrm575 m575 hm575 => ?_)
          have hJ576 := w27_3 hJ574 hm575 (by omega) hrm575
          refine X.aload_n 64 i60_63 rfl rfl rfl ?_
          refine X.iconst 65 i60_64 rfl rfl (by decide) ?_
          refine X.putI' 68 7 i60_65 rfl rfl (by decide) rfl rfl rfl (fun hrm577 m577 hm577 => ?_)
          have hJ578 := w27_3 hJ576 hm577 (by omega) hrm577
          refine X.aload_n 69 i60_68 rfl rfl rfl ?_
          refine X.iconst 70 i60_69 rfl rfl (by decide) ?_
          refine X.putI' 73 8 i60_70 rfl rfl (by decide) rfl rfl rfl (fun hrm579 m579 hm579 => ?_)
          have hJ580 := w27_3 hJ578 hm579 (by omega) hrm579
          refine X.aload_n 74 i60_73 rfl rfl rfl ?_
          refine X.iload_n 75 i60_74 rfl rfl rfl ?_
          refine X.putI' 78 9 i60_75 rfl rfl (by decide) rfl rfl rfl (fun hrm581 m581 hm581 => ?_)
          have hJ582 := w27_9 hJ580 hm581 (by omega)
          refine X.retv i60_78 rfl t60 ?_
          exact hQ  m581  (hJ582.up (by omega)) 
        · refine X.iload 31 i60_29 rfl rfl rfl ?_
          refine X.sipush 34 i60_31 rfl rfl (by decide) ?_
          refine X.iiF 35 .ior (fun x y => x ||| y) i60_34 rfl rfl rfl (fun _ _ => rfl) (fun z583 hz583 => ?_)
          refine X.goto 40 i60_35 rfl rfl ?_
          refine X.cut [(0, zr g0 27), (1, zi a1)] i60_40 rfl ?_
          refine X.callv 43 [zi a1, zi z583] [] [(0, zr g0 27), (1, zi a1), (2, zi z583)] i60_40 rfl (by decide) rfl rfl (by omega) rfl rfl (by decide) rfl t62 (Nat.le_of_ble_eq_true rfl) (Nat.le_of_ble_eq_true rfl) rfl ?_
          refine c62_1 (B := B) g0 a1 z583 (by omega) (hJ.up (by omega)) (by omega) (by omega) (by omega) (fun m584 hJ585 => ?_)
          show X (EE s) d 60 43 [(0, zr g0 27), (1, zi a1)] [] m584 _
          refine X.aload_n 44 i60_43 rfl rfl rfl ?_
          refine X.lconst (y := 0) 45 i60_44 rfl rfl rfl ?_
          refine X.putL' 48 3 i60_45 rfl rfl (by decide) rfl rfl rfl (fun hrm587 m587 hm587 => ?_)
          have hJ588 := w27_3 hJ585 hm587 (by omega) hrm587
          refine X.aload_n 49 i60_48 rfl rfl rfl ?_
          refine X.lconst (y := 0) 50 i60_49 rfl rfl rfl ?_
          refine X.putL' 53 4 i60_50 rfl rfl (by decide) rfl rfl rfl (fun hrm589 m589 hm589 => ?_)
          have hJ590 := w27_3 hJ588 hm589 (by omega) hrm589
          refine X.aload_n 54 i60_53 rfl rfl rfl ?_
          refine X.lconst (y := 0) 55 i60_54 rfl rfl rfl ?_
          refine X.putL' 58 5 i60_55 rfl rfl (by decide) rfl rfl rfl (fun hrm591 m591 hm591 => ?_)
          have hJ592 := w27_3 hJ590 hm591 (by omega) hrm591
          refine X.aload_n 59 i60_58 rfl rfl rfl ?_
          refine X.iconst 60 i60_59 rfl rfl (by decide) ?_
          refine X.putI' 63 6 i60_60 rfl rfl (by decide) rfl rfl rfl (fun hrm593 m593 hm593 => ?_)
          have hJ594 := w27_3 hJ592 hm593 (by omega) hrm593
          refine X.aload_n 64 i60_63 rfl rfl rfl ?_
          refine X.iconst 65 i60_64 rfl rfl (by decide) ?_
          refine X.putI' 68 7 i60_65 rfl rfl (by decide) rfl rfl rfl (fun hrm595 m595 hm595 => ?_)
          have hJ596 := w27_3 hJ594 hm595 (by omega) hrm595
          refine X.aload_n 69 i60_68 rfl rfl rfl ?_
          refine X.iconst 70 i60_69 rfl rfl (by decide) ?_
          refine X.putI' 73 8 i60_70 rfl rfl (by decide) rfl rfl rfl (fun hrm597 m597 hm597 => ?_)
          have hJ598 := w27_3 hJ596 hm597 (by omega) hrm597
          refine X.aload_n 74 i60_73 rfl rfl rfl ?_
          refine X.iload_n 75 i60_74 rfl rfl rfl ?_
          refine X.putI' 78 9 i60_75 rfl rfl (by decide) rfl rfl rfl (fun hrm599 m599 hm599 => ?_)
          have hJ600 := w27_9 hJ598 hm599 (by omega)
          refine X.retv i60_78 rfl t60 ?_
          exact hQ  m599  (hJ600.up (by omega)) 
    · refine X.iload_n 13 i61_12 rfl rfl rfl ?_
      refine X.bipush 15 i61_13 rfl rfl (by decide) ?_
      refine X.iiF 16 .ior (fun x y => x ||| y) i61_15 rfl rfl rfl (fun _ _ => rfl) (fun z601 hz601 => ?_)
      refine X.istore_n 17 [(0, zr g0 27), (1, zi a2), (2, zi z601)] i61_16 rfl rfl rfl ?_
      refine X.aload_n 18 i61_17 rfl rfl rfl ?_
      refine X.getI 21 9 i61_18 rfl rfl (by decide) rfl rfl rfl ?_
      have h602 := r27_9 hJ g0
      refine X.iload_n 22 i61_21 rfl rfl rfl ?_
      refine X.irem 23 i61_22 rfl rfl (by omega) ?_
      have hz603 := z_modb (x := (m g0 27 9)) (y := a2) (by omega) (by omega)
      obtain ⟨z603, ez603⟩ : ∃ z, z = ((m g0 27 9) % a2) := ⟨_, rfl⟩
      rw [← ez603] at hz603 ⊢
      clear ez603
      refine X.ifeq 34 26 i61_23 rfl rfl rfl (fun h604 => ?_) (fun h604 => ?_)
      · refine X.cut [(2, zi z601)] i61_34 rfl ?_
        refine X.iload_n 35 i61_34 rfl rfl rfl ?_
        refine X.cut [] i61_35 rfl ?_
        refine X.reti i61_35 rfl t61 ?_
        show X (EE s) d 60 17 [(0, zr g0 27), (1, zi a1), (2, zi a2), (3, zi a3)] [zi z601] m _
        refine X.iload_n 18 i60_17 rfl rfl rfl ?_
        refine X.iiF 19 .ior (fun x y => x ||| y) i60_18 rfl rfl rfl (fun _ _ => rfl) (fun z605 hz605 => ?_)
        refine X.istore 21 [(0, zr g0 27), (1, zi a1), (2, zi a2), (3, zi a3), (4, zi z605)] i60_19 rfl rfl rfl ?_
        refine X.aload_n 22 i60_21 rfl rfl rfl ?_
        refine X.iload_n 23 i60_22 rfl rfl rfl ?_
        refine X.iload_n 24 i60_23 rfl rfl rfl ?_
        refine X.iload_n 25 i60_24 rfl rfl rfl ?_
        refine X.irem 26 i60_25 rfl rfl (by omega) ?_
        have hz606 := z_modb (x := a1) (y := a2) (by omega) (by omega)
        obtain ⟨z606, ez606⟩ : ∃ z, z = (a1 % a2) := ⟨_, rfl⟩
        rw [← ez606] at hz606 ⊢
        clear ez606
        refine X.ifeq 38 29 i60_26 rfl rfl rfl (fun h607 => ?_) (fun h607 => ?_)
        · refine X.cut [(0, zr g0 27), (1, zi a1), (4, zi z605)] i60_38 rfl ?_
          refine X.iload 40 i60_38 rfl rfl rfl ?_
          refine X.cut [(0, zr g0 27), (1, zi a1)] i60_40 rfl ?_
          refine X.callv 43 [zi a1, zi z605] [] [(0, zr g0 27), (1, zi a1), (2, zi z605)] i60_40 rfl (by decide) rfl rfl (by omega) rfl rfl (by decide) rfl t62 (Nat.le_of_ble_eq_true rfl) (Nat.le_of_ble_eq_true rfl) rfl ?_
          refine c62_1 (B := B) g0 a1 z605 (by omega) (hJ.up (by omega)) (by omega) (by omega) (by omega) (fun m608 hJ609 => ?_)
          show X (EE s) d 60 43 [(0, zr g0 27), (1, zi a1)] [] m608 _
          refine X.aload_n 44 i60_43 rfl rfl rfl ?_
          refine X.lconst (y := 0) 45 i60_44 rfl rfl rfl ?_
          refine X.putL' 48 3 i60_45 rfl rfl (by decide) rfl rfl rfl (fun hrm611 m611 hm611 => ?_)
          have hJ612 := w27_3 hJ609 hm611 (by omega) hrm611
          refine X.aload_n 49 i60_48 rfl rfl rfl ?_
          refine X.lconst (y := 0) 50 i60_49 rfl rfl rfl ?_
          refine X.putL' 53 4 i60_50 rfl rfl (by decide) rfl rfl rfl (fun hrm613 m613 hm613 => ?_)
          have hJ614 := w27_3 hJ612 hm613 (by omega) hrm613
          refine X.aload_n 54 i60_53 rfl rfl rfl ?_
          refine X.lconst (y := 0) 55 i60_54 rfl rfl rfl ?_
          refine X.putL' 58 5 i60_55 rfl rfl (by decide) rfl rfl rfl (fun hrm615 m615 hm615 => ?_)
          have hJ616 := w27_3 hJ614 hm615 (by omega) hrm615
          refine X.aload_n 59 i60_58 rfl rfl rfl ?_
          refine X.iconst 60 i60_59 rfl rfl (by decide) ?_
          refine X.putI' 63 6 i60_60 rfl rfl (by decide) rfl rfl rfl (fun hrm617 m617 hm617 => ?_)
          have hJ618 := w27_3 hJ616 hm617 (by omega) hrm617
          refine X.aload_n 64 i60_63 rfl rfl rfl ?_
          refine X.iconst 65 i60_64 rfl rfl (by decide) ?_
          refine X.putI' 68 7 i60_65 rfl rfl (by decide) rfl rfl rfl (fun hrm619 m619 hm619 => ?_)
          have hJ620 := w27_3 hJ618 hm619 (by omega) hrm619
          refine X.aload_n 69 i60_68 rfl rfl rfl ?_
          refine X.iconst 70 i60_69 rfl rfl (by decide) ?_
          refine X.putI' 73 8 i60_70 rfl rfl (by decide) rfl rfl rfl (fun hrm621 m621 hm621 => ?_)
          have hJ622 := w27_3 hJ620 hm621 (by omega) hrm621
          refine X.aload_n 74 i60_73 rfl rfl rfl ?_
          refine X.iload_n 75 i60_74 rfl rfl rfl ?_
          refine X.putI' 78 9 i60_75 rfl rfl (by decide) rfl rfl rfl (fun hrm623 m623 hm623 => ?_)
          have hJ624 := w27_9 hJ622 hm623 (by omega)
          refine X.retv i60_78 rfl t60 ?_
          exact hQ  m623  (hJ624.up (by omega)) 
        · refine X.iload 31 i60_29 rfl rfl rfl ?_
          refine X.sipush 34 i60_31 rfl rfl (by decide) ?_
          refine X.iiF 35 .ior (fun x y => x ||| y) i60_34 rfl rfl rfl (fun _ _ => rfl) (fun z625 hz625 => ?_)
          refine X.goto 40 i60_35 rfl rfl ?_
          refine X.cut [(0, zr g0 27), (1, zi a1)] i60_40 rfl ?_
          refine X.callv 43 [zi a1, zi z625] [] [(0, zr g0 27), (1, zi a1), (2, zi z625)] i60_40 rfl (by decide) rfl rfl (by omega) rfl rfl (by decide) rfl t62 (Nat.le_of_ble_eq_true rfl) (Nat.le_of_ble_eq_true rfl) rfl ?_
          refine c62_1 (B := B) g0 a1 z625 (by omega) (hJ.up (by omega)) (by omega) (by omega) (by omega) (fun m626 hJ627 => ?_)
          show X (EE s) d 60 43 [(0, zr g0 27), (1, zi a1)] [] m626 _
          refine X.aload_n 44 i60_43 rfl rfl rfl ?_
          refine X.lconst (y := 0) 45 i60_44 rfl rfl rfl ?_
          refine X.putL' 48 3 i60_45 rfl rfl (by decide) rfl rfl rfl (fun hrm629 m629 hm629 => ?_)
          have hJ630 := w27_3 hJ627 hm629 (by omega) hrm629
          refine X.aload_n 49 i60_48 rfl rfl rfl ?_
          refine X.lconst (y := 0) 50 i60_49 rfl rfl rfl ?_
          refine X.putL' 53 4 i60_50 rfl rfl (by decide) rfl rfl rfl (fun hrm631 m631 hm631 => ?_)
          have hJ632 := w27_3 hJ630 hm631 (by omega) hrm631
          refine X.aload_n 54 i60_53 rfl rfl rfl ?_
          refine X.lconst (y := 0) 55 i60_54 rfl rfl rfl ?_
          refine X.putL' 58 5 i60_55 rfl rfl (by decide) rfl rfl rfl (fun hrm633 m633 hm633 => ?_)
          have hJ634 := w27_3 hJ632 hm633 (by omega) hrm633
          refine X.aload_n 59 i60_58 rfl rfl rfl ?_
          refine X.iconst 60 i60_59 rfl rfl (by decide) ?_
          refine X.putI' 63 6 i60_60 rfl rfl (by decide) rfl rfl rfl (fun hrm635 m635 hm635 => ?_)
          have hJ636 := w27_3 hJ634 hm635 (by omega) hrm635
          refine X.aload_n 64 i60_63 rfl rfl rfl ?_
          refine X.iconst 65 i60_64 rfl rfl (by decide) ?_
          refine X.putI' 68 7 i60_65 rfl rfl (by decide) rfl rfl rfl (fun hrm637 m637 hm637 => ?_)
          have hJ638 := w27_3 hJ636 hm637 (by omega) hrm637
          refine X.aload_n 69 i60_68 rfl rfl rfl ?_
          refine X.iconst 70 i60_69 rfl rfl (by decide) ?_
          refine X.putI' 73 8 i60_70 rfl rfl (by decide) rfl rfl rfl (fun hrm639 m639 hm639 => ?_)
          have hJ640 := w27_3 hJ638 hm639 (by omega) hrm639
          refine X.aload_n 74 i60_73 rfl rfl rfl ?_
          refine X.iload_n 75 i60_74 rfl rfl rfl ?_
          refine X.putI' 78 9 i60_75 rfl rfl (by decide) rfl rfl rfl (fun hrm641 m641 hm641 => ?_)
          have hJ642 := w27_9 hJ640 hm641 (by omega)
          refine X.retv i60_78 rfl t60 ?_
          exact hQ  m641  (hJ642.up (by omega)) 
      · refine X.iload_n 27 i61_26 rfl rfl rfl ?_
        refine X.sipush 30 i61_27 rfl rfl (by decide) ?_
        refine X.iiF 31 .ior (fun x y => x ||| y) i61_30 rfl rfl rfl (fun _ _ => rfl) (fun z643 hz643 => ?_)
        refine X.goto 35 i61_31 rfl rfl ?_
        refine X.cut [] i61_35 rfl ?_
        refine X.reti i61_35 rfl t61 ?_
        show X (EE s) d 60 17 [(0, zr g0 27), (1, zi a1), (2, zi a2), (3, zi a3)] [zi z643] m _
        refine X.iload_n 18 i60_17 rfl rfl rfl ?_
        refine X.iiF 19 .ior (fun x y => x ||| y) i60_18 rfl rfl rfl (fun _ _ => rfl) (fun z644 hz644 => ?_)
        refine X.istore 21 [(0, zr g0 27), (1, zi a1), (2, zi a2), (3, zi a3), (4, zi z644)] i60_19 rfl rfl rfl ?_
        refine X.aload_n 22 i60_21 rfl rfl rfl ?_
        refine X.iload_n 23 i60_22 rfl rfl rfl ?_
        refine X.iload_n 24 i60_23 rfl rfl rfl ?_
        refine X.iload_n 25 i60_24 rfl rfl rfl ?_
        refine X.irem 26 i60_25 rfl rfl (by omega) ?_
        have hz645 := z_modb (x := a1) (y := a2) (by omega) (by omega)
        obtain ⟨z645, ez645⟩ : ∃ z, z = (a1 % a2) := ⟨_, rfl⟩
        rw [← ez645] at hz645 ⊢
        clear ez645
        refine X.ifeq 38 29 i60_26 rfl rfl rfl (fun h646 => ?_) (fun h646 => ?_)
        · refine X.cut [(0, zr g0 27), (1, zi a1), (4, zi z644)] i60_38 rfl ?_
          refine X.iload 40 i60_38 rfl rfl rfl ?_
          refine X.cut [(0, zr g0 27), (1, zi a1)] i60_40 rfl ?_
          refine X.callv 43 [zi a1, zi z644] [] [(0, zr g0 27), (1, zi a1), (2, zi z644)] i60_40 rfl (by decide) rfl rfl (by omega) rfl rfl (by decide) rfl t62 (Nat.le_of_ble_eq_true rfl) (Nat.le_of_ble_eq_true rfl) rfl ?_
          refine c62_1 (B := B) g0 a1 z644 (by omega) (hJ.up (by omega)) (by omega) (by omega) (by omega) (fun m647 hJ648 => ?_)
          show X (EE s) d 60 43 [(0, zr g0 27), (1, zi a1)] [] m647 _
          refine X.aload_n 44 i60_43 rfl rfl rfl ?_
          refine X.lconst (y := 0) 45 i60_44 rfl rfl rfl ?_
          refine X.putL' 48 3 i60_45 rfl rfl (by decide) rfl rfl rfl (fun hrm650 m650 hm650 => ?_)
          have hJ651 := w27_3 hJ648 hm650 (by omega) hrm650
          refine X.aload_n 49 i60_48 rfl rfl rfl ?_
          refine X.lconst (y := 0) 50 i60_49 rfl rfl rfl ?_
          refine X.putL' 53 4 i60_50 rfl rfl (by decide) rfl rfl rfl (fun hrm652 m652 hm652 => ?_)
          have hJ653 := w27_3 hJ651 hm652 (by omega) hrm652
          refine X.aload_n 54 i60_53 rfl rfl rfl ?_
          refine X.lconst (y := 0) 55 i60_54 rfl rfl rfl ?_
          refine X.putL' 58 5 i60_55 rfl rfl (by decide) rfl rfl rfl (fun hrm654 m654 hm654 => ?_)
          have hJ655 := w27_3 hJ653 hm654 (by omega) hrm654
          refine X.aload_n 59 i60_58 rfl rfl rfl ?_
          refine X.iconst 60 i60_59 rfl rfl (by decide) ?_
          refine X.putI' 63 6 i60_60 rfl rfl (by decide) rfl rfl rfl (fun hrm656 m656 hm656 => ?_)
          have hJ657 := w27_3 hJ655 hm656 (by omega) hrm656
          refine X.aload_n 64 i60_63 rfl rfl rfl ?_
          refine X.iconst 65 i60_64 rfl rfl (by decide) ?_
          refine X.putI' 68 7 i60_65 rfl rfl (by decide) rfl rfl rfl (fun hrm658 m658 hm658 => ?_)
          have hJ659 := w27_3 hJ657 hm658 (by omega) hrm658
          refine X.aload_n 69 i60_68 rfl rfl rfl ?_
          refine X.iconst 70 i60_69 rfl rfl (by decide) ?_
          refine X.putI' 73 8 i60_70 rfl rfl (by decide) rfl rfl rfl (fun hrm660 m660 hm660 => ?_)
          have hJ661 := w27_3 hJ659 hm660 (by omega) hrm660
          refine X.aload_n 74 i60_73 rfl rfl rfl ?_
          refine X.iload_n 75 i60_74 rfl rfl rfl ?_
          refine X.putI' 78 9 i60_75 rfl rfl (by decide) rfl rfl rfl (fun hrm662 m662 hm662 => ?_)
          have hJ663 := w27_9 hJ661 hm662 (by omega)
          refine X.retv i60_78 rfl t60 ?_
          exact hQ  m662  (hJ663.up (by omega)) 
        · refine X.iload 31 i60_29 rfl rfl rfl ?_
          refine X.sipush 34 i60_31 rfl rfl (by decide) ?_
          refine X.iiF 35 .ior (fun x y => x ||| y) i60_34 rfl rfl rfl (fun _ _ => rfl) (fun z664 hz664 => ?_)
          refine X.goto 40 i60_35 rfl rfl ?_
          refine X.cut [(0, zr g0 27), (1, zi a1)] i60_40 rfl ?_
          refine X.callv 43 [zi a1, zi z664] [] [(0, zr g0 27), (1, zi a1), (2, zi z664)] i60_40 rfl (by decide) rfl rfl (by omega) rfl rfl (by decide) rfl t62 (Nat.le_of_ble_eq_true rfl) (Nat.le_of_ble_eq_true rfl) rfl ?_
          refine c62_1 (B := B) g0 a1 z664 (by omega) (hJ.up (by omega)) (by omega) (by omega) (by omega) (fun m665 hJ666 => ?_)
          show X (EE s) d 60 43 [(0, zr g0 27), (1, zi a1)] [] m665 _
          refine X.aload_n 44 i60_43 rfl rfl rfl ?_
          refine X.lconst (y := 0) 45 i60_44 rfl rfl rfl ?_
          refine X.putL' 48 3 i60_45 rfl rfl (by decide) rfl rfl rfl (fun hrm668 m668 hm668 => ?_)
          have hJ669 := w27_3 hJ666 hm668 (by omega) hrm668
          refine X.aload_n 49 i60_48 rfl rfl rfl ?_
          refine X.lconst (y := 0) 50 i60_49 rfl rfl rfl ?_
          refine X.putL' 53 4 i60_50 rfl rfl (by decide) rfl rfl rfl (fun hrm670 m670 hm670 => ?_)
          have hJ671 := w27_3 hJ669 hm670 (by omega) hrm670
          refine X.aload_n 54 i60_53 rfl rfl rfl ?_
          refine X.lconst (y := 0) 55 i60_54 rfl rfl rfl ?_
          refine X.putL' 58 5 i60_55 rfl rfl (by decide) rfl rfl rfl (fun hrm672 m672 hm672 => ?_)
          have hJ673 := w27_3 hJ671 hm672 (by omega) hrm672
          refine X.aload_n 59 i60_58 rfl rfl rfl ?_
          refine X.iconst 60 i60_59 rfl rfl (by decide) ?_
          refine X.putI' 63 6 i60_60 rfl rfl (by decide) rfl rfl rfl (fun hrm674 m674 hm674 => ?_)
          have hJ675 := w27_3 hJ673 hm674 (by omega) hrm674
          refine X.aload_n 64 i60_63 rfl rfl rfl ?_
          refine X.iconst 65 i60_64 rfl rfl (by decide) ?_
          refine X.putI' 68 7 i60_65 rfl rfl (by decide) rfl rfl rfl (fun hrm676 m676 hm676 => ?_)
          have hJ677 := w27_3 hJ675 hm676 (by omega) hrm676
          refine X.aload_n 69 i60_68 rfl rfl rfl ?_
          refine X.iconst 70 i60_69 rfl rfl (by decide) ?_
          refine X.putI' 73 8 i60_70 rfl rfl (by decide) rfl rfl rfl (fun hrm678 m678 hm678 => ?_)
          have hJ679 := w27_3 hJ677 hm678 (by omega) hrm678
          refine X.aload_n 74 i60_73 rfl rfl rfl ?_
          refine X.iload_n 75 i60_74 rfl rfl rfl ?_
          refine X.putI' 78 9 i60_75 rfl rfl (by decide) rfl rfl rfl (fun hrm680 m680 hm680 => ?_)
          have hJ681 := w27_9 hJ679 hm680 (by omega)
          refine X.retv i60_78 rfl t60 ?_
          exact hQ  m680  (hJ681.up (by omega)) 
theorem l65_12_1 {s : Nat × (Nat → Int32)} {S : zS} {m0 m : zM} {B : Int} {d : Nat} {Q : Option zV → zM → Prop} (g0 : Nat) (y1 y2 : Int) (hd : 13 ≤ d) (hJ : J S m0 B m) (hB9 : B ≤ 1000000000) (hy1 : 1 ≤ y1 ∧ y1 ≤ 6) (hy2 : 1 ≤ y2 ∧ y2 ≤ 1000000)
    (K32 : ∀ (x3 : Int) , (0 ≤ x3 ∧ x3 ≤ 5) → (y1 ≤ m g0 27 2) → X (EE s) d 65 32 [(0, zr g0 27), (1, zi y1), (2, zi y2), (3, zi x3)] [] m Q)
    (K59 : ∀ (x3 : Int) , (1 ≤ x3 ∧ x3 ≤ 5) → (y1 ≤ m g0 27 2) → X (EE s) d 65 59 [(0, zr g0 27), (1, zi y1), (2, zi y2), (3, zi x3)] [] m Q)
    (K67 : (y1 ≤ m g0 27 2) → X (EE s) d 65 67 [] [] m Q) :
    ∀ (n : Nat) (y3 : Int) , (0 ≤ y3 ∧ y3 ≤ 6) → (y1 ≤ m g0 27 2) → 6 - y3 < (n : Int) → X (EE s) d 65 12 [(0, zr g0 27), (1, zi y1), (2, zi y2), (3, zi y3)] [] m Q := by
  intro n
  induction n with
  | zero =>
    intro y3 hy3 hr0 hn
    exfalso
    omega
  | succ n ih =>
    intro y3 hy3 hr0 hn
    refine X.iload_n 13 i65_12 rfl rfl rfl ?_
    refine X.iload_n 14 i65_13 rfl rfl rfl ?_
    refine X.icmpge 67 17 i65_14 rfl rfl rfl (fun h510 => ?_) (fun h510 => ?_)
    · refine X.cut [] i65_67 rfl ?_
      exact K67  (by omega)
    · refine X.aload_n 18 i65_17 rfl rfl rfl ?_
      refine X.iload_n 19 i65_18 rfl rfl rfl ?_
      refine X.iconst 20 i65_19 rfl rfl (by decide) ?_
      refine X.callv 23 [zi y3, zi 5] [] [(0, zr g0 27), (1, zi y3), (2, zi 5)] i65_20 rfl (by decide) rfl rfl (by omega) rfl rfl (by decide) rfl t67 (Nat.le_of_ble_eq_true rfl) (Nat.le_of_ble_eq_true rfl) rfl ?_
      refine X.aload_n 1 i67_0 rfl rfl rfl ?_
      refine X.getR 4 i67_1 rfl rfl (by decide) rfl rfl ?_
      refine X.aload_n 5 i67_4 rfl rfl rfl ?_
      refine X.getI 8 2 i67_5 rfl rfl (by decide) rfl rfl rfl ?_
      have h511 := r27_2 hJ g0
      refine X.iconst 9 i67_8 rfl rfl (by decide) ?_
      refine X.isub 10 i67_9 rfl rfl (by omega) ?_
      refine X.iload_n 11 i67_10 rfl rfl rfl ?_
      refine X.isub 12 i67_11 rfl rfl (by omega) ?_
      refine X.bipush 14 i67_12 rfl rfl (by decide) ?_
      refine X.irem 15 i67_14 rfl rfl (by omega) ?_
      refine X.bipush 17 i67_15 rfl rfl (by decide) ?_
      refine X.imul 18 i67_17 rfl rfl (by omega) ?_
      refine X.iload_n 19 i67_18 rfl rfl rfl ?_
      refine X.iadd 20 i67_19 rfl rfl (by omega) ?_
      refine X.lald 21 i67_20 rfl rfl (by decide) rfl (by omega) ?_
      refine X.retl i67_21 rfl t67 ?_
      show X (EE s) d 65 23 [(0, zr g0 27), (1, zi y1), (2, zi y2), (3, zi y3)] [zl (m g0 28 ((((((m g0 27 2) - 1) - y3) % 64) * 6) + 5))] m _
      refine X.ldc2 26 i65_23 rfl rfl (by decide) ?_
      refine X.llF 27 .land (fun x y => x &&& y) i65_26 rfl rfl rfl (fun _ _ => rfl) (fun z512 hz512 => ?_)
      refine X.lconst (y := 0) 28 i65_27 rfl rfl rfl ?_
      refine X.lcmp 29 i65_28 rfl rfl (fun z513 hz513 => ?_)
      refine X.ifeq 34 32 i65_29 rfl rfl rfl (fun h514 => ?_) (fun h514 => ?_)
      · have h514c : z512 = 0 := by omega
        clear h514 hz513
        refine X.iload_n 35 i65_34 rfl rfl rfl ?_
        refine X.ifle 61 38 i65_35 rfl rfl rfl (fun h515 => ?_) (fun h515 => ?_)
        · refine X.iinc 64 [(0, zr g0 27), (1, zi y1), (2, zi y2), (3, zi (y3 + 1))] i65_61 rfl rfl rfl (by omega) rfl ?_
          refine X.goto 12 i65_64 rfl rfl ?_
          exact ih (y3 + 1) (by omega) (by omega) (by omega)
        · refine X.aload_n 39 i65_38 rfl rfl rfl ?_
          refine X.iload_n 40 i65_39 rfl rfl rfl ?_
          refine X.iconst 41 i65_40 rfl rfl (by decide) ?_
          refine X.isub 42 i65_41 rfl rfl (by omega) ?_
          refine X.iconst 43 i65_42 rfl rfl (by decide) ?_
          refine X.callv 46 [zi (y3 - 1), zi 0] [] [(0, zr g0 27), (1, zi (y3 - 1)), (2, zi 0)] i65_43 rfl (by decide) rfl rfl (by omega) rfl rfl (by decide) rfl t67 (Nat.le_of_ble_eq_true rfl) (Nat.le_of_ble_eq_true rfl) rfl ?_
          refine X.aload_n 1 i67_0 rfl rfl rfl ?_
          refine X.getR 4 i67_1 rfl rfl (by decide) rfl rfl ?_
          refine X.aload_n 5 i67_4 rfl rfl rfl ?_
          refine X.getI 8 2 i67_5 rfl rfl (by decide) rfl rfl rfl ?_
          refine X.iconst 9 i67_8 rfl rfl (by decide) ?_
          refine X.isub 10 i67_9 rfl rfl (by omega) ?_
          refine X.iload_n 11 i67_10 rfl rfl rfl ?_
          refine X.isub 12 i67_11 rfl rfl (by omega) ?_
          refine X.bipush 14 i67_12 rfl rfl (by decide) ?_
          refine X.irem 15 i67_14 rfl rfl (by omega) ?_
          refine X.bipush 17 i67_15 rfl rfl (by decide) ?_
          refine X.imul 18 i67_17 rfl rfl (by omega) ?_
          refine X.iload_n 19 i67_18 rfl rfl rfl ?_
          refine X.iadd 20 i67_19 rfl rfl (by omega) ?_
          refine X.lald 21 i67_20 rfl rfl (by decide) rfl (by omega) ?_
          refine X.retl i67_21 rfl t67 ?_
          show X (EE s) d 65 46 [(0, zr g0 27), (1, zi y1), (2, zi y2), (3, zi y3)] [zl (m g0 28 ((((((m g0 27 2) - 1) - (y3 - 1)) % 64) * 6) + 0))] m _
          refine X.aload_n 47 i65_46 rfl rfl rfl ?_
          refine X.iload_n 48 i65_47 rfl rfl rfl ?_
          refine X.iconst 49 i65_48 rfl rfl (by decide) ?_
          refine X.callv 52 [zi y3, zi 0] [zl (m g0 28 ((((((m g0 27 2) - 1) - (y3 - 1)) % 64) * 6) + 0))] [(0, zr g0 27), (1, zi y3), (2, zi 0)] i65_49 rfl (by decide) rfl rfl (by omega) rfl rfl (by decide) rfl t67 (Nat.le_of_ble_eq_true rfl) (Nat.le_of_ble_eq_true rfl) rfl ?_
          refine X.aload_n 1 i67_0 rfl rfl rfl ?_
          refine X.getR 4 i67_1 rfl rfl (by decide) rfl rfl ?_
          refine X.aload_n 5 i67_4 rfl rfl rfl ?_
          refine X.getI 8 2 i67_5 rfl rfl (by decide) rfl rfl rfl ?_
          refine X.iconst 9 i67_8 rfl rfl (by decide) ?_
          refine X.isub 10 i67_9 rfl rfl (by omega) ?_
          refine X.iload_n 11 i67_10 rfl rfl rfl ?_
          refine X.isub 12 i67_11 rfl rfl (by omega) ?_
          refine X.bipush 14 i67_12 rfl rfl (by decide) ?_
          refine X.irem 15 i67_14 rfl rfl (by omega) ?_
          refine X.bipush 17 i67_15 rfl rfl (by decide) ?_
          refine X.imul 18 i67_17 rfl rfl (by omega) ?_
          refine X.iload_n 19 i67_18 rfl rfl rfl ?_
          refine X.iadd 20 i67_19 rfl rfl (by omega) ?_
          refine X.lald 21 i67_20 rfl rfl (by decide) rfl (by omega) ?_
          refine X.retl i67_21 rfl t67 ?_
          show X (EE s) d 65 52 [(0, zr g0 27), (1, zi y1), (2, zi y2), (3, zi y3)] [zl (m g0 28 ((((((m g0 27 2) - 1) - y3) % 64) * 6) + 0)), zl (m g0 28 ((((((m g0 27 2) - 1) - (y3 - 1)) % 64) * 6) + 0))] m _
          refine X.llF 53 .lsub (fun x y => x - y) i65_52 rfl rfl rfl (fun _ _ => rfl) (fun z516 hz516 => ?_)
          refine X.iload_n 54 i65_53 rfl rfl rfl ?_
          refine X.i2l 55 i65_54 rfl rfl ?_
          refine X.lcmp 56 i65_55 rfl rfl (fun z517 hz517 => ?_)
          refine X.ifeq 61 59 i65_56 rfl rfl rfl (fun h518 => ?_) (fun h518 => ?_)
          · have h518c : z516 = y2 := by omega
            clear h518 hz517
            refine X.iinc 64 [(0, zr g0 27), (1, zi y1), (2, zi y2), (3, zi (y3 + 1))] i65_61 rfl rfl rfl (by omega) rfl ?_
            refine X.goto 12 i65_64 rfl rfl ?_
            exact ih (y3 + 1) (by omega) (by omega) (by omega)
          · have h518c : z516 ≠ y2 := by omega
            clear h518 hz517
            exact K59 y3 (by first | trivial | omega) (by omega)
      · have h514c : z512 ≠ 0 := by omega
        clear h514 hz513
        exact K32 y3 (by first | trivial | omega) (by omega)
-- WorkMeter$Demand.windowIsWhole
theorem c65_1 {s : Nat × (Nat → Int32)} {S : zS} {m0 m : zM} {B : Int} {d : Nat} {Q : Option zV → zM → Prop} (g0 : Nat) (a1 a2 : Int) (hd : 14 ≤ d) (hJ : J S m0 B m) (hB : B + 0 ≤ 1000000000) (ha1 : 1 ≤ a1 ∧ a1 ≤ 6) (ha2 : 1 ≤ a2 ∧ a2 ≤ 1000000) (hQ : ∀ (v : Int), (0 ≤ v ∧ v ≤ 1) → (v = 1 → a1 ≤ m g0 27 2) → Q (some (zi v)) m) : X (EE s) d 65 0 [(0, zr g0 27), (1, zi a1), (2, zi a2)] [] m Q := by
  refine X.aload_n 1 i65_0 rfl rfl rfl ?_
  refine X.callv 4 [] [] [(0, zr g0 27)] i65_1 rfl (by decide) rfl rfl (by omega) rfl rfl (by decide) rfl t66 (Nat.le_of_ble_eq_true rfl) (Nat.le_of_ble_eq_true rfl) rfl ?_
  refine X.aload_n 1 i66_0 rfl rfl rfl ?_
  refine X.getI 4 2 i66_1 rfl rfl (by decide) rfl rfl rfl ?_
  have h501 := r27_2 hJ g0
  refine X.bipush 6 i66_4 rfl rfl (by decide) ?_
  refine X.minI 9 i66_6 rfl rfl (by omega) (Nat.le_of_ble_eq_true rfl) ?_
  refine X.reti i66_9 rfl t66 ?_
  show X (EE s) d 65 4 [(0, zr g0 27), (1, zi a1), (2, zi a2)] [zi (min (m g0 27 2) 64)] m _
  refine X.iload_n 5 i65_4 rfl rfl rfl ?_
  refine X.icmpge 10 8 i65_5 rfl rfl rfl (fun h502 => ?_) (fun h502 => ?_)
  · refine X.iconst 11 i65_10 rfl rfl (by decide) ?_
    refine X.istore_n 12 [(0, zr g0 27), (1, zi a1), (2, zi a2), (3, zi 0)] i65_11 rfl rfl rfl ?_
    refine l65_12_1 (s := s) (S := S) (m0 := m0) (m := m) (B := B) (d := d) g0 a1 a2 (by omega) (hJ.up (by omega)) (by omega) (by omega) (by omega) (fun y503 hby503 hrlm5040 => ?_) (fun y507 hby507 hrlm5080 => ?_) (fun  hrlm5110 => ?_) ((6 - 0 : Int).toNat + 1) 0 (by omega) (by omega) (by omega)
    · refine X.iconst 33 i65_32 rfl rfl (by decide) ?_
      refine X.retz i65_33 rfl t65 (by omega) ?_
      exact hQ 0 (by first | trivial | omega) (by omega)
    · refine X.iconst 60 i65_59 rfl rfl (by decide) ?_
      refine X.retz i65_60 rfl t65 (by omega) ?_
      exact hQ 0 (by first | trivial | omega) (by omega)
    · refine X.iconst 68 i65_67 rfl rfl (by decide) ?_
      refine X.retz i65_68 rfl t65 (by omega) ?_
      exact hQ 1 (by first | trivial | omega) (by omega)
  · refine X.iconst 9 i65_8 rfl rfl (by decide) ?_
    refine X.retz i65_9 rfl t65 (by omega) ?_
    exact hQ 0 (by first | trivial | omega) (by omega)
theorem l68_5_1 {s : Nat × (Nat → Int32)} {S : zS} {m0 m : zM} {B : Int} {d : Nat} {Q : Option zV → zM → Prop} (g0 : Nat) (y1 y2 : Int) (hd : 13 ≤ d) (hJ : J S m0 B m) (hB9 : B ≤ 1000000000) (hy1 : 0 ≤ y1 ∧ y1 ≤ 0) (hy2 : 1 ≤ y2 ∧ y2 ≤ 6)
    (K29 : ∀ (x3 : Int) , (True) → (y1 + y2 ≤ m g0 27 2) → X (EE s) d 68 29 [(3, zl x3)] [] m Q) :
    ∀ (n : Nat) (y3 y5 : Int) , (0 ≤ y5 ∧ y5 ≤ 6) → (y1 ≤ y5) → (y1 + y2 ≤ m g0 27 2) → 6 - y5 < (n : Int) → X (EE s) d 68 5 [(0, zr g0 27), (1, zi y1), (2, zi y2), (3, zl y3), (5, zi y5)] [] m Q := by
  intro n
  induction n with
  | zero =>
    intro y3 y5 hy5 hr0 hr1 hn
    exfalso
    omega
  | succ n ih =>
    intro y3 y5 hy5 hr0 hr1 hn
    refine X.iload 7 i68_5 rfl rfl rfl ?_
    refine X.iload_n 8 i68_7 rfl rfl rfl ?_
    refine X.iload_n 9 i68_8 rfl rfl rfl ?_
    refine X.iadd 10 i68_9 rfl rfl (by omega) ?_
    refine X.icmpge 29 13 i68_10 rfl rfl rfl (fun h507 => ?_) (fun h507 => ?_)
    · refine X.cut [(3, zl y3)] i68_29 rfl ?_
      exact K29 y3 (by first | trivial | omega) (by omega)
    · refine X.lload_n 14 i68_13 rfl rfl rfl ?_
      refine X.aload_n 15 i68_14 rfl rfl rfl ?_
      refine X.iload 17 i68_15 rfl rfl rfl ?_
      refine X.iconst 18 i68_17 rfl rfl (by decide) ?_
      refine X.callv 21 [zi y5, zi 1] [zl y3] [(0, zr g0 27), (1, zi y5), (2, zi 1)] i68_18 rfl (by decide) rfl rfl (by omega) rfl rfl (by decide) rfl t67 (Nat.le_of_ble_eq_true rfl) (Nat.le_of_ble_eq_true rfl) rfl ?_
      refine X.aload_n 1 i67_0 rfl rfl rfl ?_
      refine X.getR 4 i67_1 rfl rfl (by decide) rfl rfl ?_
      refine X.aload_n 5 i67_4 rfl rfl rfl ?_
      refine X.getI 8 2 i67_5 rfl rfl (by decide) rfl rfl rfl ?_
      have h508 := r27_2 hJ g0
      refine X.iconst 9 i67_8 rfl rfl (by decide) ?_
      refine X.isub 10 i67_9 rfl rfl (by omega) ?_
      refine X.iload_n 11 i67_10 rfl rfl rfl ?_
      refine X.isub 12 i67_11 rfl rfl (by omega) ?_
      refine X.bipush 14 i67_12 rfl rfl (by decide) ?_
      refine X.irem 15 i67_14 rfl rfl (by omega) ?_
      refine X.bipush 17 i67_15 rfl rfl (by decide) ?_
      refine X.imul 18 i67_17 rfl rfl (by omega) ?_
      refine X.iload_n 19 i67_18 rfl rfl rfl ?_
      refine X.iadd 20 i67_19 rfl rfl (by omega) ?_
      refine X.lald 21 i67_20 rfl rfl (by decide) rfl (by omega) ?_
      refine X.retl i67_21 rfl t67 ?_
      show X (EE s) d 68 21 [(0, zr g0 27), (1, zi y1), (2, zi y2), (3, zl y3), (5, zi y5)] [zl (m g0 28 ((((((m g0 27 2) - 1) - y5) % 64) * 6) + 1)), zl y3] m _
      refine X.llF 22 .ladd (fun x y => x + y) i68_21 rfl rfl rfl (fun _ _ => rfl) (fun z509 hz509 => ?_)
      refine X.lstore_n 23 [(0, zr g0 27), (1, zi y1), (2, zi y2), (3, zl z509), (5, zi y5)] i68_22 rfl rfl rfl ?_
      refine X.iinc 26 [(0, zr g0 27), (1, zi y1), (2, zi y2), (3, zl z509), (5, zi (y5 + 1))] i68_23 rfl rfl rfl (by omega) rfl ?_
      refine X.goto 5 i68_26 rfl rfl ?_
      exact ih z509 (y5 + 1) (by omega) (by omega) (by omega) (by omega)
-- WorkMeter$Load.importOf
theorem c68_1 {s : Nat × (Nat → Int32)} {S : zS} {m0 m : zM} {B : Int} {d : Nat} {Q : Option zV → zM → Prop} (g0 : Nat) (a1 a2 : Int) (hd : 13 ≤ d) (hJ : J S m0 B m) (hB : B + 0 ≤ 1000000000) (ha1 : 0 ≤ a1 ∧ a1 ≤ 0) (ha2 : 1 ≤ a2 ∧ a2 ≤ 6) (hp0 : 0 ≤ a1) (hp1 : a1 + a2 ≤ m g0 27 2) (hQ : ∀ (v : Int), (True) → Q (some (zl v)) m) : X (EE s) d 68 0 [(0, zr g0 27), (1, zi a1), (2, zi a2)] [] m Q := by
  refine X.lconst (y := 0) 1 i68_0 rfl rfl rfl ?_
  refine X.lstore_n 2 [(0, zr g0 27), (1, zi a1), (2, zi a2), (3, zl 0)] i68_1 rfl rfl rfl ?_
  refine X.iload_n 3 i68_2 rfl rfl rfl ?_
  refine X.istore 5 [(0, zr g0 27), (1, zi a1), (2, zi a2), (3, zl 0), (5, zi a1)] i68_3 rfl rfl rfl ?_
  refine l68_5_1 (s := s) (S := S) (m0 := m0) (m := m) (B := B) (d := d) g0 a1 a2 (by omega) (hJ.up (by omega)) (by omega) (by omega) (by omega) (fun y501 hby501 hrlm5020 => ?_) ((6 - a1 : Int).toNat + 1) 0 a1 (by omega) (by omega) (by omega) (by omega)
  refine X.lload_n 30 i68_29 rfl rfl rfl ?_
  refine X.retl i68_30 rfl t68 ?_
  exact hQ y501 (by first | trivial | omega) 
-- WorkMeter$Demand.blockEnded
theorem c64_1 {s : Nat × (Nat → Int32)} {S : zS} {m0 m : zM} {B : Int} {d : Nat} {Q : Option zV → zM → Prop} (g0 g1 : Nat) (a2 a3 a4 : Int) (hd : 15 ≤ d) (hJ : J S m0 B m) (hB : B + 0 ≤ 1000000000) (ha2 : 1 ≤ a2 ∧ a2 ≤ 6) (ha3 : 1 ≤ a3 ∧ a3 ≤ 1000000) (ha4 : 0 ≤ a4 ∧ a4 ≤ 3) (hQ : ∀ m', J S m0 (B) m' → Q none m') : X (EE s) d 64 0 [(0, zr g0 30), (1, zr g1 27), (2, zi a2), (3, zi a3), (4, zi a4)] [] m Q := by
  refine X.aload_n 1 i64_0 rfl rfl rfl ?_
  refine X.iload_n 2 i64_1 rfl rfl rfl ?_
  refine X.iload_n 3 i64_2 rfl rfl rfl ?_
  refine X.calls 6 [zr g1 27, zi a2, zi a3] [] [(0, zr g1 27), (1, zi a2), (2, zi a3)] i64_3 (by decide) rfl rfl (by omega) rfl rfl t65 (Nat.le_of_ble_eq_true rfl) (Nat.le_of_ble_eq_true rfl) rfl ?_
  refine c65_1 (B := B) g1 a2 a3 (by omega) (hJ.up (by omega)) (by omega) (by omega) (by omega) (fun v503 hv503 hqv5030 => ?_)
  show X (EE s) d 64 6 [(0, zr g0 30), (1, zr g1 27), (2, zi a2), (3, zi a3), (4, zi a4)] [zi v503] m _
  refine X.ifne 10 9 i64_6 rfl rfl rfl (fun h504 => ?_) (fun h504 => ?_)
  · refine X.cut [(0, zr g0 30), (1, zr g1 27), (2, zi a2), (4, zi a4)] i64_10 rfl ?_
    refine X.aload_n 11 i64_10 rfl rfl rfl ?_
    refine X.aload_n 12 i64_11 rfl rfl rfl ?_
    refine X.iconst 13 i64_12 rfl rfl (by decide) ?_
    refine X.iload_n 14 i64_13 rfl rfl rfl ?_
    refine X.callv 17 [zi 0, zi a2] [zr g0 30] [(0, zr g1 27), (1, zi 0), (2, zi a2)] i64_14 rfl (by decide) rfl rfl (by omega) rfl rfl (by decide) rfl t68 (Nat.le_of_ble_eq_true rfl) (Nat.le_of_ble_eq_true rfl) rfl ?_
    refine c68_1 (B := B) g1 0 a2 (by omega) (hJ.up (by omega)) (by omega) (by omega) (by omega) (by omega) (by omega) (fun v507 hv507 => ?_)
    show X (EE s) d 64 17 [(0, zr g0 30), (1, zr g1 27), (2, zi a2), (4, zi a4)] [zl v507, zr g0 30] m _
    refine X.putL' 20 2 i64_17 rfl rfl (by decide) rfl rfl rfl (fun hrm508 m508 hm508 => ?_)
    have hJ509 := w30_0 hJ hm508 (by omega) hrm508
    have wtm508_0 : m508 g1 27 2 = m g1 27 2 := by rw [hm508]; exact z_upd_o _ _ rfl
    refine X.aload_n 21 i64_20 rfl rfl rfl ?_
    refine X.aload_n 22 i64_21 rfl rfl rfl ?_
    refine X.iconst 23 i64_22 rfl rfl (by decide) ?_
    refine X.iconst 24 i64_23 rfl rfl (by decide) ?_
    refine X.callv 27 [zi 0, zi 0] [zr g0 30] [(0, zr g1 27), (1, zi 0), (2, zi 0)] i64_24 rfl (by decide) rfl rfl (by omega) rfl rfl (by decide) rfl t67 (Nat.le_of_ble_eq_true rfl) (Nat.le_of_ble_eq_true rfl) rfl ?_
    refine X.aload_n 1 i67_0 rfl rfl rfl ?_
    refine X.getR 4 i67_1 rfl rfl (by decide) rfl rfl ?_
    refine X.aload_n 5 i67_4 rfl rfl rfl ?_
    refine X.getI 8 2 i67_5 rfl rfl (by decide) rfl rfl rfl ?_
    have h510 := r27_2 hJ509 g1
    refine X.iconst 9 i67_8 rfl rfl (by decide) ?_
    refine X.isub 10 i67_9 rfl rfl (by omega) ?_
    refine X.iload_n 11 i67_10 rfl rfl rfl ?_
    refine X.isub 12 i67_11 rfl rfl (by omega) ?_
    refine X.bipush 14 i67_12 rfl rfl (by decide) ?_
    refine X.irem 15 i67_14 rfl rfl (by omega) ?_
    refine X.bipush 17 i67_15 rfl rfl (by decide) ?_
    refine X.imul 18 i67_17 rfl rfl (by omega) ?_
    refine X.iload_n 19 i67_18 rfl rfl rfl ?_
    refine X.iadd 20 i67_19 rfl rfl (by omega) ?_
    refine X.lald 21 i67_20 rfl rfl (by decide) rfl (by omega) ?_
    refine X.retl i67_21 rfl t67 ?_
    show X (EE s) d 64 27 [(0, zr g0 30), (1, zr g1 27), (2, zi a2), (4, zi a4)] [zl (m508 g1 28 ((((((m508 g1 27 2) - 1) - 0) % 64) * 6) + 0)), zr g0 30] m508 _
    refine X.l2iF 28 i64_27 rfl rfl (fun z511 hz511 => ?_)
    refine X.putI' 31 3 i64_28 rfl rfl (by decide) rfl rfl rfl (fun hrm512 m512 hm512 => ?_)
    have hJ513 := w30_0 hJ509 hm512 (by omega) hrm512
    have wtm512_0 : m512 g1 27 2 = m508 g1 27 2 := by rw [hm512]; exact z_upd_o _ _ rfl
    refine X.aload_n 32 i64_31 rfl rfl rfl ?_
    refine X.getL 35 2 i64_32 rfl rfl (by decide) rfl rfl rfl ?_
    refine X.aload_n 36 i64_35 rfl rfl rfl ?_
    refine X.getR 39 i64_36 rfl rfl (by decide) rfl rfl ?_
    refine X.iload 41 i64_39 rfl rfl rfl ?_
    refine X.lald 42 i64_41 rfl rfl (by decide) rfl (by omega) ?_
    refine X.lcmp 43 i64_42 rfl rfl (fun z514 hz514 => ?_)
    refine X.ifle 68 46 i64_43 rfl rfl rfl (fun h515 => ?_) (fun h515 => ?_)
    · have h515c : (m512 g0 30 2) ≤ (m512 g0 31 a4) := by omega
      clear h515 hz514
      refine X.cut [] i64_68 rfl ?_
      refine X.retv i64_68 rfl t64 ?_
      exact hQ  m512  (hJ513.up (by omega)) 
    · have h515c : (m512 g0 30 2) > (m512 g0 31 a4) := by omega
      clear h515 hz514
      refine X.aload_n 47 i64_46 rfl rfl rfl ?_
      refine X.getR 50 i64_47 rfl rfl (by decide) rfl rfl ?_
      refine X.iload 52 i64_50 rfl rfl rfl ?_
      refine X.aload_n 53 i64_52 rfl rfl rfl ?_
      refine X.getL 56 2 i64_53 rfl rfl (by decide) rfl rfl rfl ?_
      refine X.last' 57 i64_56 rfl rfl (by decide) rfl (by omega) (fun hrm516 m516 hm516 => ?_)
      have hJ517 := w31_0 hJ513 hm516 (by omega) hrm516
      have wtm516_0 : m516 g1 27 2 = m512 g1 27 2 := by rw [hm516]; exact z_upd_o _ _ rfl
      refine X.aload_n 58 i64_57 rfl rfl rfl ?_
      refine X.getR 61 i64_58 rfl rfl (by decide) rfl rfl ?_
      refine X.iload 63 i64_61 rfl rfl rfl ?_
      refine X.aload_n 64 i64_63 rfl rfl rfl ?_
      refine X.getIr 67 3 i64_64 rfl rfl (by decide) rfl rfl rfl (fun h518 => ?_)
      refine X.iast' 68 i64_67 rfl rfl (by decide) rfl (by omega) (fun hrm519 m519 hm519 => ?_)
      have hJ520 := w32_0 hJ517 hm519 (by omega) hrm519
      have wtm519_0 : m519 g1 27 2 = m516 g1 27 2 := by rw [hm519]; exact z_upd_o _ _ rfl
      refine X.cut [] i64_68 rfl ?_
      refine X.retv i64_68 rfl t64 ?_
      exact hQ  m519  (hJ520.up (by omega)) 
  · refine X.retv i64_9 rfl t64 ?_
    exact hQ  m  (hJ.up (by omega)) 
-- WorkMeter$Meter.endBlockIfDue
theorem c59_1 {s : Nat × (Nat → Int32)} {S : zS} {m0 m : zM} {B : Int} {d : Nat} {Q : Option zV → zM → Prop} (g0 : Nat) (a1 : Int) (hd : 16 ≤ d) (hJ : J S m0 B m) (hB : B + 1 ≤ 1000000000) (ha1 : 0 ≤ a1 ∧ a1 ≤ 3) (hQ : ∀ m', J S m0 (B + 1) m' → Q none m') : X (EE s) d 59 0 [(0, zr g0 8), (1, zi a1)] [] m Q := by
  refine X.aload_n 1 i59_0 rfl rfl rfl ?_
  refine X.getR 4 i59_1 rfl rfl (by decide) rfl rfl ?_
  refine X.callv 7 [] [] [(0, zr g0 9)] i59_4 rfl (by decide) rfl rfl (by omega) rfl rfl (by decide) rfl t36 (Nat.le_of_ble_eq_true rfl) (Nat.le_of_ble_eq_true rfl) rfl ?_
  refine X.iconst 1 i36_0 rfl rfl (by decide) ?_
  refine X.aload_n 2 i36_1 rfl rfl rfl ?_
  refine X.getR 5 i36_2 rfl rfl (by decide) rfl rfl ?_
  refine X.iconst 6 i36_5 rfl rfl (by decide) ?_
  refine X.iald 7 i36_6 rfl rfl (by decide) rfl (by omega) ?_
  have h501 := r10_0 hJ g0 (i := 4) (by omega)
  refine X.maxI 10 i36_7 rfl rfl (by omega) (Nat.le_of_ble_eq_true rfl) ?_
  refine X.reti i36_10 rfl t36 ?_
  show X (EE s) d 59 7 [(0, zr g0 8), (1, zi a1)] [zi (max 1 (m g0 10 4))] m _
  refine X.istore_n 8 [(0, zr g0 8), (1, zi a1), (2, zi (max 1 (m g0 10 4)))] i59_7 rfl rfl rfl ?_
  refine X.aload_n 9 i59_8 rfl rfl rfl ?_
  refine X.getI 12 9 i59_9 rfl rfl (by decide) rfl rfl rfl ?_
  have h502 := r8_9 hJ g0
  refine X.iload_n 13 i59_12 rfl rfl rfl ?_
  refine X.irem 14 i59_13 rfl rfl (by omega) ?_
  have hz503 := z_modb (x := (m g0 8 9)) (y := (max 1 (m g0 10 4))) (by omega) (by omega)
  obtain ⟨z503, ez503⟩ : ∃ z, z = ((m g0 8 9) % (max 1 (m g0 10 4))) := ⟨_, rfl⟩
  rw [← ez503] at hz503 ⊢
  clear ez503
  refine X.ifne 50 17 i59_14 rfl rfl rfl (fun h504 => ?_) (fun h504 => ?_)
  · refine X.cut [] i59_50 rfl ?_
    refine X.retv i59_50 rfl t59 ?_
    exact hQ  m  (hJ.up (by omega)) 
  · refine X.aload_n 18 i59_17 rfl rfl rfl ?_
    refine X.getR 21 i59_18 rfl rfl (by decide) rfl rfl ?_
    refine X.aload_n 22 i59_21 rfl rfl rfl ?_
    refine X.getI 25 9 i59_22 rfl rfl (by decide) rfl rfl rfl ?_
    refine X.iload_n 26 i59_25 rfl rfl rfl ?_
    refine X.iconst 27 i59_26 rfl rfl (by decide) ?_
    refine X.callv 30 [zi (m g0 8 9), zi (max 1 (m g0 10 4)), zi 0] [] [(0, zr g0 27), (1, zi (m g0 8 9)), (2, zi (max 1 (m g0 10 4))), (3, zi 0)] i59_27 rfl (by decide) rfl rfl (by omega) rfl rfl (by decide) rfl t60 (Nat.le_of_ble_eq_true rfl) (Nat.le_of_ble_eq_true rfl) rfl ?_
    refine c60_1 (B := B) g0 (m g0 8 9) (max 1 (m g0 10 4)) 0 (by omega) (hJ.up (by omega)) (by omega) (by omega) (by omega) (by omega) (fun m505 hJ506 => ?_)
    show X (EE s) d 59 30 [(0, zr g0 8), (1, zi a1), (2, zi (max 1 (m g0 10 4)))] [] m505 _
    refine X.aload_n 31 i59_30 rfl rfl rfl ?_
    refine X.getR 34 i59_31 rfl rfl (by decide) rfl rfl ?_
    refine X.aload_n 35 i59_34 rfl rfl rfl ?_
    refine X.getR 38 i59_35 rfl rfl (by decide) rfl rfl ?_
    refine X.aload_n 39 i59_38 rfl rfl rfl ?_
    refine X.getR 42 i59_39 rfl rfl (by decide) rfl rfl ?_
    refine X.callv 45 [] [zr g0 27, zr g0 30] [(0, zr g0 9)] i59_42 rfl (by decide) rfl rfl (by omega) rfl rfl (by decide) rfl t63 (Nat.le_of_ble_eq_true rfl) (Nat.le_of_ble_eq_true rfl) rfl ?_
    refine X.aload_n 1 i63_0 rfl rfl rfl ?_
    refine X.getR 4 i63_1 rfl rfl (by decide) rfl rfl ?_
    refine X.iconst 5 i63_4 rfl rfl (by decide) ?_
    refine X.iald 6 i63_5 rfl rfl (by decide) rfl (by omega) ?_
    have h508 := r10_5 hJ506 g0
    refine X.reti i63_6 rfl t63 ?_
    show X (EE s) d 59 45 [(0, zr g0 8), (1, zi a1), (2, zi (max 1 (m g0 10 4)))] [zi (m505 g0 10 5), zr g0 27, zr g0 30] m505 _
    refine X.iload_n 46 i59_45 rfl rfl rfl ?_
    refine X.iload_n 47 i59_46 rfl rfl rfl ?_
    refine X.callv 50 [zr g0 27, zi (m505 g0 10 5), zi (max 1 (m g0 10 4)), zi a1] [] [(0, zr g0 30), (1, zr g0 27), (2, zi (m505 g0 10 5)), (3, zi (max 1 (m g0 10 4))), (4, zi a1)] i59_47 rfl (by decide) rfl rfl (by omega) rfl rfl (by decide) rfl t64 (Nat.le_of_ble_eq_true rfl) (Nat.le_of_ble_eq_true rfl) rfl ?_
    refine c64_1 (B := B + 1) g0 g0 (m505 g0 10 5) (max 1 (m g0 10 4)) a1 (by omega) (hJ506.up (by omega)) (by omega) (by omega) (by omega) (by omega) (fun m509 hJ510 => ?_)
    show X (EE s) d 59 50 [(0, zr g0 8), (1, zi a1), (2, zi (max 1 (m g0 10 4)))] [] m509 _
    refine X.cut [] i59_50 rfl ?_
    refine X.retv i59_50 rfl t59 ?_
    exact hQ  m509  (hJ510.up (by omega)) 
