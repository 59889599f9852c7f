-- WorkMeter$CalendarText.readSpecial
theorem c107_1 {s : Nat × (Nat → Int32)} {S : zS} {m0 m : zM} {B : Int} {d : Nat} {Q : Option zV → zM → Prop} (hd : 15 ≤ d) (hJ : J S m0 B m) (hB : B + 0 ≤ 1000000000) (hp0 : m 4 41 7 + 7 ≤ 300) (hf1 : ¬ S.1 1) (hf16 : ¬ S.1 16) (hf19 : ¬ S.1 19) (hg3 : ¬ S.2.1 3) (hg4 : ¬ S.2.1 4) (hQ : ∀ (v : Int) m', (0 ≤ v ∧ v ≤ 1) → f107_1 m = (v, m') → J S m0 (B) m' → Q (some (zi v)) m') : X (EE s) d 107 0 [(0, zr 4 41)] [] m Q := by
  refine X.aload_n 1 i107_0 rfl rfl rfl ?_
  refine X.getF 4 i107_1 rfl rfl (by decide) rfl rfl ?_
  refine X.getI 7 7 i107_4 rfl rfl (by decide) rfl rfl rfl ?_
  have h501 := r11_7 hJ 3
  refine X.bipush 9 i107_7 rfl rfl (by decide) ?_
  refine X.icmplt 22 12 i107_9 rfl rfl rfl (fun h502 => ?_) (fun h502 => ?_)
  · refine X.aload_n 23 i107_22 rfl rfl rfl ?_
    refine X.ldcS 25 i107_23 rfl rfl (by decide) ?_
    refine X.callv 28 [zr 99 6] [] [(0, zr 4 41), (1, zr 99 6)] i107_25 rfl (by decide) rfl rfl (by omega) rfl rfl (by decide) rfl t98 (Nat.le_of_ble_eq_true rfl) (Nat.le_of_ble_eq_true rfl) rfl ?_
    refine X.aload_n 1 i98_0 rfl rfl rfl ?_
    refine X.dup 2 i98_1 rfl rfl rfl ?_
    refine X.getI 5 7 i98_2 rfl rfl (by decide) rfl rfl rfl ?_
    have h503 := r41_7 hJ 4
    refine X.aload_n 6 i98_5 rfl rfl rfl ?_
    refine X.slen 9 i98_6 rfl rfl (by omega) (Nat.le_of_ble_eq_true rfl) (by decide) (show (7 : Nat) < 2147483648 by decide) ?_
    show X (EE s) (d - 1) 98 9 [(0, zr 4 41), (1, zr 99 6)] [zi 7, zi (m 4 41 7), zr 4 41] m _
    refine X.iadd 10 i98_9 rfl rfl (by omega) ?_
    refine X.putI' 13 7 i98_10 rfl rfl (by decide) rfl rfl rfl (fun hrm504 m504 hm504 => ?_)
    have hJ505 := w41_7 hJ hm504 (by omega) hf19 hg4
    have em504 : m504 4 41 7 = ((m 4 41 7) + 7) := by rw [hm504]; exact z_upd_same _ _ _ _ _
    refine X.retv i98_13 rfl t98 ?_
    show X (EE s) d 107 28 [(0, zr 4 41)] [] m504 _
    refine X.aload_n 29 i107_28 rfl rfl rfl ?_
    refine X.sipush 32 i107_29 rfl rfl (by decide) ?_
    refine X.callv 35 [zi 364] [] [(0, zr 4 41), (1, zi 364)] i107_32 rfl (by decide) rfl rfl (by omega) rfl rfl (by decide) rfl t100 (Nat.le_of_ble_eq_true rfl) (Nat.le_of_ble_eq_true rfl) rfl ?_
    refine c100_2 (B := B)  364 (by omega) (hJ505.up (by omega)) (by omega) (by omega) hf16 hf19 hg4 (fun v508 m506 hv508 hFv508 hJ507 => ?_)
    show X (EE s) d 107 35 [(0, zr 4 41)] [zi v508] m506 _
    refine X.istore_n 36 [(0, zr 4 41), (1, zi v508)] i107_35 rfl rfl rfl ?_
    refine X.iload_n 37 i107_36 rfl rfl rfl ?_
    refine X.iconst 38 i107_37 rfl rfl (by decide) ?_
    refine X.icmpne 43 41 i107_38 rfl rfl rfl (fun h509 => ?_) (fun h509 => ?_)
    · refine X.aload_n 44 i107_43 rfl rfl rfl ?_
      refine X.getF 47 i107_44 rfl rfl (by decide) rfl rfl ?_
      refine X.iload_n 48 i107_47 rfl rfl rfl ?_
      refine X.callv 51 [zi v508] [] [(0, zr 3 11), (1, zi v508)] i107_48 rfl (by decide) rfl rfl (by omega) rfl rfl (by decide) rfl t108 (Nat.le_of_ble_eq_true rfl) (Nat.le_of_ble_eq_true rfl) rfl ?_
      refine c108_1 (B := B) 3 v508 (by omega) (hJ507.up (by omega)) (by omega) (by omega) (fun v512 hv512 hFv512 => ?_)
      show X (EE s) d 107 51 [(0, zr 4 41), (1, zi v508)] [zi v512] m506 _
      refine X.ifeq 64 54 i107_51 rfl rfl rfl (fun h513 => ?_) (fun h513 => ?_)
      · refine X.aload_n 65 i107_64 rfl rfl rfl ?_
        refine X.bipush 67 i107_65 rfl rfl (by decide) ?_
        refine X.callv 70 [zi 7] [] [(0, zr 4 41), (1, zi 7)] i107_67 rfl (by decide) rfl rfl (by omega) rfl rfl (by decide) rfl t100 (Nat.le_of_ble_eq_true rfl) (Nat.le_of_ble_eq_true rfl) rfl ?_
        refine c100_3 (B := B)  7 (by omega) (hJ507.up (by omega)) (by omega) (by omega) hf16 hf19 hg4 (fun v516 m514 hv516 hFv516 hJ515 => ?_)
        show X (EE s) d 107 70 [(0, zr 4 41), (1, zi v508)] [zi v516] m514 _
        refine X.istore_n 71 [(0, zr 4 41), (1, zi v508), (2, zi v516)] i107_70 rfl rfl rfl ?_
        refine X.iload_n 72 i107_71 rfl rfl rfl ?_
        refine X.iconst 73 i107_72 rfl rfl (by decide) ?_
        have hK525 : ∀ (v : Int) (m' : zM), (0 ≤ v ∧ v ≤ 1) → (if v516 = (-1) then
            ((0, m514))
            else
            (zb (f109_1 3 v508 v516 m514) fun v520 m518 =>
            if v520 = 0 then
            ((0, m518))
            else
            ((1, m518)))) = (v, m') → J S m0 (B) m' → X (EE s) d 107 93 [] [zi v] m' Q := by
          intro v522 m523 hv522 hT526 hJ524
          refine X.retz i107_93 rfl t107 (by omega) ?_
          exact hQ v522 m523 (by first | trivial | omega) (Eq.trans (if_pos h502) (Eq.trans (zs_eq hm504) (Eq.trans (zb_eq hFv508) (Eq.trans (if_neg h509) (Eq.trans (zn_eq hFv512.symm) (Eq.trans (if_pos h513) (Eq.trans (zb_eq hFv516) (Eq.trans (zb_eq hT526) rfl)))))))) (hJ524.up (by omega)) 
        refine X.icmpeq 92 76 i107_73 rfl rfl rfl (fun h517 => ?_) (fun h517 => ?_)
        · refine X.cut [] i107_92 rfl ?_
          refine X.iconst 93 i107_92 rfl rfl (by decide) ?_
          exact hK525 0 m514 (by first | trivial | omega) (Eq.trans (if_pos h517) rfl) (hJ515.up (by omega))
        · refine X.aload_n 77 i107_76 rfl rfl rfl ?_
          refine X.getF 80 i107_77 rfl rfl (by decide) rfl rfl ?_
          refine X.iload_n 81 i107_80 rfl rfl rfl ?_
          refine X.iload_n 82 i107_81 rfl rfl rfl ?_
          refine X.callv 85 [zi v508, zi v516] [] [(0, zr 3 11), (1, zi v508), (2, zi v516)] i107_82 rfl (by decide) rfl rfl (by omega) rfl rfl (by decide) rfl t109 (Nat.le_of_ble_eq_true rfl) (Nat.le_of_ble_eq_true rfl) rfl ?_
          refine c109_1 (B := B) 3 v508 v516 (by omega) (hJ515.up (by omega)) (by omega) (by omega) (by omega) hf1 hg3 (fun v520 m518 hv520 hFv520 hJ519 => ?_)
          show X (EE s) d 107 85 [(0, zr 4 41), (1, zi v508), (2, zi v516)] [zi v520] m518 _
          refine X.ifeq 92 88 i107_85 rfl rfl rfl (fun h521 => ?_) (fun h521 => ?_)
          · refine X.cut [] i107_92 rfl ?_
            refine X.iconst 93 i107_92 rfl rfl (by decide) ?_
            exact hK525 0 m518 (by first | trivial | omega) (Eq.trans (if_neg h517) (Eq.trans (zb_eq hFv520) (Eq.trans (if_pos h521) rfl))) (hJ519.up (by omega))
          · refine X.iconst 89 i107_88 rfl rfl (by decide) ?_
            refine X.goto 93 i107_89 rfl rfl ?_
            refine X.cut [] i107_93 rfl ?_
            exact hK525 1 m518 (by first | trivial | omega) (Eq.trans (if_neg h517) (Eq.trans (zb_eq hFv520) (Eq.trans (if_neg h521) rfl))) (hJ519.up (by omega))
      · refine X.aload_n 55 i107_54 rfl rfl rfl ?_
        refine X.iconst 56 i107_55 rfl rfl (by decide) ?_
        refine X.aload_n 57 i107_56 rfl rfl rfl ?_
        refine X.getIr 60 8 i107_57 rfl rfl (by decide) rfl rfl rfl (fun h527 => ?_)
        refine X.callv 63 [zi 3, zi (m506 4 41 8)] [] [(0, zr 4 41), (1, zi 3), (2, zi (m506 4 41 8))] i107_60 rfl (by decide) rfl rfl (by omega) rfl rfl (by decide) rfl t102 (Nat.le_of_ble_eq_true rfl) (Nat.le_of_ble_eq_true rfl) rfl ?_
        refine c102_4 (B := B)  3 (m506 4 41 8) (by omega) (hJ507.up (by omega)) (by omega) (by omega) (by omega) hf16 hg4 (fun v530 m528 hv530 hFv530 hJ529 => ?_)
        show X (EE s) d 107 63 [(0, zr 4 41), (1, zi v508)] [zi v530] m528 _
        refine X.retz i107_63 rfl t107 (by omega) ?_
        exact hQ v530 m528 (by first | trivial | omega) (Eq.trans (if_pos h502) (Eq.trans (zs_eq hm504) (Eq.trans (zb_eq hFv508) (Eq.trans (if_neg h509) (Eq.trans (zn_eq hFv512.symm) (Eq.trans (if_neg h513) (Eq.trans (zb_eq hFv530) rfl))))))) (hJ529.up (by omega)) 
    · refine X.iconst 42 i107_41 rfl rfl (by decide) ?_
      refine X.retz i107_42 rfl t107 (by omega) ?_
      exact hQ 0 m506 (by first | trivial | omega) (Eq.trans (if_pos h502) (Eq.trans (zs_eq hm504) (Eq.trans (zb_eq hFv508) (Eq.trans (if_pos h509) rfl)))) (hJ507.up (by omega)) 
  · refine X.aload_n 13 i107_12 rfl rfl rfl ?_
    refine X.iconst 14 i107_13 rfl rfl (by decide) ?_
    refine X.aload_n 15 i107_14 rfl rfl rfl ?_
    refine X.getI 18 7 i107_15 rfl rfl (by decide) rfl rfl rfl ?_
    have h531 := r41_7 hJ 4
    refine X.callv 21 [zi 4, zi (m 4 41 7)] [] [(0, zr 4 41), (1, zi 4), (2, zi (m 4 41 7))] i107_18 rfl (by decide) rfl rfl (by omega) rfl rfl (by decide) rfl t102 (Nat.le_of_ble_eq_true rfl) (Nat.le_of_ble_eq_true rfl) rfl ?_
    refine c102_5 (B := B)  4 (m 4 41 7) (by omega) (hJ.up (by omega)) (by omega) (by omega) (by omega) hf16 hg4 (fun v534 m532 hv534 hFv534 hJ533 => ?_)
    show X (EE s) d 107 21 [(0, zr 4 41)] [zi v534] m532 _
    refine X.retz i107_21 rfl t107 (by omega) ?_
    exact hQ v534 m532 (by first | trivial | omega) (Eq.trans (if_neg h502) (Eq.trans (zb_eq hFv534) rfl)) (hJ533.up (by omega)) 
theorem l100_14_4 {s : Nat × (Nat → Int32)} {S : zS} {m0 : zM} {d : Nat} {Q : Option zV → zM → Prop} {R0 : Int × zM} {k76 : Int → zM → Int × zM} (y1 : Int) (BE : Int) (hE : BE ≤ 1000000000) (hd : 13 ≤ d) (hy1 : 3 ≤ y1 ∧ y1 ≤ 3) (hf19 : ¬ S.1 19) (hg4 : ¬ S.2.1 4)
    (K76 : ∀ (x2 : Int) (m' : zM) (B' : Int), J S m0 B' m' → B' ≤ BE → (0 ≤ x2 ∧ x2 ≤ 1000000) → R0 = k76 x2 m' → X (EE s) d 100 76 [(0, zr 4 41), (1, zi y1), (2, zi x2)] [] m' Q) :
    ∀ (n : Nat) (y2 : Int) (m : zM) (B : Int), J S m0 B m → B + 0 * (n : Int) ≤ BE → (0 ≤ y2 ∧ y2 ≤ 1000000) → 300 - m 4 41 7 < (n : Int) → R0 = fl100_14_1 k76 y1 n y2 m → X (EE s) d 100 14 [(0, zr 4 41), (1, zi y1), (2, zi y2)] [] m Q := by
  intro n
  induction n with
  | zero =>
    intro y2 m B hJ hB hy2 hn hR
    have zf0 := r41_7 hJ 4
    exfalso
    omega
  | succ n ih =>
    intro y2 m B hJ hB hy2 hn hR
    replace hR : R0 = fl100_14_1_b (fl100_14_1 k76 y1 n) k76 y1 y2 m := hR
    refine X.aload_n 15 i100_14 rfl rfl rfl ?_
    refine X.getI 18 7 i100_15 rfl rfl (by decide) rfl rfl rfl ?_
    have h512 := r41_7 hJ 4
    refine X.aload_n 19 i100_18 rfl rfl rfl ?_
    refine X.getI 22 3 i100_19 rfl rfl (by decide) rfl rfl rfl ?_
    have h513 := r41_3 hJ 4
    refine X.icmpge 76 25 i100_22 rfl rfl rfl (fun h514 => ?_) (fun h514 => ?_)
    · exact K76 y2 m (B) (hJ.up (by omega)) (by omega) (by first | trivial | omega) (Eq.trans hR (Eq.trans (if_pos h514) rfl))
    · refine X.aload_n 26 i100_25 rfl rfl rfl ?_
      refine X.getF 29 i100_26 rfl rfl (by decide) rfl rfl ?_
      refine X.aload_n 30 i100_29 rfl rfl rfl ?_
      refine X.getI 33 7 i100_30 rfl rfl (by decide) rfl rfl rfl ?_
      refine X.iald 34 i100_33 rfl rfl (by decide) rfl (by omega) ?_
      have h515 := r42_0 hJ 4 (i := (m 4 41 7)) (by omega)
      refine X.calls 37 [zi (m 4 42 (m 4 41 7))] [] [(0, zi (m 4 42 (m 4 41 7)))] i100_34 (by decide) rfl rfl (by omega) rfl rfl t101 (Nat.le_of_ble_eq_true rfl) (Nat.le_of_ble_eq_true rfl) rfl ?_
      refine X.iload_n 1 i101_0 rfl rfl rfl ?_
      refine X.bipush 3 i101_1 rfl rfl (by decide) ?_
      refine X.icmplt 16 6 i101_3 rfl rfl rfl (fun h516 => ?_) (fun h516 => ?_)
      · refine X.cut [] i101_16 rfl ?_
        refine X.iconst 17 i101_16 rfl rfl (by decide) ?_
        refine X.retz i101_17 rfl t101 (by omega) ?_
        show X (EE s) d 100 37 [(0, zr 4 41), (1, zi y1), (2, zi y2)] [zi 0] m _
        refine X.ifeq 76 40 i100_37 rfl rfl rfl (fun h517 => ?_) (fun h517 => (by exfalso; omega))
        exact K76 y2 m (B) (hJ.up (by omega)) (by omega) (by first | trivial | omega) (Eq.trans hR (Eq.trans (if_neg h514) (Eq.trans (if_pos h516) rfl)))
      · refine X.iload_n 7 i101_6 rfl rfl rfl ?_
        refine X.bipush 9 i101_7 rfl rfl (by decide) ?_
        refine X.icmpgt 16 12 i101_9 rfl rfl rfl (fun h518 => ?_) (fun h518 => ?_)
        · refine X.cut [] i101_16 rfl ?_
          refine X.iconst 17 i101_16 rfl rfl (by decide) ?_
          refine X.retz i101_17 rfl t101 (by omega) ?_
          show X (EE s) d 100 37 [(0, zr 4 41), (1, zi y1), (2, zi y2)] [zi 0] m _
          refine X.ifeq 76 40 i100_37 rfl rfl rfl (fun h519 => ?_) (fun h519 => (by exfalso; omega))
          exact K76 y2 m (B) (hJ.up (by omega)) (by omega) (by first | trivial | omega) (Eq.trans hR (Eq.trans (if_neg h514) (Eq.trans (if_neg h516) (Eq.trans (if_pos h518) rfl))))
        · refine X.iconst 13 i101_12 rfl rfl (by decide) ?_
          refine X.goto 17 i101_13 rfl rfl ?_
          refine X.cut [] i101_17 rfl ?_
          refine X.retz i101_17 rfl t101 (by omega) ?_
          show X (EE s) d 100 37 [(0, zr 4 41), (1, zi y1), (2, zi y2)] [zi 1] m _
          refine X.ifeq 76 40 i100_37 rfl rfl rfl (fun h520 => (by exfalso; omega)) (fun h520 => ?_)
          refine X.iload_n 41 i100_40 rfl rfl rfl ?_
          refine X.bipush 43 i100_41 rfl rfl (by decide) ?_
          refine X.imul 44 i100_43 rfl rfl (by omega) ?_
          refine X.aload_n 45 i100_44 rfl rfl rfl ?_
          refine X.getF 48 i100_45 rfl rfl (by decide) rfl rfl ?_
          refine X.aload_n 49 i100_48 rfl rfl rfl ?_
          refine X.getI 52 7 i100_49 rfl rfl (by decide) rfl rfl rfl ?_
          refine X.iald 53 i100_52 rfl rfl (by decide) rfl (by omega) ?_
          refine X.iadd 54 i100_53 rfl rfl (by omega) ?_
          refine X.bipush 56 i100_54 rfl rfl (by decide) ?_
          refine X.isub 57 i100_56 rfl rfl (by omega) ?_
          refine X.ldc 59 i100_57 rfl rfl (by decide) ?_
          refine X.minI 62 i100_59 rfl rfl (by omega) (Nat.le_of_ble_eq_true rfl) ?_
          refine X.istore_n 63 [(0, zr 4 41), (1, zi y1), (2, zi (min (((y2 * 10) + (m 4 42 (m 4 41 7))) - 48) 1000000))] i100_62 rfl rfl rfl ?_
          refine X.aload_n 64 i100_63 rfl rfl rfl ?_
          refine X.dup 65 i100_64 rfl rfl rfl ?_
          refine X.getI 68 7 i100_65 rfl rfl (by decide) rfl rfl rfl ?_
          refine X.iconst 69 i100_68 rfl rfl (by decide) ?_
          refine X.iadd 70 i100_69 rfl rfl (by omega) ?_
          refine X.putI' 73 7 i100_70 rfl rfl (by decide) rfl rfl rfl (fun hrm521 m521 hm521 => ?_)
          have hJ522 := w41_7 hJ hm521 (by omega) hf19 hg4
          have em521 : m521 4 41 7 = ((m 4 41 7) + 1) := by rw [hm521]; exact z_upd_same _ _ _ _ _
          refine X.goto 14 i100_73 rfl rfl ?_
          exact ih (min (((y2 * 10) + (m 4 42 (m 4 41 7))) - 48) 1000000) m521 (B) (hJ522.up (by omega)) (by omega) (by omega) (by omega) (Eq.trans hR (Eq.trans (if_neg h514) (Eq.trans (if_neg h516) (Eq.trans (if_neg h518) (Eq.trans (zs_eq hm521) rfl)))))
-- WorkMeter$CalendarText.readNumber
theorem c100_4 {s : Nat × (Nat → Int32)} {S : zS} {m0 m : zM} {B : Int} {d : Nat} {Q : Option zV → zM → Prop} (a1 : Int) (hd : 14 ≤ d) (hJ : J S m0 B m) (hB : B + 0 ≤ 1000000000) (ha1 : 3 ≤ a1 ∧ a1 ≤ 3) (hf16 : ¬ S.1 16) (hf19 : ¬ S.1 19) (hg4 : ¬ S.2.1 4) (hQ : ∀ (v : Int) m', ((-1) ≤ v ∧ v ≤ 3) → f100_1 a1 m = (v, m') → J S m0 (B) m' → Q (some (zi v)) m') : X (EE s) d 100 0 [(0, zr 4 41), (1, zi a1)] [] m Q := by
  refine X.aload_n 1 i100_0 rfl rfl rfl ?_
  refine X.callv 4 [] [] [(0, zr 4 41)] i100_1 rfl (by decide) rfl rfl (by omega) rfl rfl (by decide) rfl t93 (Nat.le_of_ble_eq_true rfl) (Nat.le_of_ble_eq_true rfl) rfl ?_
  refine c93_1 (B := B)   (by omega) (hJ.up (by omega)) (by omega)  hf19 hg4 (fun m501 hFv503 hJ502 => ?_)
  show X (EE s) d 100 4 [(0, zr 4 41), (1, zi a1)] [] m501 _
  refine X.aload_n 5 i100_4 rfl rfl rfl ?_
  refine X.aload_n 6 i100_5 rfl rfl rfl ?_
  refine X.getI 9 7 i100_6 rfl rfl (by decide) rfl rfl rfl ?_
  have h504 := r41_7 hJ502 4
  refine X.putI' 12 8 i100_9 rfl rfl (by decide) rfl rfl rfl (fun hrm505 m505 hm505 => ?_)
  have hJ506 := w41_8 hJ502 hm505 (by omega) hrm505 hf19 hg4
  refine X.iconst 13 i100_12 rfl rfl (by decide) ?_
  refine X.istore_n 14 [(0, zr 4 41), (1, zi a1), (2, zi 0)] i100_13 rfl rfl rfl ?_
  have hz301 := zfu_eq 301
  refine l100_14_4 (s := s) (d := d) (R0 := (f100_1 a1 m))  a1  (BE := B + 0) (by omega) (by omega) (by omega) hf19 hg4 (fun y507 m508 B509 hJ510 hBB509 hby507 hR511 => ?_) (zfu 301) 0 m505 (B) (hJ506.up (by omega)) (by omega) (by omega) (by omega) (Eq.trans (zs_eq hFv503.symm) (Eq.trans (zs_eq hm505) rfl))
  refine X.aload_n 77 i100_76 rfl rfl rfl ?_
  refine X.getI 80 7 i100_77 rfl rfl (by decide) rfl rfl rfl ?_
  have h512 := r41_7 hJ510 4
  refine X.aload_n 81 i100_80 rfl rfl rfl ?_
  refine X.getIr 84 8 i100_81 rfl rfl (by decide) rfl rfl rfl (fun h513 => ?_)
  refine X.icmpne 99 87 i100_84 rfl rfl rfl (fun h514 => ?_) (fun h514 => ?_)
  · refine X.iload_n 100 i100_99 rfl rfl rfl ?_
    refine X.iload_n 101 i100_100 rfl rfl rfl ?_
    refine X.icmple 116 104 i100_101 rfl rfl rfl (fun h515 => ?_) (fun h515 => ?_)
    · refine X.cut [(2, zi y507)] i100_116 rfl ?_
      refine X.iload_n 117 i100_116 rfl rfl rfl ?_
      refine X.reti i100_117 rfl t100 ?_
      exact hQ y507 m508 (by first | trivial | omega) (Eq.trans hR511 (Eq.trans (if_neg h514) (Eq.trans (if_pos h515) rfl))) (hJ510.up (by omega)) 
    · refine X.aload_n 105 i100_104 rfl rfl rfl ?_
      refine X.iconst 106 i100_105 rfl rfl (by decide) ?_
      refine X.aload_n 107 i100_106 rfl rfl rfl ?_
      refine X.getI 110 8 i100_107 rfl rfl (by decide) rfl rfl rfl ?_
      refine X.callv 113 [zi 2, zi (m508 4 41 8)] [] [(0, zr 4 41), (1, zi 2), (2, zi (m508 4 41 8))] i100_110 rfl (by decide) rfl rfl (by omega) rfl rfl (by decide) rfl t102 (Nat.le_of_ble_eq_true rfl) (Nat.le_of_ble_eq_true rfl) rfl ?_
      refine c102_2 (B := B509)  2 (m508 4 41 8) (by omega) (hJ510.up (by omega)) (by omega) (by omega) (by omega) hf16 hg4 (fun v518 m516 hv518 hFv518 hJ517 => ?_)
      show X (EE s) d 100 113 [(0, zr 4 41), (1, zi a1), (2, zi y507)] [zi v518] m516 _
      refine X.pop 114 i100_113 rfl rfl rfl ?_
      refine X.iconst 115 i100_114 rfl rfl (by decide) ?_
      refine X.reti i100_115 rfl t100 ?_
      exact hQ (-1) m516 (by first | trivial | omega) (Eq.trans hR511 (Eq.trans (if_neg h514) (Eq.trans (if_neg h515) (Eq.trans (zb_eq hFv518) rfl)))) (hJ517.up (by omega)) 
  · refine X.aload_n 88 i100_87 rfl rfl rfl ?_
    refine X.iconst 89 i100_88 rfl rfl (by decide) ?_
    refine X.aload_n 90 i100_89 rfl rfl rfl ?_
    refine X.getI 93 8 i100_90 rfl rfl (by decide) rfl rfl rfl ?_
    refine X.callv 96 [zi 1, zi (m508 4 41 8)] [] [(0, zr 4 41), (1, zi 1), (2, zi (m508 4 41 8))] i100_93 rfl (by decide) rfl rfl (by omega) rfl rfl (by decide) rfl t102 (Nat.le_of_ble_eq_true rfl) (Nat.le_of_ble_eq_true rfl) rfl ?_
    refine c102_1 (B := B509)  1 (m508 4 41 8) (by omega) (hJ510.up (by omega)) (by omega) (by omega) (by omega) hf16 hg4 (fun v521 m519 hv521 hFv521 hJ520 => ?_)
    show X (EE s) d 100 96 [(0, zr 4 41), (1, zi a1), (2, zi y507)] [zi v521] m519 _
    refine X.pop 97 i100_96 rfl rfl rfl ?_
    refine X.iconst 98 i100_97 rfl rfl (by decide) ?_
    refine X.reti i100_98 rfl t100 ?_
    exact hQ (-1) m519 (by first | trivial | omega) (Eq.trans hR511 (Eq.trans (if_pos h514) (Eq.trans (zb_eq hFv521) rfl))) (hJ520.up (by omega)) 
-- WorkMeter$CalendarText.readNewNumber
noncomputable def f99_1 (a1 a2 : Int) (m : zM) : Int × zM :=
  zb (f100_1 a1 m) fun v503 m501 =>
  if v503 = (-1) then
  ((v503, m501))
  else
  (zn (zshr a2 v503) fun z505 =>
  zn (zand z505 1) fun z506 =>
  if z506 = 1 then
  (zb (f102_1 3 (m501 4 41 8) m501) fun v511 m509 =>
  ((-1), m509))
  else
  ((v503, m501)))
-- WorkMeter$CalendarText.readNewNumber
theorem c99_1 {s : Nat × (Nat → Int32)} {S : zS} {m0 m : zM} {B : Int} {d : Nat} {Q : Option zV → zM → Prop} (a1 a2 : Int) (hd : 15 ≤ d) (hJ : J S m0 B m) (hB : B + 0 ≤ 1000000000) (ha1 : 3 ≤ a1 ∧ a1 ≤ 3) (ha2 : (-2147483648) ≤ a2 ∧ a2 ≤ 2147483647) (hf16 : ¬ S.1 16) (hf19 : ¬ S.1 19) (hg4 : ¬ S.2.1 4) (hQ : ∀ (v : Int) m', ((-1) ≤ v ∧ v ≤ 3) → f99_1 a1 a2 m = (v, m') → J S m0 (B) m' → Q (some (zi v)) m') : X (EE s) d 99 0 [(0, zr 4 41), (1, zi a1), (2, zi a2)] [] m Q := by
  refine X.aload_n 1 i99_0 rfl rfl rfl ?_
  refine X.iload_n 2 i99_1 rfl rfl rfl ?_
  refine X.callv 5 [zi a1] [] [(0, zr 4 41), (1, zi a1)] i99_2 rfl (by decide) rfl rfl (by omega) rfl rfl (by decide) rfl t100 (Nat.le_of_ble_eq_true rfl) (Nat.le_of_ble_eq_true rfl) rfl ?_
  refine c100_4 (B := B)  a1 (by omega) (hJ.up (by omega)) (by omega) (by omega) hf16 hf19 hg4 (fun v503 m501 hv503 hFv503 hJ502 => ?_)
  show X (EE s) d 99 5 [(0, zr 4 41), (1, zi a1), (2, zi a2)] [zi v503] m501 _
  refine X.istore_n 6 [(0, zr 4 41), (1, zi a1), (2, zi a2), (3, zi v503)] i99_5 rfl rfl rfl ?_
  refine X.iload_n 7 i99_6 rfl rfl rfl ?_
  refine X.iconst 8 i99_7 rfl rfl (by decide) ?_
  refine X.icmpeq 32 11 i99_8 rfl rfl rfl (fun h504 => ?_) (fun h504 => ?_)
  · refine X.cut [(3, zi v503)] i99_32 rfl ?_
    refine X.iload_n 33 i99_32 rfl rfl rfl ?_
    refine X.reti i99_33 rfl t99 ?_
    exact hQ v503 m501 (by first | trivial | omega) (Eq.trans (zb_eq hFv503) (Eq.trans (if_pos h504) rfl)) (hJ502.up (by omega)) 
  · refine X.iload_n 12 i99_11 rfl rfl rfl ?_
    refine X.iload_n 13 i99_12 rfl rfl rfl ?_
    refine X.iiE 14 .ishr (fun x y => x >>> (y &&& 31)) i99_13 rfl rfl rfl (fun _ _ => rfl) (fun z505 ez505 hz505 => ?_)
    refine X.iconst 15 i99_14 rfl rfl (by decide) ?_
    refine X.andE 16 1 i99_15 rfl rfl (by decide) (.inl rfl) (fun z506 ez506 hz506 => ?_)
    refine X.iconst 17 i99_16 rfl rfl (by decide) ?_
    refine X.icmpne 32 20 i99_17 rfl rfl rfl (fun h507 => ?_) (fun h507 => ?_)
    · refine X.cut [(3, zi v503)] i99_32 rfl ?_
      refine X.iload_n 33 i99_32 rfl rfl rfl ?_
      refine X.reti i99_33 rfl t99 ?_
      exact hQ v503 m501 (by first | trivial | omega) (Eq.trans (zb_eq hFv503) (Eq.trans (if_neg h504) (Eq.trans (zn_eq ez505) (Eq.trans (zn_eq ez506) (Eq.trans (if_neg h507) rfl))))) (hJ502.up (by omega)) 
    · refine X.aload_n 21 i99_20 rfl rfl rfl ?_
      refine X.iconst 22 i99_21 rfl rfl (by decide) ?_
      refine X.aload_n 23 i99_22 rfl rfl rfl ?_
      refine X.getIr 26 8 i99_23 rfl rfl (by decide) rfl rfl rfl (fun h508 => ?_)
      refine X.callv 29 [zi 3, zi (m501 4 41 8)] [] [(0, zr 4 41), (1, zi 3), (2, zi (m501 4 41 8))] i99_26 rfl (by decide) rfl rfl (by omega) rfl rfl (by decide) rfl t102 (Nat.le_of_ble_eq_true rfl) (Nat.le_of_ble_eq_true rfl) rfl ?_
      refine c102_4 (B := B)  3 (m501 4 41 8) (by omega) (hJ502.up (by omega)) (by omega) (by omega) (by omega) hf16 hg4 (fun v511 m509 hv511 hFv511 hJ510 => ?_)
      show X (EE s) d 99 29 [(0, zr 4 41), (1, zi a1), (2, zi a2), (3, zi v503)] [zi v511] m509 _
      refine X.pop 30 i99_29 rfl rfl rfl ?_
      refine X.iconst 31 i99_30 rfl rfl (by decide) ?_
      refine X.reti i99_31 rfl t99 ?_
      exact hQ (-1) m509 (by first | trivial | omega) (Eq.trans (zb_eq hFv503) (Eq.trans (if_neg h504) (Eq.trans (zn_eq ez505) (Eq.trans (zn_eq ez506) (Eq.trans (if_pos h507) (Eq.trans (zb_eq hFv511) rfl)))))) (hJ510.up (by omega)) 
noncomputable def fl106_62_1_b (self : Int → zM → Int × zM) (k82 : Int → Int → zM → Int × zM) (k106 : zM → Int × zM) (y1 : Int) (y3 : Int) (m : zM) : Int × zM :=
  if 7 ≤ y3 then
  (k106 m)
  else
  (zb (f100_1 7 m) fun v511 m509 =>
  if v511 = (-1) then
  (k82 y3 v511 m509)
  else
  (zs (z_upd m509 3 16 ((y1 * 7) + y3) v511) fun m513 =>
  self (y3 + 1) m513))
noncomputable def fl106_62_1 (k82 : Int → Int → zM → Int × zM) (k106 : zM → Int × zM) (y1 : Int) : Nat → Int → zM → Int × zM
  | 0 => fun y3 m => (0, m)
  | n + 1 => fl106_62_1_b (fl106_62_1 k82 k106 y1 n) k82 k106 y1
theorem l106_62_1 {s : Nat × (Nat → Int32)} {S : zS} {m0 : zM} {d : Nat} {Q : Option zV → zM → Prop} {R0 : Int × zM} {k82 : Int → Int → zM → Int × zM} {k106 : zM → Int × zM} (y1 : Int) (BE : Int) (hE : BE ≤ 1000000000) (hd : 15 ≤ d) (hy1 : 0 ≤ y1 ∧ y1 ≤ 3) (hf1 : ¬ S.1 1) (hf16 : ¬ S.1 16) (hf19 : ¬ S.1 19) (hg3 : ¬ S.2.1 3) (hg4 : ¬ S.2.1 4)
    (K82 : ∀ (x3 x4 : Int) (m' : zM) (B' : Int), J S m0 B' m' → B' ≤ BE → (0 ≤ x3 ∧ x3 ≤ 6) → ((-1) ≤ x4 ∧ x4 ≤ (-1)) → R0 = k82 x3 x4 m' → X (EE s) d 106 82 [(0, zr 4 41), (1, zi y1), (3, zi x3), (4, zi x4)] [] m' Q)
    (K106 : ∀ (m' : zM) (B' : Int), J S m0 B' m' → B' ≤ BE → R0 = k106 m' → X (EE s) d 106 106 [] [] m' Q) :
    ∀ (n : Nat) (y3 : Int) (m : zM) (B : Int), J S m0 B m → B + 0 * (n : Int) ≤ BE → (0 ≤ y3 ∧ y3 ≤ 7) → 7 - y3 < (n : Int) → R0 = fl106_62_1 k82 k106 y1 n y3 m → X (EE s) d 106 62 [(0, zr 4 41), (1, zi y1), (3, zi y3)] [] m Q := by
  intro n
  induction n with
  | zero =>
    intro y3 m B hJ hB hy3 hn hR
    exfalso
    omega
  | succ n ih =>
    intro y3 m B hJ hB hy3 hn hR
    replace hR : R0 = fl106_62_1_b (fl106_62_1 k82 k106 y1 n) k82 k106 y1 y3 m := hR
    refine X.iload_n 63 i106_62 rfl rfl rfl ?_
    refine X.bipush 65 i106_63 rfl rfl (by decide) ?_
    refine X.icmpge 106 68 i106_65 rfl rfl rfl (fun h508 => ?_) (fun h508 => ?_)
    · refine X.cut [] i106_106 rfl ?_
      exact K106  m (B) (hJ.up (by omega)) (by omega)  (Eq.trans hR (Eq.trans (if_pos h508) rfl))
    · refine X.aload_n 69 i106_68 rfl rfl rfl ?_
      refine X.bipush 71 i106_69 rfl rfl (by decide) ?_
      refine X.callv 74 [zi 7] [] [(0, zr 4 41), (1, zi 7)] i106_71 rfl (by decide) rfl rfl (by omega) rfl rfl (by decide) rfl t100 (Nat.le_of_ble_eq_true rfl) (Nat.le_of_ble_eq_true rfl) rfl ?_
      refine c100_3 (B := B)  7 (by omega) (hJ.up (by omega)) (by omega) (by omega) hf16 hf19 hg4 (fun v511 m509 hv511 hFv511 hJ510 => ?_)
      show X (EE s) d 106 74 [(0, zr 4 41), (1, zi y1), (3, zi y3)] [zi v511] m509 _
      refine X.istore 76 [(0, zr 4 41), (1, zi y1), (3, zi y3), (4, zi v511)] i106_74 rfl rfl rfl ?_
      refine X.iload 78 i106_76 rfl rfl rfl ?_
      refine X.iconst 79 i106_78 rfl rfl (by decide) ?_
      refine X.icmpne 84 82 i106_79 rfl rfl rfl (fun h512 => ?_) (fun h512 => ?_)
      · refine X.aload_n 85 i106_84 rfl rfl rfl ?_
        refine X.getF 88 i106_85 rfl rfl (by decide) rfl rfl ?_
        refine X.getR 91 i106_88 rfl rfl (by decide) rfl rfl ?_
        refine X.iload_n 92 i106_91 rfl rfl rfl ?_
        refine X.bipush 94 i106_92 rfl rfl (by decide) ?_
        refine X.imul 95 i106_94 rfl rfl (by omega) ?_
        refine X.iload_n 96 i106_95 rfl rfl rfl ?_
        refine X.iadd 97 i106_96 rfl rfl (by omega) ?_
        refine X.iload 99 i106_97 rfl rfl rfl ?_
        refine X.iast' 100 i106_99 rfl rfl (by decide) rfl (by omega) (fun hrm513 m513 hm513 => ?_)
        have hJ514 := w16_0 hJ510 hm513 (by omega) (by omega) hf1 hg3
        refine X.iinc 103 [(0, zr 4 41), (1, zi y1), (3, zi (y3 + 1)), (4, zi v511)] i106_100 rfl rfl rfl (by omega) rfl ?_
        refine X.goto 62 i106_103 rfl rfl ?_
        refine X.cut [(0, zr 4 41), (1, zi y1), (3, zi (y3 + 1))] i106_62 rfl ?_
        exact ih (y3 + 1) m513 (B) (hJ514.up (by omega)) (by omega) (by omega) (by omega) (Eq.trans hR (Eq.trans (if_neg h508) (Eq.trans (zb_eq hFv511) (Eq.trans (if_neg h512) (Eq.trans (zs_eq hm513) rfl)))))
      · exact K82 y3 v511 m509 (B) (hJ510.up (by omega)) (by omega) (by first | trivial | omega) (by first | trivial | omega) (Eq.trans hR (Eq.trans (if_neg h508) (Eq.trans (zb_eq hFv511) (Eq.trans (if_pos h512) rfl))))
-- WorkMeter$CalendarText.readSeason
noncomputable def f106_1 (m : zM) : Int × zM :=
  zs (z_upd m 4 41 7 ((m 4 41 7) + 6)) fun m502 =>
  zb (f99_1 3 (m502 4 41 10) m502) fun v507 m505 =>
  if v507 = (-1) then
  ((0, m505))
  else
  (zn (zshl 1 v507) fun z510 =>
  zn (zor (m505 4 41 10) z510) fun z511 =>
  zs (z_upd m505 4 41 10 z511) fun m512 =>
  zb (f100_1 364 m512) fun v516 m514 =>
  if v516 = (-1) then
  ((0, m514))
  else
  (zs (z_upd m514 3 15 v507 v516) fun m518 =>
  fl106_62_1 (fun y520 y521 m522 =>
  (0, m522)) (fun m526 =>
  (1, m526)) v507 (zfu 8) 0 m518))
-- WorkMeter$CalendarText.readSeason
theorem c106_1 {s : Nat × (Nat → Int32)} {S : zS} {m0 m : zM} {B : Int} {d : Nat} {Q : Option zV → zM → Prop} (hd : 16 ≤ d) (hJ : J S m0 B m) (hB : B + 0 ≤ 1000000000) (hp0 : m 4 41 7 + 6 ≤ 300) (hf1 : ¬ S.1 1) (hf16 : ¬ S.1 16) (hf19 : ¬ S.1 19) (hg3 : ¬ S.2.1 3) (hg4 : ¬ S.2.1 4) (hQ : ∀ (v : Int) m', (0 ≤ v ∧ v ≤ 1) → f106_1 m = (v, m') → J S m0 (B) m' → Q (some (zi v)) m') : X (EE s) d 106 0 [(0, zr 4 41)] [] m Q := by
  refine X.aload_n 1 i106_0 rfl rfl rfl ?_
  refine X.ldcS 3 i106_1 rfl rfl (by decide) ?_
  refine X.callv 6 [zr 99 5] [] [(0, zr 4 41), (1, zr 99 5)] i106_3 rfl (by decide) rfl rfl (by omega) rfl rfl (by decide) rfl t98 (Nat.le_of_ble_eq_true rfl) (Nat.le_of_ble_eq_true rfl) rfl ?_
  refine X.aload_n 1 i98_0 rfl rfl rfl ?_
  refine X.dup 2 i98_1 rfl rfl rfl ?_
  refine X.getI 5 7 i98_2 rfl rfl (by decide) rfl rfl rfl ?_
  have h501 := r41_7 hJ 4
  refine X.aload_n 6 i98_5 rfl rfl rfl ?_
  refine X.slen 9 i98_6 rfl rfl (by omega) (Nat.le_of_ble_eq_true rfl) (by decide) (show (6 : Nat) < 2147483648 by decide) ?_
  show X (EE s) (d - 1) 98 9 [(0, zr 4 41), (1, zr 99 5)] [zi 6, zi (m 4 41 7), zr 4 41] m _
  refine X.iadd 10 i98_9 rfl rfl (by omega) ?_
  refine X.putI' 13 7 i98_10 rfl rfl (by decide) rfl rfl rfl (fun hrm502 m502 hm502 => ?_)
  have hJ503 := w41_7 hJ hm502 (by omega) hf19 hg4
  have em502 : m502 4 41 7 = ((m 4 41 7) + 6) := by rw [hm502]; exact z_upd_same _ _ _ _ _
  refine X.retv i98_13 rfl t98 ?_
  show X (EE s) d 106 6 [(0, zr 4 41)] [] m502 _
  refine X.aload_n 7 i106_6 rfl rfl rfl ?_
  refine X.iconst 8 i106_7 rfl rfl (by decide) ?_
  refine X.aload_n 9 i106_8 rfl rfl rfl ?_
  refine X.getIr 12 10 i106_9 rfl rfl (by decide) rfl rfl rfl (fun h504 => ?_)
  refine X.callv 15 [zi 3, zi (m502 4 41 10)] [] [(0, zr 4 41), (1, zi 3), (2, zi (m502 4 41 10))] i106_12 rfl (by decide) rfl rfl (by omega) rfl rfl (by decide) rfl t99 (Nat.le_of_ble_eq_true rfl) (Nat.le_of_ble_eq_true rfl) rfl ?_
  refine c99_1 (B := B)  3 (m502 4 41 10) (by omega) (hJ503.up (by omega)) (by omega) (by omega) (by omega) hf16 hf19 hg4 (fun v507 m505 hv507 hFv507 hJ506 => ?_)
  show X (EE s) d 106 15 [(0, zr 4 41)] [zi v507] m505 _
  refine X.istore_n 16 [(0, zr 4 41), (1, zi v507)] i106_15 rfl rfl rfl ?_
  refine X.iload_n 17 i106_16 rfl rfl rfl ?_
  refine X.iconst 18 i106_17 rfl rfl (by decide) ?_
  refine X.icmpne 23 21 i106_18 rfl rfl rfl (fun h508 => ?_) (fun h508 => ?_)
  · refine X.aload_n 24 i106_23 rfl rfl rfl ?_
    refine X.dup 25 i106_24 rfl rfl rfl ?_
    refine X.getIr 28 10 i106_25 rfl rfl (by decide) rfl rfl rfl (fun h509 => ?_)
    refine X.iconst 29 i106_28 rfl rfl (by decide) ?_
    refine X.iload_n 30 i106_29 rfl rfl rfl ?_
    refine X.iiE 31 .ishl (fun x y => x <<< (y &&& 31)) i106_30 rfl rfl rfl (fun _ _ => rfl) (fun z510 ez510 hz510 => ?_)
    refine X.iiE 32 .ior (fun x y => x ||| y) i106_31 rfl rfl rfl (fun _ _ => rfl) (fun z511 ez511 hz511 => ?_)
    refine X.putI' 35 10 i106_32 rfl rfl (by decide) rfl rfl rfl (fun hrm512 m512 hm512 => ?_)
    have hJ513 := w41_8 hJ506 hm512 (by omega) hrm512 hf19 hg4
    refine X.aload_n 36 i106_35 rfl rfl rfl ?_
    refine X.sipush 39 i106_36 rfl rfl (by decide) ?_
    refine X.callv 42 [zi 364] [] [(0, zr 4 41), (1, zi 364)] i106_39 rfl (by decide) rfl rfl (by omega) rfl rfl (by decide) rfl t100 (Nat.le_of_ble_eq_true rfl) (Nat.le_of_ble_eq_true rfl) rfl ?_
    refine c100_2 (B := B)  364 (by omega) (hJ513.up (by omega)) (by omega) (by omega) hf16 hf19 hg4 (fun v516 m514 hv516 hFv516 hJ515 => ?_)
    show X (EE s) d 106 42 [(0, zr 4 41), (1, zi v507)] [zi v516] m514 _
    refine X.istore_n 43 [(0, zr 4 41), (1, zi v507), (2, zi v516)] i106_42 rfl rfl rfl ?_
    refine X.iload_n 44 i106_43 rfl rfl rfl ?_
    refine X.iconst 45 i106_44 rfl rfl (by decide) ?_
    refine X.icmpne 50 48 i106_45 rfl rfl rfl (fun h517 => ?_) (fun h517 => ?_)
    · refine X.aload_n 51 i106_50 rfl rfl rfl ?_
      refine X.getF 54 i106_51 rfl rfl (by decide) rfl rfl ?_
      refine X.getR 57 i106_54 rfl rfl (by decide) rfl rfl ?_
      refine X.iload_n 58 i106_57 rfl rfl rfl ?_
      refine X.iload_n 59 i106_58 rfl rfl rfl ?_
      refine X.iast' 60 i106_59 rfl rfl (by decide) rfl (by omega) (fun hrm518 m518 hm518 => ?_)
      have hJ519 := w15_0 hJ515 hm518 (by omega) (by omega) hf1 hg3
      refine X.iconst 61 i106_60 rfl rfl (by decide) ?_
      refine X.istore_n 62 [(0, zr 4 41), (1, zi v507), (2, zi v516), (3, zi 0)] i106_61 rfl rfl rfl ?_
      refine X.cut [(0, zr 4 41), (1, zi v507), (3, zi 0)] i106_62 rfl ?_
      have hz8 := zfu_eq 8
      refine l106_62_1 (s := s) (d := d) (R0 := (f106_1 m))  v507  (BE := B + 0) (by omega) (by omega) (by omega) hf1 hf16 hf19 hg3 hg4 (fun y520 y521 m522 B523 hJ524 hBB523 hby520 hby521 hR525 => ?_) (fun  m526 B527 hJ528 hBB527 hR529 => ?_) (zfu 8) 0 m518 (B) (hJ519.up (by omega)) (by omega) (by omega) (by omega) (Eq.trans (zs_eq hm502) (Eq.trans (zb_eq hFv507) (Eq.trans (if_neg h508) (Eq.trans (zn_eq ez510) (Eq.trans (zn_eq ez511) (Eq.trans (zs_eq hm512) (Eq.trans (zb_eq hFv516) (Eq.trans (if_neg h517) (Eq.trans (zs_eq hm518) rfl)))))))))
      · refine X.iconst 83 i106_82 rfl rfl (by decide) ?_
        refine X.retz i106_83 rfl t106 (by omega) ?_
        exact hQ 0 m522 (by first | trivial | omega) (Eq.trans hR525 rfl) (hJ524.up (by omega)) 
      · refine X.iconst 107 i106_106 rfl rfl (by decide) ?_
        refine X.retz i106_107 rfl t106 (by omega) ?_
        exact hQ 1 m526 (by first | trivial | omega) (Eq.trans hR529 rfl) (hJ528.up (by omega)) 
    · refine X.iconst 49 i106_48 rfl rfl (by decide) ?_
      refine X.retz i106_49 rfl t106 (by omega) ?_
      exact hQ 0 m514 (by first | trivial | omega) (Eq.trans (zs_eq hm502) (Eq.trans (zb_eq hFv507) (Eq.trans (if_neg h508) (Eq.trans (zn_eq ez510) (Eq.trans (zn_eq ez511) (Eq.trans (zs_eq hm512) (Eq.trans (zb_eq hFv516) (Eq.trans (if_pos h517) rfl)))))))) (hJ515.up (by omega)) 
  · refine X.iconst 22 i106_21 rfl rfl (by decide) ?_
    refine X.retz i106_22 rfl t106 (by omega) ?_
    exact hQ 0 m505 (by first | trivial | omega) (Eq.trans (zs_eq hm502) (Eq.trans (zb_eq hFv507) (Eq.trans (if_pos h508) rfl))) (hJ506.up (by omega)) 
-- WorkMeter$CalendarText.readNewNumber
theorem c99_2 {s : Nat × (Nat → Int32)} {S : zS} {m0 m : zM} {B : Int} {d : Nat} {Q : Option zV → zM → Prop} (a1 a2 : Int) (hd : 15 ≤ d) (hJ : J S m0 B m) (hB : B + 0 ≤ 1000000000) (ha1 : 7 ≤ a1 ∧ a1 ≤ 7) (ha2 : (-2147483648) ≤ a2 ∧ a2 ≤ 2147483647) (hf16 : ¬ S.1 16) (hf19 : ¬ S.1 19) (hg4 : ¬ S.2.1 4) (hQ : ∀ (v : Int) m', ((-1) ≤ v ∧ v ≤ 7) → f99_1 a1 a2 m = (v, m') → J S m0 (B) m' → Q (some (zi v)) m') : X (EE s) d 99 0 [(0, zr 4 41), (1, zi a1), (2, zi a2)] [] m Q := by
  refine X.aload_n 1 i99_0 rfl rfl rfl ?_
  refine X.iload_n 2 i99_1 rfl rfl rfl ?_
  refine X.callv 5 [zi a1] [] [(0, zr 4 41), (1, zi a1)] i99_2 rfl (by decide) rfl rfl (by omega) rfl rfl (by decide) rfl t100 (Nat.le_of_ble_eq_true rfl) (Nat.le_of_ble_eq_true rfl) rfl ?_
  refine c100_3 (B := B)  a1 (by omega) (hJ.up (by omega)) (by omega) (by omega) hf16 hf19 hg4 (fun v503 m501 hv503 hFv503 hJ502 => ?_)
  show X (EE s) d 99 5 [(0, zr 4 41), (1, zi a1), (2, zi a2)] [zi v503] m501 _
  refine X.istore_n 6 [(0, zr 4 41), (1, zi a1), (2, zi a2), (3, zi v503)] i99_5 rfl rfl rfl ?_
  refine X.iload_n 7 i99_6 rfl rfl rfl ?_
  refine X.iconst 8 i99_7 rfl rfl (by decide) ?_
  refine X.icmpeq 32 11 i99_8 rfl rfl rfl (fun h504 => ?_) (fun h504 => ?_)
  · refine X.cut [(3, zi v503)] i99_32 rfl ?_
    refine X.iload_n 33 i99_32 rfl rfl rfl ?_
    refine X.reti i99_33 rfl t99 ?_
    exact hQ v503 m501 (by first | trivial | omega) (Eq.trans (zb_eq hFv503) (Eq.trans (if_pos h504) rfl)) (hJ502.up (by omega)) 
  · refine X.iload_n 12 i99_11 rfl rfl rfl ?_
    refine X.iload_n 13 i99_12 rfl rfl rfl ?_
    refine X.iiE 14 .ishr (fun x y => x >>> (y &&& 31)) i99_13 rfl rfl rfl (fun _ _ => rfl) (fun z505 ez505 hz505 => ?_)
    refine X.iconst 15 i99_14 rfl rfl (by decide) ?_
    refine X.andE 16 1 i99_15 rfl rfl (by decide) (.inl rfl) (fun z506 ez506 hz506 => ?_)
    refine X.iconst 17 i99_16 rfl rfl (by decide) ?_
    refine X.icmpne 32 20 i99_17 rfl rfl rfl (fun h507 => ?_) (fun h507 => ?_)
    · refine X.cut [(3, zi v503)] i99_32 rfl ?_
      refine X.iload_n 33 i99_32 rfl rfl rfl ?_
      refine X.reti i99_33 rfl t99 ?_
      exact hQ v503 m501 (by first | trivial | omega) (Eq.trans (zb_eq hFv503) (Eq.trans (if_neg h504) (Eq.trans (zn_eq ez505) (Eq.trans (zn_eq ez506) (Eq.trans (if_neg h507) rfl))))) (hJ502.up (by omega)) 
    · refine X.aload_n 21 i99_20 rfl rfl rfl ?_
      refine X.iconst 22 i99_21 rfl rfl (by decide) ?_
      refine X.aload_n 23 i99_22 rfl rfl rfl ?_
      refine X.getIr 26 8 i99_23 rfl rfl (by decide) rfl rfl rfl (fun h508 => ?_)
      refine X.callv 29 [zi 3, zi (m501 4 41 8)] [] [(0, zr 4 41), (1, zi 3), (2, zi (m501 4 41 8))] i99_26 rfl (by decide) rfl rfl (by omega) rfl rfl (by decide) rfl t102 (Nat.le_of_ble_eq_true rfl) (Nat.le_of_ble_eq_true rfl) rfl ?_
      refine c102_4 (B := B)  3 (m501 4 41 8) (by omega) (hJ502.up (by omega)) (by omega) (by omega) (by omega) hf16 hg4 (fun v511 m509 hv511 hFv511 hJ510 => ?_)
      show X (EE s) d 99 29 [(0, zr 4 41), (1, zi a1), (2, zi a2), (3, zi v503)] [zi v511] m509 _
      refine X.pop 30 i99_29 rfl rfl rfl ?_
      refine X.iconst 31 i99_30 rfl rfl (by decide) ?_
      refine X.reti i99_31 rfl t99 ?_
      exact hQ (-1) m509 (by first | trivial | omega) (Eq.trans (zb_eq hFv503) (Eq.trans (if_neg h504) (Eq.trans (zn_eq ez505) (Eq.trans (zn_eq ez506) (Eq.trans (if_pos h507) (Eq.trans (zb_eq hFv511) rfl)))))) (hJ510.up (by omega)) 
-- WorkMeter$CalendarText.digitHere
noncomputable def f103_1 (m : zM) : Int × zM :=
  zs (f93_1 m) fun m501 =>
  zn (if (m501 4 41 3) ≤ (m501 4 41 7) then
  (0)
  else
  (if (m501 4 42 (m501 4 41 7)) < 48 then
  (0)
  else
  (if 57 < (m501 4 42 (m501 4 41 7)) then
  (0)
  else
  (1)))) fun v513 =>
  (v513, m501)
-- WorkMeter$CalendarText.digitHere
theorem c103_1 {s : Nat × (Nat → Int32)} {S : zS} {m0 m : zM} {B : Int} {d : Nat} {Q : Option zV → zM → Prop} (hd : 14 ≤ d) (hJ : J S m0 B m) (hB : B + 0 ≤ 1000000000) (hf19 : ¬ S.1 19) (hg4 : ¬ S.2.1 4) (hQ : ∀ (v : Int) m', (0 ≤ v ∧ v ≤ 1) → f103_1 m = (v, m') → J S m0 (B) m' → Q (some (zi v)) m') : X (EE s) d 103 0 [(0, zr 4 41)] [] m Q := by
  refine X.aload_n 1 i103_0 rfl rfl rfl ?_
  refine X.callv 4 [] [] [(0, zr 4 41)] i103_1 rfl (by decide) rfl rfl (by omega) rfl rfl (by decide) rfl t93 (Nat.le_of_ble_eq_true rfl) (Nat.le_of_ble_eq_true rfl) rfl ?_
  refine c93_1 (B := B)   (by omega) (hJ.up (by omega)) (by omega)  hf19 hg4 (fun m501 hFv503 hJ502 => ?_)
  show X (EE s) d 103 4 [(0, zr 4 41)] [] m501 _
  refine X.aload_n 5 i103_4 rfl rfl rfl ?_
  refine X.getI 8 7 i103_5 rfl rfl (by decide) rfl rfl rfl ?_
  have h504 := r41_7 hJ502 4
  refine X.aload_n 9 i103_8 rfl rfl rfl ?_
  refine X.getI 12 3 i103_9 rfl rfl (by decide) rfl rfl rfl ?_
  have h505 := r41_3 hJ502 4
  have hK516 : ∀ (v : Int) , (0 ≤ v ∧ v ≤ 1) → (if (m501 4 41 3) ≤ (m501 4 41 7) then
      (0)
      else
      (if (m501 4 42 (m501 4 41 7)) < 48 then
      (0)
      else
      (if 57 < (m501 4 42 (m501 4 41 7)) then
      (0)
      else
      (1)))) = v → X (EE s) d 103 35 [] [zi v] m501 Q := by
    intro v513 hv513 hT517
    refine X.retz i103_35 rfl t103 (by omega) ?_
    exact hQ v513 m501 (by first | trivial | omega) (Eq.trans (zs_eq hFv503.symm) (Eq.trans (zn_eq hT517.symm) rfl)) (hJ502.up (by omega)) 
  refine X.icmpge 34 15 i103_12 rfl rfl rfl (fun h506 => ?_) (fun h506 => ?_)
  · refine X.cut [] i103_34 rfl ?_
    refine X.iconst 35 i103_34 rfl rfl (by decide) ?_
    exact hK516 0 (by first | trivial | omega) (Eq.trans (if_pos h506) rfl)
  · refine X.aload_n 16 i103_15 rfl rfl rfl ?_
    refine X.getF 19 i103_16 rfl rfl (by decide) rfl rfl ?_
    refine X.aload_n 20 i103_19 rfl rfl rfl ?_
    refine X.getI 23 7 i103_20 rfl rfl (by decide) rfl rfl rfl ?_
    refine X.iald 24 i103_23 rfl rfl (by decide) rfl (by omega) ?_
    have h507 := r42_0 hJ502 4 (i := (m501 4 41 7)) (by omega)
    refine X.calls 27 [zi (m501 4 42 (m501 4 41 7))] [] [(0, zi (m501 4 42 (m501 4 41 7)))] i103_24 (by decide) rfl rfl (by omega) rfl rfl t101 (Nat.le_of_ble_eq_true rfl) (Nat.le_of_ble_eq_true rfl) rfl ?_
    refine X.iload_n 1 i101_0 rfl rfl rfl ?_
    refine X.bipush 3 i101_1 rfl rfl (by decide) ?_
    refine X.icmplt 16 6 i101_3 rfl rfl rfl (fun h508 => ?_) (fun h508 => ?_)
    · refine X.cut [] i101_16 rfl ?_
      refine X.iconst 17 i101_16 rfl rfl (by decide) ?_
      refine X.retz i101_17 rfl t101 (by omega) ?_
      show X (EE s) d 103 27 [(0, zr 4 41)] [zi 0] m501 _
      refine X.ifeq 34 30 i103_27 rfl rfl rfl (fun h509 => ?_) (fun h509 => (by exfalso; omega))
      refine X.cut [] i103_34 rfl ?_
      refine X.iconst 35 i103_34 rfl rfl (by decide) ?_
      exact hK516 0 (by first | trivial | omega) (Eq.trans (if_neg h506) (Eq.trans (if_pos h508) rfl))
    · refine X.iload_n 7 i101_6 rfl rfl rfl ?_
      refine X.bipush 9 i101_7 rfl rfl (by decide) ?_
      refine X.icmpgt 16 12 i101_9 rfl rfl rfl (fun h510 => ?_) (fun h510 => ?_)
      · refine X.cut [] i101_16 rfl ?_
        refine X.iconst 17 i101_16 rfl rfl (by decide) ?_
        refine X.retz i101_17 rfl t101 (by omega) ?_
        show X (EE s) d 103 27 [(0, zr 4 41)] [zi 0] m501 _
        refine X.ifeq 34 30 i103_27 rfl rfl rfl (fun h511 => ?_) (fun h511 => (by exfalso; omega))
        refine X.cut [] i103_34 rfl ?_
        refine X.iconst 35 i103_34 rfl rfl (by decide) ?_
        exact hK516 0 (by first | trivial | omega) (Eq.trans (if_neg h506) (Eq.trans (if_neg h508) (Eq.trans (if_pos h510) rfl)))
      · refine X.iconst 13 i101_12 rfl rfl (by decide) ?_
        refine X.goto 17 i101_13 rfl rfl ?_
        refine X.cut [] i101_17 rfl ?_
        refine X.retz i101_17 rfl t101 (by omega) ?_
        show X (EE s) d 103 27 [(0, zr 4 41)] [zi 1] m501 _
        refine X.ifeq 34 30 i103_27 rfl rfl rfl (fun h512 => (by exfalso; omega)) (fun h512 => ?_)
        refine X.iconst 31 i103_30 rfl rfl (by decide) ?_
        refine X.goto 35 i103_31 rfl rfl ?_
        refine X.cut [] i103_35 rfl ?_
        exact hK516 1 (by first | trivial | omega) (Eq.trans (if_neg h506) (Eq.trans (if_neg h508) (Eq.trans (if_neg h510) rfl)))
theorem l100_14_5 {s : Nat × (Nat → Int32)} {S : zS} {m0 : zM} {d : Nat} {Q : Option zV → zM → Prop} {R0 : Int × zM} {k76 : Int → zM → Int × zM} (y1 : Int) (BE : Int) (hE : BE ≤ 1000000000) (hd : 13 ≤ d) (hy1 : 23 ≤ y1 ∧ y1 ≤ 23) (hf19 : ¬ S.1 19) (hg4 : ¬ S.2.1 4)
    (K76 : ∀ (x2 : Int) (m' : zM) (B' : Int), J S m0 B' m' → B' ≤ BE → (0 ≤ x2 ∧ x2 ≤ 1000000) → R0 = k76 x2 m' → X (EE s) d 100 76 [(0, zr 4 41), (1, zi y1), (2, zi x2)] [] m' Q) :
    ∀ (n : Nat) (y2 : Int) (m : zM) (B : Int), J S m0 B m → B + 0 * (n : Int) ≤ BE → (0 ≤ y2 ∧ y2 ≤ 1000000) → 300 - m 4 41 7 < (n : Int) → R0 = fl100_14_1 k76 y1 n y2 m → X (EE s) d 100 14 [(0, zr 4 41), (1, zi y1), (2, zi y2)] [] m Q := by
  intro n
  induction n with
  | zero =>
    intro y2 m B hJ hB hy2 hn hR
    have zf0 := r41_7 hJ 4
    exfalso
    omega
  | succ n ih =>
    intro y2 m B hJ hB hy2 hn hR
    replace hR : R0 = fl100_14_1_b (fl100_14_1 k76 y1 n) k76 y1 y2 m := hR
    refine X.aload_n 15 i100_14 rfl rfl rfl ?_
    refine X.getI 18 7 i100_15 rfl rfl (by decide) rfl rfl rfl ?_
    have h512 := r41_7 hJ 4
    refine X.aload_n 19 i100_18 rfl rfl rfl ?_
    refine X.getI 22 3 i100_19 rfl rfl (by decide) rfl rfl rfl ?_
    have h513 := r41_3 hJ 4
    refine X.icmpge 76 25 i100_22 rfl rfl rfl (fun h514 => ?_) (fun h514 => ?_)
    · exact K76 y2 m (B) (hJ.up (by omega)) (by omega) (by first | trivial | omega) (Eq.trans hR (Eq.trans (if_pos h514) rfl))
    · refine X.aload_n 26 i100_25 rfl rfl rfl ?_
      refine X.getF 29 i100_26 rfl rfl (by decide) rfl rfl ?_
      refine X.aload_n 30 i100_29 rfl rfl rfl ?_
      refine X.getI 33 7 i100_30 rfl rfl (by decide) rfl rfl rfl ?_
      refine X.iald 34 i100_33 rfl rfl (by decide) rfl (by omega) ?_
      have h515 := r42_0 hJ 4 (i := (m 4 41 7)) (by omega)
      refine X.calls 37 [zi (m 4 42 (m 4 41 7))] [] [(0, zi (m 4 42 (m 4 41 7)))] i100_34 (by decide) rfl rfl (by omega) rfl rfl t101 (Nat.le_of_ble_eq_true rfl) (Nat.le_of_ble_eq_true rfl) rfl ?_
      refine X.iload_n 1 i101_0 rfl rfl rfl ?_
      refine X.bipush 3 i101_1 rfl rfl (by decide) ?_
      refine X.icmplt 16 6 i101_3 rfl rfl rfl (fun h516 => ?_) (fun h516 => ?_)
      · refine X.cut [] i101_16 rfl ?_
        refine X.iconst 17 i101_16 rfl rfl (by decide) ?_
        refine X.retz i101_17 rfl t101 (by omega) ?_
        show X (EE s) d 100 37 [(0, zr 4 41), (1, zi y1), (2, zi y2)] [zi 0] m _
        refine X.ifeq 76 40 i100_37 rfl rfl rfl (fun h517 => ?_) (fun h517 => (by exfalso; omega))
        exact K76 y2 m (B) (hJ.up (by omega)) (by omega) (by first | trivial | omega) (Eq.trans hR (Eq.trans (if_neg h514) (Eq.trans (if_pos h516) rfl)))
      · refine X.iload_n 7 i101_6 rfl rfl rfl ?_
        refine X.bipush 9 i101_7 rfl rfl (by decide) ?_
        refine X.icmpgt 16 12 i101_9 rfl rfl rfl (fun h518 => ?_) (fun h518 => ?_)
        · refine X.cut [] i101_16 rfl ?_
          refine X.iconst 17 i101_16 rfl rfl (by decide) ?_
          refine X.retz i101_17 rfl t101 (by omega) ?_
          show X (EE s) d 100 37 [(0, zr 4 41), (1, zi y1), (2, zi y2)] [zi 0] m _
          refine X.ifeq 76 40 i100_37 rfl rfl rfl (fun h519 => ?_) (fun h519 => (by exfalso; omega))
          exact K76 y2 m (B) (hJ.up (by omega)) (by omega) (by first | trivial | omega) (Eq.trans hR (Eq.trans (if_neg h514) (Eq.trans (if_neg h516) (Eq.trans (if_pos h518) rfl))))
        · refine X.iconst 13 i101_12 rfl rfl (by decide) ?_
          refine X.goto 17 i101_13 rfl rfl ?_
          refine X.cut [] i101_17 rfl ?_
          refine X.retz i101_17 rfl t101 (by omega) ?_
          show X (EE s) d 100 37 [(0, zr 4 41), (1, zi y1), (2, zi y2)] [zi 1] m _
          refine X.ifeq 76 40 i100_37 rfl rfl rfl (fun h520 => (by exfalso; omega)) (fun h520 => ?_)
          refine X.iload_n 41 i100_40 rfl rfl rfl ?_
          refine X.bipush 43 i100_41 rfl rfl (by decide) ?_
          refine X.imul 44 i100_43 rfl rfl (by omega) ?_
          refine X.aload_n 45 i100_44 rfl rfl rfl ?_
          refine X.getF 48 i100_45 rfl rfl (by decide) rfl rfl ?_
          refine X.aload_n 49 i100_48 rfl rfl rfl ?_
          refine X.getI 52 7 i100_49 rfl rfl (by decide) rfl rfl rfl ?_
          refine X.iald 53 i100_52 rfl rfl (by decide) rfl (by omega) ?_
          refine X.iadd 54 i100_53 rfl rfl (by omega) ?_
          refine X.bipush 56 i100_54 rfl rfl (by decide) ?_
          refine X.isub 57 i100_56 rfl rfl (by omega) ?_
          refine X.ldc 59 i100_57 rfl rfl (by decide) ?_
          refine X.minI 62 i100_59 rfl rfl (by omega) (Nat.le_of_ble_eq_true rfl) ?_
          refine X.istore_n 63 [(0, zr 4 41), (1, zi y1), (2, zi (min (((y2 * 10) + (m 4 42 (m 4 41 7))) - 48) 1000000))] i100_62 rfl rfl rfl ?_
          refine X.aload_n 64 i100_63 rfl rfl rfl ?_
          refine X.dup 65 i100_64 rfl rfl rfl ?_
          refine X.getI 68 7 i100_65 rfl rfl (by decide) rfl rfl rfl ?_
          refine X.iconst 69 i100_68 rfl rfl (by decide) ?_
          refine X.iadd 70 i100_69 rfl rfl (by omega) ?_
          refine X.putI' 73 7 i100_70 rfl rfl (by decide) rfl rfl rfl (fun hrm521 m521 hm521 => ?_)
          have hJ522 := w41_7 hJ hm521 (by omega) hf19 hg4
          have em521 : m521 4 41 7 = ((m 4 41 7) + 1) := by rw [hm521]; exact z_upd_same _ _ _ _ _
          refine X.goto 14 i100_73 rfl rfl ?_
          exact ih (min (((y2 * 10) + (m 4 42 (m 4 41 7))) - 48) 1000000) m521 (B) (hJ522.up (by omega)) (by omega) (by omega) (by omega) (Eq.trans hR (Eq.trans (if_neg h514) (Eq.trans (if_neg h516) (Eq.trans (if_neg h518) (Eq.trans (zs_eq hm521) rfl)))))
-- WorkMeter$CalendarText.readNumber
theorem c100_5 {s : Nat × (Nat → Int32)} {S : zS} {m0 m : zM} {B : Int} {d : Nat} {Q : Option zV → zM → Prop} (a1 : Int) (hd : 14 ≤ d) (hJ : J S m0 B m) (hB : B + 0 ≤ 1000000000) (ha1 : 23 ≤ a1 ∧ a1 ≤ 23) (hf16 : ¬ S.1 16) (hf19 : ¬ S.1 19) (hg4 : ¬ S.2.1 4) (hQ : ∀ (v : Int) m', ((-1) ≤ v ∧ v ≤ 23) → f100_1 a1 m = (v, m') → J S m0 (B) m' → Q (some (zi v)) m') : X (EE s) d 100 0 [(0, zr 4 41), (1, zi a1)] [] m Q := by
  refine X.aload_n 1 i100_0 rfl rfl rfl ?_
  refine X.callv 4 [] [] [(0, zr 4 41)] i100_1 rfl (by decide) rfl rfl (by omega) rfl rfl (by decide) rfl t93 (Nat.le_of_ble_eq_true rfl) (Nat.le_of_ble_eq_true rfl) rfl ?_
  refine c93_1 (B := B)   (by omega) (hJ.up (by omega)) (by omega)  hf19 hg4 (fun m501 hFv503 hJ502 => ?_)
  show X (EE s) d 100 4 [(0, zr 4 41), (1, zi a1)] [] m501 _
  refine X.aload_n 5 i100_4 rfl rfl rfl ?_
  refine X.aload_n 6 i100_5 rfl rfl rfl ?_
  refine X.getI 9 7 i100_6 rfl rfl (by decide) rfl rfl rfl ?_
  have h504 := r41_7 hJ502 4
  refine X.putI' 12 8 i100_9 rfl rfl (by decide) rfl rfl rfl (fun hrm505 m505 hm505 => ?_)
  have hJ506 := w41_8 hJ502 hm505 (by omega) hrm505 hf19 hg4
  refine X.iconst 13 i100_12 rfl rfl (by decide) ?_
  refine X.istore_n 14 [(0, zr 4 41), (1, zi a1), (2, zi 0)] i100_13 rfl rfl rfl ?_
  have hz301 := zfu_eq 301
  refine l100_14_5 (s := s) (d := d) (R0 := (f100_1 a1 m))  a1  (BE := B + 0) (by omega) (by omega) (by omega) hf19 hg4 (fun y507 m508 B509 hJ510 hBB509 hby507 hR511 => ?_) (zfu 301) 0 m505 (B) (hJ506.up (by omega)) (by omega) (by omega) (by omega) (Eq.trans (zs_eq hFv503.symm) (Eq.trans (zs_eq hm505) rfl))
  refine X.aload_n 77 i100_76 rfl rfl rfl ?_
  refine X.getI 80 7 i100_77 rfl rfl (by decide) rfl rfl rfl ?_
  have h512 := r41_7 hJ510 4
  refine X.aload_n 81 i100_80 rfl rfl rfl ?_
  refine X.getIr 84 8 i100_81 rfl rfl (by decide) rfl rfl rfl (fun h513 => ?_)
  refine X.icmpne 99 87 i100_84 rfl rfl rfl (fun h514 => ?_) (fun h514 => ?_)
  · refine X.iload_n 100 i100_99 rfl rfl rfl ?_
    refine X.iload_n 101 i100_100 rfl rfl rfl ?_
    refine X.icmple 116 104 i100_101 rfl rfl rfl (fun h515 => ?_) (fun h515 => ?_)
    · refine X.cut [(2, zi y507)] i100_116 rfl ?_
      refine X.iload_n 117 i100_116 rfl rfl rfl ?_
      refine X.reti i100_117 rfl t100 ?_
      exact hQ y507 m508 (by first | trivial | omega) (Eq.trans hR511 (Eq.trans (if_neg h514) (Eq.trans (if_pos h515) rfl))) (hJ510.up (by omega)) 
    · refine X.aload_n 105 i100_104 rfl rfl rfl ?_
      refine X.iconst 106 i100_105 rfl rfl (by decide) ?_
      refine X.aload_n 107 i100_106 rfl rfl rfl ?_
      refine X.getI 110 8 i100_107 rfl rfl (by decide) rfl rfl rfl ?_
      refine X.callv 113 [zi 2, zi (m508 4 41 8)] [] [(0, zr 4 41), (1, zi 2), (2, zi (m508 4 41 8))] i100_110 rfl (by decide) rfl rfl (by omega) rfl rfl (by decide) rfl t102 (Nat.le_of_ble_eq_true rfl) (Nat.le_of_ble_eq_true rfl) rfl ?_
      refine c102_2 (B := B509)  2 (m508 4 41 8) (by omega) (hJ510.up (by omega)) (by omega) (by omega) (by omega) hf16 hg4 (fun v518 m516 hv518 hFv518 hJ517 => ?_)
      show X (EE s) d 100 113 [(0, zr 4 41), (1, zi a1), (2, zi y507)] [zi v518] m516 _
      refine X.pop 114 i100_113 rfl rfl rfl ?_
      refine X.iconst 115 i100_114 rfl rfl (by decide) ?_
      refine X.reti i100_115 rfl t100 ?_
      exact hQ (-1) m516 (by first | trivial | omega) (Eq.trans hR511 (Eq.trans (if_neg h514) (Eq.trans (if_neg h515) (Eq.trans (zb_eq hFv518) rfl)))) (hJ517.up (by omega)) 
  · refine X.aload_n 88 i100_87 rfl rfl rfl ?_
    refine X.iconst 89 i100_88 rfl rfl (by decide) ?_
    refine X.aload_n 90 i100_89 rfl rfl rfl ?_
    refine X.getI 93 8 i100_90 rfl rfl (by decide) rfl rfl rfl ?_
    refine X.callv 96 [zi 1, zi (m508 4 41 8)] [] [(0, zr 4 41), (1, zi 1), (2, zi (m508 4 41 8))] i100_93 rfl (by decide) rfl rfl (by omega) rfl rfl (by decide) rfl t102 (Nat.le_of_ble_eq_true rfl) (Nat.le_of_ble_eq_true rfl) rfl ?_
    refine c102_1 (B := B509)  1 (m508 4 41 8) (by omega) (hJ510.up (by omega)) (by omega) (by omega) (by omega) hf16 hg4 (fun v521 m519 hv521 hFv521 hJ520 => ?_)
    show X (EE s) d 100 96 [(0, zr 4 41), (1, zi a1), (2, zi y507)] [zi v521] m519 _
    refine X.pop 97 i100_96 rfl rfl rfl ?_
    refine X.iconst 98 i100_97 rfl rfl (by decide) ?_
    refine X.reti i100_98 rfl t100 ?_
    exact hQ (-1) m519 (by first | trivial | omega) (Eq.trans hR511 (Eq.trans (if_pos h514) (Eq.trans (zb_eq hFv521) rfl))) (hJ520.up (by omega)) 
-- WorkMeter$CalendarText.readSign
noncomputable def f105_1 (a1 : Int) (m : zM) : Int × zM :=
  zs (f93_1 m) fun m501 =>
  if (m501 4 41 3) ≤ (m501 4 41 7) then
  (zb (f102_1 1 (m501 4 41 7) m501) fun v509 m507 =>
  (v509, m507))
  else
  (if (m501 4 42 (m501 4 41 7)) = a1 then
  (zs (z_upd m501 4 41 7 ((m501 4 41 7) + 1)) fun m512 =>
  (1, m512))
  else
  (zb (f102_1 1 (m501 4 41 7) m501) fun v516 m514 =>
  (v516, m514)))
-- WorkMeter$CalendarText.readSign
theorem c105_1 {s : Nat × (Nat → Int32)} {S : zS} {m0 m : zM} {B : Int} {d : Nat} {Q : Option zV → zM → Prop} (a1 : Int) (hd : 14 ≤ d) (hJ : J S m0 B m) (hB : B + 0 ≤ 1000000000) (ha1 : 58 ≤ a1 ∧ a1 ≤ 58) (hf16 : ¬ S.1 16) (hf19 : ¬ S.1 19) (hg4 : ¬ S.2.1 4) (hQ : ∀ (v : Int) m', (0 ≤ v ∧ v ≤ 1) → f105_1 a1 m = (v, m') → J S m0 (B) m' → Q (some (zi v)) m') : X (EE s) d 105 0 [(0, zr 4 41), (1, zi a1)] [] m Q := by
  refine X.aload_n 1 i105_0 rfl rfl rfl ?_
  refine X.callv 4 [] [] [(0, zr 4 41)] i105_1 rfl (by decide) rfl rfl (by omega) rfl rfl (by decide) rfl t93 (Nat.le_of_ble_eq_true rfl) (Nat.le_of_ble_eq_true rfl) rfl ?_
  refine c93_1 (B := B)   (by omega) (hJ.up (by omega)) (by omega)  hf19 hg4 (fun m501 hFv503 hJ502 => ?_)
  show X (EE s) d 105 4 [(0, zr 4 41), (1, zi a1)] [] m501 _
  refine X.aload_n 5 i105_4 rfl rfl rfl ?_
  refine X.getI 8 7 i105_5 rfl rfl (by decide) rfl rfl rfl ?_
  have h504 := r41_7 hJ502 4
  refine X.aload_n 9 i105_8 rfl rfl rfl ?_
  refine X.getI 12 3 i105_9 rfl rfl (by decide) rfl rfl rfl ?_
  have h505 := r41_3 hJ502 4
  refine X.icmpge 28 15 i105_12 rfl rfl rfl (fun h506 => ?_) (fun h506 => ?_)
  · refine X.cut [(0, zr 4 41)] i105_28 rfl ?_
    refine X.aload_n 29 i105_28 rfl rfl rfl ?_
    refine X.iconst 30 i105_29 rfl rfl (by decide) ?_
    refine X.aload_n 31 i105_30 rfl rfl rfl ?_
    refine X.getI 34 7 i105_31 rfl rfl (by decide) rfl rfl rfl ?_
    refine X.callv 37 [zi 1, zi (m501 4 41 7)] [] [(0, zr 4 41), (1, zi 1), (2, zi (m501 4 41 7))] i105_34 rfl (by decide) rfl rfl (by omega) rfl rfl (by decide) rfl t102 (Nat.le_of_ble_eq_true rfl) (Nat.le_of_ble_eq_true rfl) rfl ?_
    refine c102_1 (B := B)  1 (m501 4 41 7) (by omega) (hJ502.up (by omega)) (by omega) (by omega) (by omega) hf16 hg4 (fun v509 m507 hv509 hFv509 hJ508 => ?_)
    show X (EE s) d 105 37 [(0, zr 4 41)] [zi v509] m507 _
    refine X.retz i105_37 rfl t105 (by omega) ?_
    exact hQ v509 m507 (by first | trivial | omega) (Eq.trans (zs_eq hFv503.symm) (Eq.trans (if_pos h506) (Eq.trans (zb_eq hFv509) rfl))) (hJ508.up (by omega)) 
  · refine X.aload_n 16 i105_15 rfl rfl rfl ?_
    refine X.getF 19 i105_16 rfl rfl (by decide) rfl rfl ?_
    refine X.aload_n 20 i105_19 rfl rfl rfl ?_
    refine X.getI 23 7 i105_20 rfl rfl (by decide) rfl rfl rfl ?_
    refine X.iald 24 i105_23 rfl rfl (by decide) rfl (by omega) ?_
    have h510 := r42_0 hJ502 4 (i := (m501 4 41 7)) (by omega)
    refine X.iload_n 25 i105_24 rfl rfl rfl ?_
    refine X.icmpeq 38 28 i105_25 rfl rfl rfl (fun h511 => ?_) (fun h511 => ?_)
    · refine X.cut [(0, zr 4 41)] i105_38 rfl ?_
      refine X.aload_n 39 i105_38 rfl rfl rfl ?_
      refine X.dup 40 i105_39 rfl rfl rfl ?_
      refine X.getI 43 7 i105_40 rfl rfl (by decide) rfl rfl rfl ?_
      refine X.iconst 44 i105_43 rfl rfl (by decide) ?_
      refine X.iadd 45 i105_44 rfl rfl (by omega) ?_
      refine X.putI' 48 7 i105_45 rfl rfl (by decide) rfl rfl rfl (fun hrm512 m512 hm512 => ?_)
      have hJ513 := w41_7 hJ502 hm512 (by omega) hf19 hg4
      have em512 : m512 4 41 7 = ((m501 4 41 7) + 1) := by rw [hm512]; exact z_upd_same _ _ _ _ _
      refine X.iconst 49 i105_48 rfl rfl (by decide) ?_
      refine X.retz i105_49 rfl t105 (by omega) ?_
      exact hQ 1 m512 (by first | trivial | omega) (Eq.trans (zs_eq hFv503.symm) (Eq.trans (if_neg h506) (Eq.trans (if_pos h511) (Eq.trans (zs_eq hm512) rfl)))) (hJ513.up (by omega)) 
    · refine X.cut [(0, zr 4 41)] i105_28 rfl ?_
      refine X.aload_n 29 i105_28 rfl rfl rfl ?_
      refine X.iconst 30 i105_29 rfl rfl (by decide) ?_
      refine X.aload_n 31 i105_30 rfl rfl rfl ?_
      refine X.getI 34 7 i105_31 rfl rfl (by decide) rfl rfl rfl ?_
      refine X.callv 37 [zi 1, zi (m501 4 41 7)] [] [(0, zr 4 41), (1, zi 1), (2, zi (m501 4 41 7))] i105_34 rfl (by decide) rfl rfl (by omega) rfl rfl (by decide) rfl t102 (Nat.le_of_ble_eq_true rfl) (Nat.le_of_ble_eq_true rfl) rfl ?_
      refine c102_1 (B := B)  1 (m501 4 41 7) (by omega) (hJ502.up (by omega)) (by omega) (by omega) (by omega) hf16 hg4 (fun v516 m514 hv516 hFv516 hJ515 => ?_)
      show X (EE s) d 105 37 [(0, zr 4 41)] [zi v516] m514 _
      refine X.retz i105_37 rfl t105 (by omega) ?_
      exact hQ v516 m514 (by first | trivial | omega) (Eq.trans (zs_eq hFv503.symm) (Eq.trans (if_neg h506) (Eq.trans (if_neg h511) (Eq.trans (zb_eq hFv516) rfl)))) (hJ515.up (by omega)) 
theorem l100_14_6 {s : Nat × (Nat → Int32)} {S : zS} {m0 : zM} {d : Nat} {Q : Option zV → zM → Prop} {R0 : Int × zM} {k76 : Int → zM → Int × zM} (y1 : Int) (BE : Int) (hE : BE ≤ 1000000000) (hd : 13 ≤ d) (hy1 : 59 ≤ y1 ∧ y1 ≤ 59) (hf19 : ¬ S.1 19) (hg4 : ¬ S.2.1 4)
    (K76 : ∀ (x2 : Int) (m' : zM) (B' : Int), J S m0 B' m' → B' ≤ BE → (0 ≤ x2 ∧ x2 ≤ 1000000) → R0 = k76 x2 m' → X (EE s) d 100 76 [(0, zr 4 41), (1, zi y1), (2, zi x2)] [] m' Q) :
    ∀ (n : Nat) (y2 : Int) (m : zM) (B : Int), J S m0 B m → B + 0 * (n : Int) ≤ BE → (0 ≤ y2 ∧ y2 ≤ 1000000) → 300 - m 4 41 7 < (n : Int) → R0 = fl100_14_1 k76 y1 n y2 m → X (EE s) d 100 14 [(0, zr 4 41), (1, zi y1), (2, zi y2)] [] m Q := by
  intro n
  induction n with
  | zero =>
    intro y2 m B hJ hB hy2 hn hR
    have zf0 := r41_7 hJ 4
    exfalso
    omega
  | succ n ih =>
    intro y2 m B hJ hB hy2 hn hR
    replace hR : R0 = fl100_14_1_b (fl100_14_1 k76 y1 n) k76 y1 y2 m := hR
    refine X.aload_n 15 i100_14 rfl rfl rfl ?_
    refine X.getI 18 7 i100_15 rfl rfl (by decide) rfl rfl rfl ?_
    have h512 := r41_7 hJ 4
    refine X.aload_n 19 i100_18 rfl rfl rfl ?_
    refine X.getI 22 3 i100_19 rfl rfl (by decide) rfl rfl rfl ?_
    have h513 := r41_3 hJ 4
    refine X.icmpge 76 25 i100_22 rfl rfl rfl (fun h514 => ?_) (fun h514 => ?_)
    · exact K76 y2 m (B) (hJ.up (by omega)) (by omega) (by first | trivial | omega) (Eq.trans hR (Eq.trans (if_pos h514) rfl))
    · refine X.aload_n 26 i100_25 rfl rfl rfl ?_
      refine X.getF 29 i100_26 rfl rfl (by decide) rfl rfl ?_
      refine X.aload_n 30 i100_29 rfl rfl rfl ?_
      refine X.getI 33 7 i100_30 rfl rfl (by decide) rfl rfl rfl ?_
      refine X.iald 34 i100_33 rfl rfl (by decide) rfl (by omega) ?_
      have h515 := r42_0 hJ 4 (i := (m 4 41 7)) (by omega)
      refine X.calls 37 [zi (m 4 42 (m 4 41 7))] [] [(0, zi (m 4 42 (m 4 41 7)))] i100_34 (by decide) rfl rfl (by omega) rfl rfl t101 (Nat.le_of_ble_eq_true rfl) (Nat.le_of_ble_eq_true rfl) rfl ?_
      refine X.iload_n 1 i101_0 rfl rfl rfl ?_
      refine X.bipush 3 i101_1 rfl rfl (by decide) ?_
      refine X.icmplt 16 6 i101_3 rfl rfl rfl (fun h516 => ?_) (fun h516 => ?_)
      · refine X.cut [] i101_16 rfl ?_
        refine X.iconst 17 i101_16 rfl rfl (by decide) ?_
        refine X.retz i101_17 rfl t101 (by omega) ?_
        show X (EE s) d 100 37 [(0, zr 4 41), (1, zi y1), (2, zi y2)] [zi 0] m _
        refine X.ifeq 76 40 i100_37 rfl rfl rfl (fun h517 => ?_) (fun h517 => (by exfalso; omega))
        exact K76 y2 m (B) (hJ.up (by omega)) (by omega) (by first | trivial | omega) (Eq.trans hR (Eq.trans (if_neg h514) (Eq.trans (if_pos h516) rfl)))
      · refine X.iload_n 7 i101_6 rfl rfl rfl ?_
        refine X.bipush 9 i101_7 rfl rfl (by decide) ?_
        refine X.icmpgt 16 12 i101_9 rfl rfl rfl (fun h518 => ?_) (fun h518 => ?_)
        · refine X.cut [] i101_16 rfl ?_
          refine X.iconst 17 i101_16 rfl rfl (by decide) ?_
          refine X.retz i101_17 rfl t101 (by omega) ?_
          show X (EE s) d 100 37 [(0, zr 4 41), (1, zi y1), (2, zi y2)] [zi 0] m _
          refine X.ifeq 76 40 i100_37 rfl rfl rfl (fun h519 => ?_) (fun h519 => (by exfalso; omega))
          exact K76 y2 m (B) (hJ.up (by omega)) (by omega) (by first | trivial | omega) (Eq.trans hR (Eq.trans (if_neg h514) (Eq.trans (if_neg h516) (Eq.trans (if_pos h518) rfl))))
        · refine X.iconst 13 i101_12 rfl rfl (by decide) ?_
          refine X.goto 17 i101_13 rfl rfl ?_
          refine X.cut [] i101_17 rfl ?_
          refine X.retz i101_17 rfl t101 (by omega) ?_
          show X (EE s) d 100 37 [(0, zr 4 41), (1, zi y1), (2, zi y2)] [zi 1] m _
          refine X.ifeq 76 40 i100_37 rfl rfl rfl (fun h520 => (by exfalso; omega)) (fun h520 => ?_)
          refine X.iload_n 41 i100_40 rfl rfl rfl ?_
          refine X.bipush 43 i100_41 rfl rfl (by decide) ?_
          refine X.imul 44 i100_43 rfl rfl (by omega) ?_
          refine X.aload_n 45 i100_44 rfl rfl rfl ?_
          refine X.getF 48 i100_45 rfl rfl (by decide) rfl rfl ?_
          refine X.aload_n 49 i100_48 rfl rfl rfl ?_
          refine X.getI 52 7 i100_49 rfl rfl (by decide) rfl rfl rfl ?_
          refine X.iald 53 i100_52 rfl rfl (by decide) rfl (by omega) ?_
          refine X.iadd 54 i100_53 rfl rfl (by omega) ?_
          refine X.bipush 56 i100_54 rfl rfl (by decide) ?_
          refine X.isub 57 i100_56 rfl rfl (by omega) ?_
          refine X.ldc 59 i100_57 rfl rfl (by decide) ?_
          refine X.minI 62 i100_59 rfl rfl (by omega) (Nat.le_of_ble_eq_true rfl) ?_
          refine X.istore_n 63 [(0, zr 4 41), (1, zi y1), (2, zi (min (((y2 * 10) + (m 4 42 (m 4 41 7))) - 48) 1000000))] i100_62 rfl rfl rfl ?_
          refine X.aload_n 64 i100_63 rfl rfl rfl ?_
          refine X.dup 65 i100_64 rfl rfl rfl ?_
          refine X.getI 68 7 i100_65 rfl rfl (by decide) rfl rfl rfl ?_
          refine X.iconst 69 i100_68 rfl rfl (by decide) ?_
          refine X.iadd 70 i100_69 rfl rfl (by omega) ?_
          refine X.putI' 73 7 i100_70 rfl rfl (by decide) rfl rfl rfl (fun hrm521 m521 hm521 => ?_)
          have hJ522 := w41_7 hJ hm521 (by omega) hf19 hg4
          have em521 : m521 4 41 7 = ((m 4 41 7) + 1) := by rw [hm521]; exact z_upd_same _ _ _ _ _
          refine X.goto 14 i100_73 rfl rfl ?_
          exact ih (min (((y2 * 10) + (m 4 42 (m 4 41 7))) - 48) 1000000) m521 (B) (hJ522.up (by omega)) (by omega) (by omega) (by omega) (Eq.trans hR (Eq.trans (if_neg h514) (Eq.trans (if_neg h516) (Eq.trans (if_neg h518) (Eq.trans (zs_eq hm521) rfl)))))
-- WorkMeter$CalendarText.readNumber
theorem c100_6 {s : Nat × (Nat → Int32)} {S : zS} {m0 m : zM} {B : Int} {d : Nat} {Q : Option zV → zM → Prop} (a1 : Int) (hd : 14 ≤ d) (hJ : J S m0 B m) (hB : B + 0 ≤ 1000000000) (ha1 : 59 ≤ a1 ∧ a1 ≤ 59) (hf16 : ¬ S.1 16) (hf19 : ¬ S.1 19) (hg4 : ¬ S.2.1 4) (hQ : ∀ (v : Int) m', ((-1) ≤ v ∧ v ≤ 59) → f100_1 a1 m = (v, m') → J S m0 (B) m' → Q (some (zi v)) m') : X (EE s) d 100 0 [(0, zr 4 41), (1, zi a1)] [] m Q := by
  refine X.aload_n 1 i100_0 rfl rfl rfl ?_
  refine X.callv 4 [] [] [(0, zr 4 41)] i100_1 rfl (by decide) rfl rfl (by omega) rfl rfl (by decide) rfl t93 (Nat.le_of_ble_eq_true rfl) (Nat.le_of_ble_eq_true rfl) rfl ?_
  refine c93_1 (B := B)   (by omega) (hJ.up (by omega)) (by omega)  hf19 hg4 (fun m501 hFv503 hJ502 => ?_)
  show X (EE s) d 100 4 [(0, zr 4 41), (1, zi a1)] [] m501 _
  refine X.aload_n 5 i100_4 rfl rfl rfl ?_
  refine X.aload_n 6 i100_5 rfl rfl rfl ?_
  refine X.getI 9 7 i100_6 rfl rfl (by decide) rfl rfl rfl ?_
  have h504 := r41_7 hJ502 4
  refine X.putI' 12 8 i100_9 rfl rfl (by decide) rfl rfl rfl (fun hrm505 m505 hm505 => ?_)
  have hJ506 := w41_8 hJ502 hm505 (by omega) hrm505 hf19 hg4
  refine X.iconst 13 i100_12 rfl rfl (by decide) ?_
  refine X.istore_n 14 [(0, zr 4 41), (1, zi a1), (2, zi 0)] i100_13 rfl rfl rfl ?_
  have hz301 := zfu_eq 301
  refine l100_14_6 (s := s) (d := d) (R0 := (f100_1 a1 m))  a1  (BE := B + 0) (by omega) (by omega) (by omega) hf19 hg4 (fun y507 m508 B509 hJ510 hBB509 hby507 hR511 => ?_) (zfu 301) 0 m505 (B) (hJ506.up (by omega)) (by omega) (by omega) (by omega) (Eq.trans (zs_eq hFv503.symm) (Eq.trans (zs_eq hm505) rfl))
  refine X.aload_n 77 i100_76 rfl rfl rfl ?_
  refine X.getI 80 7 i100_77 rfl rfl (by decide) rfl rfl rfl ?_
  have h512 := r41_7 hJ510 4
  refine X.aload_n 81 i100_80 rfl rfl rfl ?_
  refine X.getIr 84 8 i100_81 rfl rfl (by decide) rfl rfl rfl (fun h513 => ?_)
  refine X.icmpne 99 87 i100_84 rfl rfl rfl (fun h514 => ?_) (fun h514 => ?_)
  · refine X.iload_n 100 i100_99 rfl rfl rfl ?_
    refine X.iload_n 101 i100_100 rfl rfl rfl ?_
    refine X.icmple 116 104 i100_101 rfl rfl rfl (fun h515 => ?_) (fun h515 => ?_)
    · refine X.cut [(2, zi y507)] i100_116 rfl ?_
      refine X.iload_n 117 i100_116 rfl rfl rfl ?_
      refine X.reti i100_117 rfl t100 ?_
      exact hQ y507 m508 (by first | trivial | omega) (Eq.trans hR511 (Eq.trans (if_neg h514) (Eq.trans (if_pos h515) rfl))) (hJ510.up (by omega)) 
    · refine X.aload_n 105 i100_104 rfl rfl rfl ?_
      refine X.iconst 106 i100_105 rfl rfl (by decide) ?_
      refine X.aload_n 107 i100_106 rfl rfl rfl ?_
      refine X.getI 110 8 i100_107 rfl rfl (by decide) rfl rfl rfl ?_
      refine X.callv 113 [zi 2, zi (m508 4 41 8)] [] [(0, zr 4 41), (1, zi 2), (2, zi (m508 4 41 8))] i100_110 rfl (by decide) rfl rfl (by omega) rfl rfl (by decide) rfl t102 (Nat.le_of_ble_eq_true rfl) (Nat.le_of_ble_eq_true rfl) rfl ?_
      refine c102_2 (B := B509)  2 (m508 4 41 8) (by omega) (hJ510.up (by omega)) (by omega) (by omega) (by omega) hf16 hg4 (fun v518 m516 hv518 hFv518 hJ517 => ?_)
      show X (EE s) d 100 113 [(0, zr 4 41), (1, zi a1), (2, zi y507)] [zi v518] m516 _
      refine X.pop 114 i100_113 rfl rfl rfl ?_
      refine X.iconst 115 i100_114 rfl rfl (by decide) ?_
      refine X.reti i100_115 rfl t100 ?_
      exact hQ (-1) m516 (by first | trivial | omega) (Eq.trans hR511 (Eq.trans (if_neg h514) (Eq.trans (if_neg h515) (Eq.trans (zb_eq hFv518) rfl)))) (hJ517.up (by omega)) 
  · refine X.aload_n 88 i100_87 rfl rfl rfl ?_
    refine X.iconst 89 i100_88 rfl rfl (by decide) ?_
    refine X.aload_n 90 i100_89 rfl rfl rfl ?_
    refine X.getI 93 8 i100_90 rfl rfl (by decide) rfl rfl rfl ?_
    refine X.callv 96 [zi 1, zi (m508 4 41 8)] [] [(0, zr 4 41), (1, zi 1), (2, zi (m508 4 41 8))] i100_93 rfl (by decide) rfl rfl (by omega) rfl rfl (by decide) rfl t102 (Nat.le_of_ble_eq_true rfl) (Nat.le_of_ble_eq_true rfl) rfl ?_
    refine c102_1 (B := B509)  1 (m508 4 41 8) (by omega) (hJ510.up (by omega)) (by omega) (by omega) (by omega) hf16 hg4 (fun v521 m519 hv521 hFv521 hJ520 => ?_)
    show X (EE s) d 100 96 [(0, zr 4 41), (1, zi a1), (2, zi y507)] [zi v521] m519 _
    refine X.pop 97 i100_96 rfl rfl rfl ?_
    refine X.iconst 98 i100_97 rfl rfl (by decide) ?_
    refine X.reti i100_98 rfl t100 ?_
    exact hQ (-1) m519 (by first | trivial | omega) (Eq.trans hR511 (Eq.trans (if_pos h514) (Eq.trans (zb_eq hFv521) rfl))) (hJ520.up (by omega)) 
-- WorkMeter$CalendarText.fail
theorem c102_6 {s : Nat × (Nat → Int32)} {S : zS} {m0 m : zM} {B : Int} {d : Nat} {Q : Option zV → zM → Prop} (a1 a2 : Int) (hd : 13 ≤ d) (hJ : J S m0 B m) (hB : B + 0 ≤ 1000000000) (ha1 : 4 ≤ a1 ∧ a1 ≤ 4) (ha2 : (-2147483648) ≤ a2 ∧ a2 ≤ 2147483647) (hf16 : ¬ S.1 16) (hg4 : ¬ S.2.1 4) (hQ : ∀ (v : Int) m', (0 ≤ v ∧ v ≤ 0) → f102_1 a1 a2 m = (v, m') → J S m0 (B) m' → Q (some (zi v)) m') : X (EE s) d 102 0 [(0, zr 4 41), (1, zi a1), (2, zi a2)] [] m Q := by
  refine X.aload_n 1 i102_0 rfl rfl rfl ?_
  refine X.iload_n 2 i102_1 rfl rfl rfl ?_
  refine X.putI' 5 4 i102_2 rfl rfl (by decide) rfl rfl rfl (fun hrm501 m501 hm501 => ?_)
  have hJ502 := w41_4 hJ hm501 (by omega) hrm501 hf16 hg4
  refine X.aload_n 6 i102_5 rfl rfl rfl ?_
  refine X.iload_n 7 i102_6 rfl rfl rfl ?_
  refine X.putI' 10 5 i102_7 rfl rfl (by decide) rfl rfl rfl (fun hrm503 m503 hm503 => ?_)
  have hJ504 := w41_4 hJ502 hm503 (by omega) hrm503 hf16 hg4
  refine X.iconst 11 i102_10 rfl rfl (by decide) ?_
  refine X.retz i102_11 rfl t102 (by omega) ?_
  exact hQ 0 m503 (by first | trivial | omega) (Eq.trans (zs_eq hm501) (Eq.trans (zs_eq hm503) rfl)) (hJ504.up (by omega)) 
-- WorkMeter$CalendarText.readSwitch
noncomputable def f104_1 (a1 : Int) (m : zM) : Int × zM :=
  zb (f100_1 23 m) fun v503 m501 =>
  if v503 = (-1) then
  ((0, m501))
  else
  (if (m501 3 12 a1) < 6 then
  (zb (f105_1 58 m501) fun v509 m507 =>
  if v509 = 0 then
  ((0, m507))
  else
  (zb (f100_1 59 m507) fun v513 m511 =>
  if v513 = (-1) then
  ((0, m511))
  else
  (zn (f82_1 3 a1 ((v503 * 3600) + (v513 * 60)) m511) fun v517 =>
  if v517 = 0 then
  (zb (f100_1 3 m511) fun v521 m519 =>
  if v521 = (-1) then
  ((0, m519))
  else
  (zb (f81_1 3 a1 ((v503 * 3600) + (v513 * 60)) v521 m519) fun v525 m523 =>
  (1, m523)))
  else
  (zb (f102_1 3 (m511 4 41 8) m511) fun v529 m527 =>
  (v529, m527)))))
  else
  (zb (f102_1 4 (m501 4 41 8) m501) fun v533 m531 =>
  (v533, m531)))
-- WorkMeter$CalendarText.readSwitch
theorem c104_1 {s : Nat × (Nat → Int32)} {S : zS} {m0 m : zM} {B : Int} {d : Nat} {Q : Option zV → zM → Prop} (a1 : Int) (hd : 16 ≤ d) (hJ : J S m0 B m) (hB : B + 0 ≤ 1000000000) (ha1 : 0 ≤ a1 ∧ a1 ≤ 7) (hf1 : ¬ S.1 1) (hf16 : ¬ S.1 16) (hf19 : ¬ S.1 19) (hg3 : ¬ S.2.1 3) (hg4 : ¬ S.2.1 4) (hQ : ∀ (v : Int) m', (0 ≤ v ∧ v ≤ 1) → f104_1 a1 m = (v, m') → J S m0 (B) m' → Q (some (zi v)) m') : X (EE s) d 104 0 [(0, zr 4 41), (1, zi a1)] [] m Q := by
  refine X.aload_n 1 i104_0 rfl rfl rfl ?_
  refine X.bipush 3 i104_1 rfl rfl (by decide) ?_
  refine X.callv 6 [zi 23] [] [(0, zr 4 41), (1, zi 23)] i104_3 rfl (by decide) rfl rfl (by omega) rfl rfl (by decide) rfl t100 (Nat.le_of_ble_eq_true rfl) (Nat.le_of_ble_eq_true rfl) rfl ?_
  refine c100_5 (B := B)  23 (by omega) (hJ.up (by omega)) (by omega) (by omega) hf16 hf19 hg4 (fun v503 m501 hv503 hFv503 hJ502 => ?_)
  show X (EE s) d 104 6 [(0, zr 4 41), (1, zi a1)] [zi v503] m501 _
  refine X.istore_n 7 [(0, zr 4 41), (1, zi a1), (2, zi v503)] i104_6 rfl rfl rfl ?_
  refine X.iload_n 8 i104_7 rfl rfl rfl ?_
  refine X.iconst 9 i104_8 rfl rfl (by decide) ?_
  refine X.icmpne 14 12 i104_9 rfl rfl rfl (fun h504 => ?_) (fun h504 => ?_)
  · refine X.aload_n 15 i104_14 rfl rfl rfl ?_
    refine X.getF 18 i104_15 rfl rfl (by decide) rfl rfl ?_
    refine X.getR 21 i104_18 rfl rfl (by decide) rfl rfl ?_
    refine X.iload_n 22 i104_21 rfl rfl rfl ?_
    refine X.iald 23 i104_22 rfl rfl (by decide) rfl (by omega) ?_
    have h505 := r12_0 hJ502 3 (i := a1) (by omega)
    refine X.bipush 25 i104_23 rfl rfl (by decide) ?_
    refine X.icmplt 38 28 i104_25 rfl rfl rfl (fun h506 => ?_) (fun h506 => ?_)
    · refine X.aload_n 39 i104_38 rfl rfl rfl ?_
      refine X.bipush 41 i104_39 rfl rfl (by decide) ?_
      refine X.callv 44 [zi 58] [] [(0, zr 4 41), (1, zi 58)] i104_41 rfl (by decide) rfl rfl (by omega) rfl rfl (by decide) rfl t105 (Nat.le_of_ble_eq_true rfl) (Nat.le_of_ble_eq_true rfl) rfl ?_
      refine c105_1 (B := B)  58 (by omega) (hJ502.up (by omega)) (by omega) (by omega) hf16 hf19 hg4 (fun v509 m507 hv509 hFv509 hJ508 => ?_)
      show X (EE s) d 104 44 [(0, zr 4 41), (1, zi a1), (2, zi v503)] [zi v509] m507 _
      refine X.ifne 49 47 i104_44 rfl rfl rfl (fun h510 => ?_) (fun h510 => ?_)
      · refine X.aload_n 50 i104_49 rfl rfl rfl ?_
        refine X.bipush 52 i104_50 rfl rfl (by decide) ?_
        refine X.callv 55 [zi 59] [] [(0, zr 4 41), (1, zi 59)] i104_52 rfl (by decide) rfl rfl (by omega) rfl rfl (by decide) rfl t100 (Nat.le_of_ble_eq_true rfl) (Nat.le_of_ble_eq_true rfl) rfl ?_
        refine c100_6 (B := B)  59 (by omega) (hJ508.up (by omega)) (by omega) (by omega) hf16 hf19 hg4 (fun v513 m511 hv513 hFv513 hJ512 => ?_)
        show X (EE s) d 104 55 [(0, zr 4 41), (1, zi a1), (2, zi v503)] [zi v513] m511 _
        refine X.istore_n 56 [(0, zr 4 41), (1, zi a1), (2, zi v503), (3, zi v513)] i104_55 rfl rfl rfl ?_
        refine X.iload_n 57 i104_56 rfl rfl rfl ?_
        refine X.iconst 58 i104_57 rfl rfl (by decide) ?_
        refine X.icmpne 63 61 i104_58 rfl rfl rfl (fun h514 => ?_) (fun h514 => ?_)
        · refine X.iload_n 64 i104_63 rfl rfl rfl ?_
          refine X.sipush 67 i104_64 rfl rfl (by decide) ?_
          refine X.imul 68 i104_67 rfl rfl (by omega) ?_
          refine X.iload_n 69 i104_68 rfl rfl rfl ?_
          refine X.bipush 71 i104_69 rfl rfl (by decide) ?_
          refine X.imul 72 i104_71 rfl rfl (by omega) ?_
          refine X.iadd 73 i104_72 rfl rfl (by omega) ?_
          refine X.istore 75 [(0, zr 4 41), (1, zi a1), (2, zi v503), (3, zi v513), (4, zi ((v503 * 3600) + (v513 * 60)))] i104_73 rfl rfl rfl ?_
          refine X.aload_n 76 i104_75 rfl rfl rfl ?_
          refine X.getF 79 i104_76 rfl rfl (by decide) rfl rfl ?_
          refine X.iload_n 80 i104_79 rfl rfl rfl ?_
          refine X.iload 82 i104_80 rfl rfl rfl ?_
          refine X.callv 85 [zi a1, zi ((v503 * 3600) + (v513 * 60))] [] [(0, zr 3 11), (1, zi a1), (2, zi ((v503 * 3600) + (v513 * 60)))] i104_82 rfl (by decide) rfl rfl (by omega) rfl rfl (by decide) rfl t82 (Nat.le_of_ble_eq_true rfl) (Nat.le_of_ble_eq_true rfl) rfl ?_
          refine c82_1 (B := B) 3 a1 ((v503 * 3600) + (v513 * 60)) (by omega) (hJ512.up (by omega)) (by omega) (by omega) (by omega) (fun v517 hv517 hFv517 hqv517_0 => ?_)
          show X (EE s) d 104 85 [(0, zr 4 41), (1, zi a1), (2, zi v503), (3, zi v513), (4, zi ((v503 * 3600) + (v513 * 60)))] [zi v517] m511 _
          refine X.ifeq 98 88 i104_85 rfl rfl rfl (fun h518 => ?_) (fun h518 => ?_)
          · refine X.cut [(0, zr 4 41), (1, zi a1), (4, zi ((v503 * 3600) + (v513 * 60)))] i104_98 rfl ?_
            refine X.aload_n 99 i104_98 rfl rfl rfl ?_
            refine X.iconst 100 i104_99 rfl rfl (by decide) ?_
            refine X.callv 103 [zi 3] [] [(0, zr 4 41), (1, zi 3)] i104_100 rfl (by decide) rfl rfl (by omega) rfl rfl (by decide) rfl t100 (Nat.le_of_ble_eq_true rfl) (Nat.le_of_ble_eq_true rfl) rfl ?_
            refine c100_4 (B := B)  3 (by omega) (hJ512.up (by omega)) (by omega) (by omega) hf16 hf19 hg4 (fun v521 m519 hv521 hFv521 hJ520 => ?_)
            show X (EE s) d 104 103 [(0, zr 4 41), (1, zi a1), (4, zi ((v503 * 3600) + (v513 * 60)))] [zi v521] m519 _
            refine X.istore 105 [(0, zr 4 41), (1, zi a1), (4, zi ((v503 * 3600) + (v513 * 60))), (5, zi v521)] i104_103 rfl rfl rfl ?_
            refine X.iload 107 i104_105 rfl rfl rfl ?_
            refine X.iconst 108 i104_107 rfl rfl (by decide) ?_
            refine X.icmpne 113 111 i104_108 rfl rfl rfl (fun h522 => ?_) (fun h522 => ?_)
            · refine X.aload_n 114 i104_113 rfl rfl rfl ?_
              refine X.getF 117 i104_114 rfl rfl (by decide) rfl rfl ?_
              refine X.iload_n 118 i104_117 rfl rfl rfl ?_
              refine X.iload 120 i104_118 rfl rfl rfl ?_
              refine X.iload 122 i104_120 rfl rfl rfl ?_
              refine X.callv 125 [zi a1, zi ((v503 * 3600) + (v513 * 60)), zi v521] [] [(0, zr 3 11), (1, zi a1), (2, zi ((v503 * 3600) + (v513 * 60))), (3, zi v521)] i104_122 rfl (by decide) rfl rfl (by omega) rfl rfl (by decide) rfl t81 (Nat.le_of_ble_eq_true rfl) (Nat.le_of_ble_eq_true rfl) rfl ?_
              refine c81_1 (B := B) 3 a1 ((v503 * 3600) + (v513 * 60)) v521 (by omega) (hJ520.up (by omega)) (by omega) (by omega) (by omega) (by omega) hf1 hg3 (fun v525 m523 hv525 hFv525 hJ524 => ?_)
              show X (EE s) d 104 125 [(0, zr 4 41), (1, zi a1), (4, zi ((v503 * 3600) + (v513 * 60))), (5, zi v521)] [zi v525] m523 _
              refine X.pop 126 i104_125 rfl rfl rfl ?_
              refine X.iconst 127 i104_126 rfl rfl (by decide) ?_
              refine X.retz i104_127 rfl t104 (by omega) ?_
              exact hQ 1 m523 (by first | trivial | omega) (Eq.trans (zb_eq hFv503) (Eq.trans (if_neg h504) (Eq.trans (if_pos h506) (Eq.trans (zb_eq hFv509) (Eq.trans (if_neg h510) (Eq.trans (zb_eq hFv513) (Eq.trans (if_neg h514) (Eq.trans (zn_eq hFv517.symm) (Eq.trans (if_pos h518) (Eq.trans (zb_eq hFv521) (Eq.trans (if_neg h522) (Eq.trans (zb_eq hFv525) rfl)))))))))))) (hJ524.up (by omega)) 
            · refine X.iconst 112 i104_111 rfl rfl (by decide) ?_
              refine X.retz i104_112 rfl t104 (by omega) ?_
              exact hQ 0 m519 (by first | trivial | omega) (Eq.trans (zb_eq hFv503) (Eq.trans (if_neg h504) (Eq.trans (if_pos h506) (Eq.trans (zb_eq hFv509) (Eq.trans (if_neg h510) (Eq.trans (zb_eq hFv513) (Eq.trans (if_neg h514) (Eq.trans (zn_eq hFv517.symm) (Eq.trans (if_pos h518) (Eq.trans (zb_eq hFv521) (Eq.trans (if_pos h522) rfl))))))))))) (hJ520.up (by omega)) 
          · refine X.aload_n 89 i104_88 rfl rfl rfl ?_
            refine X.iconst 90 i104_89 rfl rfl (by decide) ?_
            refine X.aload_n 91 i104_90 rfl rfl rfl ?_
            refine X.getIr 94 8 i104_91 rfl rfl (by decide) rfl rfl rfl (fun h526 => ?_)
            refine X.callv 97 [zi 3, zi (m511 4 41 8)] [] [(0, zr 4 41), (1, zi 3), (2, zi (m511 4 41 8))] i104_94 rfl (by decide) rfl rfl (by omega) rfl rfl (by decide) rfl t102 (Nat.le_of_ble_eq_true rfl) (Nat.le_of_ble_eq_true rfl) rfl ?_
            refine c102_4 (B := B)  3 (m511 4 41 8) (by omega) (hJ512.up (by omega)) (by omega) (by omega) (by omega) hf16 hg4 (fun v529 m527 hv529 hFv529 hJ528 => ?_)
            show X (EE s) d 104 97 [(0, zr 4 41), (1, zi a1), (2, zi v503), (3, zi v513), (4, zi ((v503 * 3600) + (v513 * 60)))] [zi v529] m527 _
            refine X.retz i104_97 rfl t104 (by omega) ?_
            exact hQ v529 m527 (by first | trivial | omega) (Eq.trans (zb_eq hFv503) (Eq.trans (if_neg h504) (Eq.trans (if_pos h506) (Eq.trans (zb_eq hFv509) (Eq.trans (if_neg h510) (Eq.trans (zb_eq hFv513) (Eq.trans (if_neg h514) (Eq.trans (zn_eq hFv517.symm) (Eq.trans (if_neg h518) (Eq.trans (zb_eq hFv529) rfl)))))))))) (hJ528.up (by omega)) 
        · refine X.iconst 62 i104_61 rfl rfl (by decide) ?_
          refine X.retz i104_62 rfl t104 (by omega) ?_
          exact hQ 0 m511 (by first | trivial | omega) (Eq.trans (zb_eq hFv503) (Eq.trans (if_neg h504) (Eq.trans (if_pos h506) (Eq.trans (zb_eq hFv509) (Eq.trans (if_neg h510) (Eq.trans (zb_eq hFv513) (Eq.trans (if_pos h514) rfl))))))) (hJ512.up (by omega)) 
      · refine X.iconst 48 i104_47 rfl rfl (by decide) ?_
        refine X.retz i104_48 rfl t104 (by omega) ?_
        exact hQ 0 m507 (by first | trivial | omega) (Eq.trans (zb_eq hFv503) (Eq.trans (if_neg h504) (Eq.trans (if_pos h506) (Eq.trans (zb_eq hFv509) (Eq.trans (if_pos h510) rfl))))) (hJ508.up (by omega)) 
    · refine X.aload_n 29 i104_28 rfl rfl rfl ?_
      refine X.iconst 30 i104_29 rfl rfl (by decide) ?_
      refine X.aload_n 31 i104_30 rfl rfl rfl ?_
      refine X.getIr 34 8 i104_31 rfl rfl (by decide) rfl rfl rfl (fun h530 => ?_)
      refine X.callv 37 [zi 4, zi (m501 4 41 8)] [] [(0, zr 4 41), (1, zi 4), (2, zi (m501 4 41 8))] i104_34 rfl (by decide) rfl rfl (by omega) rfl rfl (by decide) rfl t102 (Nat.le_of_ble_eq_true rfl) (Nat.le_of_ble_eq_true rfl) rfl ?_
      refine c102_6 (B := B)  4 (m501 4 41 8) (by omega) (hJ502.up (by omega)) (by omega) (by omega) (by omega) hf16 hg4 (fun v533 m531 hv533 hFv533 hJ532 => ?_)
      show X (EE s) d 104 37 [(0, zr 4 41), (1, zi a1), (2, zi v503)] [zi v533] m531 _
      refine X.retz i104_37 rfl t104 (by omega) ?_
      exact hQ v533 m531 (by first | trivial | omega) (Eq.trans (zb_eq hFv503) (Eq.trans (if_neg h504) (Eq.trans (if_neg h506) (Eq.trans (zb_eq hFv533) rfl)))) (hJ532.up (by omega)) 
  · refine X.iconst 13 i104_12 rfl rfl (by decide) ?_
    refine X.retz i104_13 rfl t104 (by omega) ?_
    exact hQ 0 m501 (by first | trivial | omega) (Eq.trans (zb_eq hFv503) (Eq.trans (if_pos h504) rfl)) (hJ502.up (by omega)) 
noncomputable def fl97_38_1_b (self : Int → zM → Int × zM) (k59 : Int → zM → Int × zM) (k67 : zM → Int × zM) (y1 : Int) (y2 : Int) (m : zM) : Int × zM :=
  if 6 < y2 then
  (k67 m)
  else
  (zb (f103_1 m) fun v513 m511 =>
  if v513 = 0 then
  (k67 m511)
  else
  (zb (f104_1 y1 m511) fun v517 m515 =>
  if v517 = 0 then
  (k59 y2 m515)
  else
  (self (y2 + 1) m515)))
noncomputable def fl97_38_1 (k59 : Int → zM → Int × zM) (k67 : zM → Int × zM) (y1 : Int) : Nat → Int → zM → Int × zM
  | 0 => fun y2 m => (0, m)
  | n + 1 => fl97_38_1_b (fl97_38_1 k59 k67 y1 n) k59 k67 y1
theorem l97_38_1 {s : Nat × (Nat → Int32)} {S : zS} {m0 : zM} {d : Nat} {Q : Option zV → zM → Prop} {R0 : Int × zM} {k59 : Int → zM → Int × zM} {k67 : zM → Int × zM} (y1 : Int) (BE : Int) (hE : BE ≤ 1000000000) (hd : 17 ≤ d) (hy1 : 0 ≤ y1 ∧ y1 ≤ 7) (hf1 : ¬ S.1 1) (hf16 : ¬ S.1 16) (hf19 : ¬ S.1 19) (hg3 : ¬ S.2.1 3) (hg4 : ¬ S.2.1 4)
    (K59 : ∀ (x2 : Int) (m' : zM) (B' : Int), J S m0 B' m' → B' ≤ BE → (0 ≤ x2 ∧ x2 ≤ 6) → R0 = k59 x2 m' → X (EE s) d 97 59 [(0, zr 4 41), (1, zi y1), (2, zi x2)] [] m' Q)
    (K67 : ∀ (m' : zM) (B' : Int), J S m0 B' m' → B' ≤ BE → R0 = k67 m' → X (EE s) d 97 67 [] [] m' Q) :
    ∀ (n : Nat) (y2 : Int) (m : zM) (B : Int), J S m0 B m → B + 0 * (n : Int) ≤ BE → (0 ≤ y2 ∧ y2 ≤ 7) → 7 - y2 < (n : Int) → R0 = fl97_38_1 k59 k67 y1 n y2 m → X (EE s) d 97 38 [(0, zr 4 41), (1, zi y1), (2, zi y2)] [] m Q := by
  intro n
  induction n with
  | zero =>
    intro y2 m B hJ hB hy2 hn hR
    exfalso
    omega
  | succ n ih =>
    intro y2 m B hJ hB hy2 hn hR
    replace hR : R0 = fl97_38_1_b (fl97_38_1 k59 k67 y1 n) k59 k67 y1 y2 m := hR
    refine X.iload_n 39 i97_38 rfl rfl rfl ?_
    refine X.bipush 41 i97_39 rfl rfl (by decide) ?_
    refine X.icmpgt 67 44 i97_41 rfl rfl rfl (fun h510 => ?_) (fun h510 => ?_)
    · refine X.cut [] i97_67 rfl ?_
      exact K67  m (B) (hJ.up (by omega)) (by omega)  (Eq.trans hR (Eq.trans (if_pos h510) rfl))
    · refine X.aload_n 45 i97_44 rfl rfl rfl ?_
      refine X.callv 48 [] [] [(0, zr 4 41)] i97_45 rfl (by decide) rfl rfl (by omega) rfl rfl (by decide) rfl t103 (Nat.le_of_ble_eq_true rfl) (Nat.le_of_ble_eq_true rfl) rfl ?_
      refine c103_1 (B := B)   (by omega) (hJ.up (by omega)) (by omega)  hf19 hg4 (fun v513 m511 hv513 hFv513 hJ512 => ?_)
      show X (EE s) d 97 48 [(0, zr 4 41), (1, zi y1), (2, zi y2)] [zi v513] m511 _
      refine X.ifeq 67 51 i97_48 rfl rfl rfl (fun h514 => ?_) (fun h514 => ?_)
      · refine X.cut [] i97_67 rfl ?_
        exact K67  m511 (B) (hJ512.up (by omega)) (by omega)  (Eq.trans hR (Eq.trans (if_neg h510) (Eq.trans (zb_eq hFv513) (Eq.trans (if_pos h514) rfl))))
      · refine X.aload_n 52 i97_51 rfl rfl rfl ?_
        refine X.iload_n 53 i97_52 rfl rfl rfl ?_
        refine X.callv 56 [zi y1] [] [(0, zr 4 41), (1, zi y1)] i97_53 rfl (by decide) rfl rfl (by omega) rfl rfl (by decide) rfl t104 (Nat.le_of_ble_eq_true rfl) (Nat.le_of_ble_eq_true rfl) rfl ?_
        refine c104_1 (B := B)  y1 (by omega) (hJ512.up (by omega)) (by omega) (by omega) hf1 hf16 hf19 hg3 hg4 (fun v517 m515 hv517 hFv517 hJ516 => ?_)
        show X (EE s) d 97 56 [(0, zr 4 41), (1, zi y1), (2, zi y2)] [zi v517] m515 _
        refine X.ifne 61 59 i97_56 rfl rfl rfl (fun h518 => ?_) (fun h518 => ?_)
        · refine X.iinc 64 [(0, zr 4 41), (1, zi y1), (2, zi (y2 + 1))] i97_61 rfl rfl rfl (by omega) rfl ?_
          refine X.goto 38 i97_64 rfl rfl ?_
          exact ih (y2 + 1) m515 (B) (hJ516.up (by omega)) (by omega) (by omega) (by omega) (Eq.trans hR (Eq.trans (if_neg h510) (Eq.trans (zb_eq hFv513) (Eq.trans (if_neg h514) (Eq.trans (zb_eq hFv517) (Eq.trans (if_neg h518) rfl))))))
        · exact K59 y2 m515 (B) (hJ516.up (by omega)) (by omega) (by first | trivial | omega) (Eq.trans hR (Eq.trans (if_neg h510) (Eq.trans (zb_eq hFv513) (Eq.trans (if_neg h514) (Eq.trans (zb_eq hFv517) (Eq.trans (if_pos h518) rfl))))))
-- WorkMeter$CalendarText.readTable
noncomputable def f97_1 (m : zM) : Int × zM :=
  zs (z_upd m 4 41 7 ((m 4 41 7) + 5)) fun m502 =>
  zb (f99_1 7 (m502 4 41 9) m502) fun v507 m505 =>
  if v507 = (-1) then
  ((0, m505))
  else
  (zn (zshl 1 v507) fun z510 =>
  zn (zor (m505 4 41 9) z510) fun z511 =>
  zs (z_upd m505 4 41 9 z511) fun m512 =>
  fl97_38_1 (fun y514 m515 =>
  (0, m515)) (fun m519 =>
  (1, m519)) v507 (zfu 8) 0 m512)
-- WorkMeter$CalendarText.readTable
theorem c97_1 {s : Nat × (Nat → Int32)} {S : zS} {m0 m : zM} {B : Int} {d : Nat} {Q : Option zV → zM → Prop} (hd : 17 ≤ d) (hJ : J S m0 B m) (hB : B + 0 ≤ 1000000000) (hp0 : m 4 41 7 + 5 ≤ 300) (hf1 : ¬ S.1 1) (hf16 : ¬ S.1 16) (hf19 : ¬ S.1 19) (hg3 : ¬ S.2.1 3) (hg4 : ¬ S.2.1 4) (hQ : ∀ (v : Int) m', (0 ≤ v ∧ v ≤ 1) → f97_1 m = (v, m') → J S m0 (B) m' → Q (some (zi v)) m') : X (EE s) d 97 0 [(0, zr 4 41)] [] m Q := by
  refine X.aload_n 1 i97_0 rfl rfl rfl ?_
  refine X.ldcS 3 i97_1 rfl rfl (by decide) ?_
  refine X.callv 6 [zr 99 4] [] [(0, zr 4 41), (1, zr 99 4)] i97_3 rfl (by decide) rfl rfl (by omega) rfl rfl (by decide) rfl t98 (Nat.le_of_ble_eq_true rfl) (Nat.le_of_ble_eq_true rfl) rfl ?_
  refine X.aload_n 1 i98_0 rfl rfl rfl ?_
  refine X.dup 2 i98_1 rfl rfl rfl ?_
  refine X.getI 5 7 i98_2 rfl rfl (by decide) rfl rfl rfl ?_
  have h501 := r41_7 hJ 4
  refine X.aload_n 6 i98_5 rfl rfl rfl ?_
  refine X.slen 9 i98_6 rfl rfl (by omega) (Nat.le_of_ble_eq_true rfl) (by decide) (show (5 : Nat) < 2147483648 by decide) ?_
  show X (EE s) (d - 1) 98 9 [(0, zr 4 41), (1, zr 99 4)] [zi 5, zi (m 4 41 7), zr 4 41] m _
  refine X.iadd 10 i98_9 rfl rfl (by omega) ?_
  refine X.putI' 13 7 i98_10 rfl rfl (by decide) rfl rfl rfl (fun hrm502 m502 hm502 => ?_)
  have hJ503 := w41_7 hJ hm502 (by omega) hf19 hg4
  have em502 : m502 4 41 7 = ((m 4 41 7) + 5) := by rw [hm502]; exact z_upd_same _ _ _ _ _
  refine X.retv i98_13 rfl t98 ?_
  show X (EE s) d 97 6 [(0, zr 4 41)] [] m502 _
  refine X.aload_n 7 i97_6 rfl rfl rfl ?_
  refine X.bipush 9 i97_7 rfl rfl (by decide) ?_
  refine X.aload_n 10 i97_9 rfl rfl rfl ?_
  refine X.getIr 13 9 i97_10 rfl rfl (by decide) rfl rfl rfl (fun h504 => ?_)
  refine X.callv 16 [zi 7, zi (m502 4 41 9)] [] [(0, zr 4 41), (1, zi 7), (2, zi (m502 4 41 9))] i97_13 rfl (by decide) rfl rfl (by omega) rfl rfl (by decide) rfl t99 (Nat.le_of_ble_eq_true rfl) (Nat.le_of_ble_eq_true rfl) rfl ?_
  refine c99_2 (B := B)  7 (m502 4 41 9) (by omega) (hJ503.up (by omega)) (by omega) (by omega) (by omega) hf16 hf19 hg4 (fun v507 m505 hv507 hFv507 hJ506 => ?_)
  show X (EE s) d 97 16 [(0, zr 4 41)] [zi v507] m505 _
  refine X.istore_n 17 [(0, zr 4 41), (1, zi v507)] i97_16 rfl rfl rfl ?_
  refine X.iload_n 18 i97_17 rfl rfl rfl ?_
  refine X.iconst 19 i97_18 rfl rfl (by decide) ?_
  refine X.icmpne 24 22 i97_19 rfl rfl rfl (fun h508 => ?_) (fun h508 => ?_)
  · refine X.aload_n 25 i97_24 rfl rfl rfl ?_
    refine X.dup 26 i97_25 rfl rfl rfl ?_
    refine X.getIr 29 9 i97_26 rfl rfl (by decide) rfl rfl rfl (fun h509 => ?_)
    refine X.iconst 30 i97_29 rfl rfl (by decide) ?_
    refine X.iload_n 31 i97_30 rfl rfl rfl ?_
    refine X.iiE 32 .ishl (fun x y => x <<< (y &&& 31)) i97_31 rfl rfl rfl (fun _ _ => rfl) (fun z510 ez510 hz510 => ?_)
    refine X.iiE 33 .ior (fun x y => x ||| y) i97_32 rfl rfl rfl (fun _ _ => rfl) (fun z511 ez511 hz511 => ?_)
    refine X.putI' 36 9 i97_33 rfl rfl (by decide) rfl rfl rfl (fun hrm512 m512 hm512 => ?_)
    have hJ513 := w41_8 hJ506 hm512 (by omega) hrm512 hf19 hg4
    refine X.iconst 37 i97_36 rfl rfl (by decide) ?_
    refine X.istore_n 38 [(0, zr 4 41), (1, zi v507), (2, zi 0)] i97_37 rfl rfl rfl ?_
    have hz8 := zfu_eq 8
    refine l97_38_1 (s := s) (d := d) (R0 := (f97_1 m))  v507  (BE := B + 0) (by omega) (by omega) (by omega) hf1 hf16 hf19 hg3 hg4 (fun y514 m515 B516 hJ517 hBB516 hby514 hR518 => ?_) (fun  m519 B520 hJ521 hBB520 hR522 => ?_) (zfu 8) 0 m512 (B) (hJ513.up (by omega)) (by omega) (by omega) (by omega) (Eq.trans (zs_eq hm502) (Eq.trans (zb_eq hFv507) (Eq.trans (if_neg h508) (Eq.trans (zn_eq ez510) (Eq.trans (zn_eq ez511) (Eq.trans (zs_eq hm512) rfl))))))
    · refine X.iconst 60 i97_59 rfl rfl (by decide) ?_
      refine X.retz i97_60 rfl t97 (by omega) ?_
      exact hQ 0 m515 (by first | trivial | omega) (Eq.trans hR518 rfl) (hJ517.up (by omega)) 
    · refine X.iconst 68 i97_67 rfl rfl (by decide) ?_
      refine X.retz i97_68 rfl t97 (by omega) ?_
      exact hQ 1 m519 (by first | trivial | omega) (Eq.trans hR522 rfl) (hJ521.up (by omega)) 
  · refine X.iconst 23 i97_22 rfl rfl (by decide) ?_
    refine X.retz i97_23 rfl t97 (by omega) ?_
    exact hQ 0 m505 (by first | trivial | omega) (Eq.trans (zs_eq hm502) (Eq.trans (zb_eq hFv507) (Eq.trans (if_pos h508) rfl))) (hJ506.up (by omega)) 
-- WorkMeter$CalendarText.readLine
noncomputable def f94_1 (m : zM) : Int × zM :=
  zn (f95_1 m) fun v503 =>
  zn (f96_1 v503 m) fun v506 =>
  if v506 = 0 then
  (zn (f96_2 v503 m) fun v510 =>
  if v510 = 0 then
  (zn (f96_3 v503 m) fun v514 =>
  if v514 = 0 then
  (zn (f96_4 v503 m) fun v518 =>
  if v518 = 0 then
  (zb (f102_1 1 (m 4 41 7) m) fun v523 m521 =>
  (v523, m521))
  else
  (zb (f110_1 m) fun v526 m524 =>
  (v526, m524)))
  else
  (zb (f107_1 m) fun v529 m527 =>
  (v529, m527)))
  else
  (zb (f106_1 m) fun v532 m530 =>
  (v532, m530)))
  else
  (zb (f97_1 m) fun v535 m533 =>
  (v535, m533))
-- WorkMeter$CalendarText.readLine
theorem c94_1 {s : Nat × (Nat → Int32)} {S : zS} {m0 m : zM} {B : Int} {d : Nat} {Q : Option zV → zM → Prop} (hd : 18 ≤ d) (hJ : J S m0 B m) (hB : B + 0 ≤ 1000000000) (hf1 : ¬ S.1 1) (hf16 : ¬ S.1 16) (hf19 : ¬ S.1 19) (hg3 : ¬ S.2.1 3) (hg4 : ¬ S.2.1 4) (hQ : ∀ (v : Int) m', (0 ≤ v ∧ v ≤ 1) → f94_1 m = (v, m') → J S m0 (B) m' → Q (some (zi v)) m') : X (EE s) d 94 0 [(0, zr 4 41)] [] m Q := by
  refine X.aload_n 1 i94_0 rfl rfl rfl ?_
  refine X.callv 4 [] [] [(0, zr 4 41)] i94_1 rfl (by decide) rfl rfl (by omega) rfl rfl (by decide) rfl t95 (Nat.le_of_ble_eq_true rfl) (Nat.le_of_ble_eq_true rfl) rfl ?_
  refine c95_1 (B := B)   (by omega) (hJ.up (by omega)) (by omega)  (fun v503 hv503 hFv503 => ?_)
  show X (EE s) d 94 4 [(0, zr 4 41)] [zi v503] m _
  refine X.istore_n 5 [(0, zr 4 41), (1, zi v503)] i94_4 rfl rfl rfl ?_
  refine X.aload_n 6 i94_5 rfl rfl rfl ?_
  refine X.ldcS 8 i94_6 rfl rfl (by decide) ?_
  refine X.iload_n 9 i94_8 rfl rfl rfl ?_
  refine X.callv 12 [zr 99 4, zi v503] [] [(0, zr 4 41), (1, zr 99 4), (2, zi v503)] i94_9 rfl (by decide) rfl rfl (by omega) rfl rfl (by decide) rfl t96 (Nat.le_of_ble_eq_true rfl) (Nat.le_of_ble_eq_true rfl) rfl ?_
  refine c96_1 (B := B)  v503 (by omega) (hJ.up (by omega)) (by omega) (by omega) (fun v506 hv506 hFv506 hqv506_0 => ?_)
  show X (EE s) d 94 12 [(0, zr 4 41), (1, zi v503)] [zi v506] m _
  refine X.ifeq 20 15 i94_12 rfl rfl rfl (fun h507 => ?_) (fun h507 => ?_)
  · refine X.aload_n 21 i94_20 rfl rfl rfl ?_
    refine X.ldcS 23 i94_21 rfl rfl (by decide) ?_
    refine X.iload_n 24 i94_23 rfl rfl rfl ?_
    refine X.callv 27 [zr 99 5, zi v503] [] [(0, zr 4 41), (1, zr 99 5), (2, zi v503)] i94_24 rfl (by decide) rfl rfl (by omega) rfl rfl (by decide) rfl t96 (Nat.le_of_ble_eq_true rfl) (Nat.le_of_ble_eq_true rfl) rfl ?_
    refine c96_2 (B := B)  v503 (by omega) (hJ.up (by omega)) (by omega) (by omega) (fun v510 hv510 hFv510 hqv510_0 => ?_)
    show X (EE s) d 94 27 [(0, zr 4 41), (1, zi v503)] [zi v510] m _
    refine X.ifeq 35 30 i94_27 rfl rfl rfl (fun h511 => ?_) (fun h511 => ?_)
    · refine X.aload_n 36 i94_35 rfl rfl rfl ?_
      refine X.ldcS 38 i94_36 rfl rfl (by decide) ?_
      refine X.iload_n 39 i94_38 rfl rfl rfl ?_
      refine X.callv 42 [zr 99 6, zi v503] [] [(0, zr 4 41), (1, zr 99 6), (2, zi v503)] i94_39 rfl (by decide) rfl rfl (by omega) rfl rfl (by decide) rfl t96 (Nat.le_of_ble_eq_true rfl) (Nat.le_of_ble_eq_true rfl) rfl ?_
      refine c96_3 (B := B)  v503 (by omega) (hJ.up (by omega)) (by omega) (by omega) (fun v514 hv514 hFv514 hqv514_0 => ?_)
      show X (EE s) d 94 42 [(0, zr 4 41), (1, zi v503)] [zi v514] m _
      refine X.ifeq 50 45 i94_42 rfl rfl rfl (fun h515 => ?_) (fun h515 => ?_)
      · refine X.aload_n 51 i94_50 rfl rfl rfl ?_
        refine X.ldcS 53 i94_51 rfl rfl (by decide) ?_
        refine X.iload_n 54 i94_53 rfl rfl rfl ?_
        refine X.callv 57 [zr 99 7, zi v503] [] [(0, zr 4 41), (1, zr 99 7), (2, zi v503)] i94_54 rfl (by decide) rfl rfl (by omega) rfl rfl (by decide) rfl t96 (Nat.le_of_ble_eq_true rfl) (Nat.le_of_ble_eq_true rfl) rfl ?_
        refine c96_4 (B := B)  v503 (by omega) (hJ.up (by omega)) (by omega) (by omega) (fun v518 hv518 hFv518 hqv518_0 => ?_)
        show X (EE s) d 94 57 [(0, zr 4 41), (1, zi v503)] [zi v518] m _
        refine X.ifeq 65 60 i94_57 rfl rfl rfl (fun h519 => ?_) (fun h519 => ?_)
        · refine X.cut [(0, zr 4 41)] i94_65 rfl ?_
          refine X.aload_n 66 i94_65 rfl rfl rfl ?_
          refine X.iconst 67 i94_66 rfl rfl (by decide) ?_
          refine X.aload_n 68 i94_67 rfl rfl rfl ?_
          refine X.getI 71 7 i94_68 rfl rfl (by decide) rfl rfl rfl ?_
          have h520 := r41_7 hJ 4
          refine X.callv 74 [zi 1, zi (m 4 41 7)] [] [(0, zr 4 41), (1, zi 1), (2, zi (m 4 41 7))] i94_71 rfl (by decide) rfl rfl (by omega) rfl rfl (by decide) rfl t102 (Nat.le_of_ble_eq_true rfl) (Nat.le_of_ble_eq_true rfl) rfl ?_
          refine c102_1 (B := B)  1 (m 4 41 7) (by omega) (hJ.up (by omega)) (by omega) (by omega) (by omega) hf16 hg4 (fun v523 m521 hv523 hFv523 hJ522 => ?_)
          show X (EE s) d 94 74 [(0, zr 4 41)] [zi v523] m521 _
          refine X.retz i94_74 rfl t94 (by omega) ?_
          exact hQ v523 m521 (by first | trivial | omega) (Eq.trans (zn_eq hFv503.symm) (Eq.trans (zn_eq hFv506.symm) (Eq.trans (if_pos h507) (Eq.trans (zn_eq hFv510.symm) (Eq.trans (if_pos h511) (Eq.trans (zn_eq hFv514.symm) (Eq.trans (if_pos h515) (Eq.trans (zn_eq hFv518.symm) (Eq.trans (if_pos h519) (Eq.trans (zb_eq hFv523) rfl)))))))))) (hJ522.up (by omega)) 
        · refine X.aload_n 61 i94_60 rfl rfl rfl ?_
          refine X.callv 64 [] [] [(0, zr 4 41)] i94_61 rfl (by decide) rfl rfl (by omega) rfl rfl (by decide) rfl t110 (Nat.le_of_ble_eq_true rfl) (Nat.le_of_ble_eq_true rfl) rfl ?_
          refine c110_1 (B := B)   (by omega) (hJ.up (by omega)) (by omega) (by omega) hf16 hf19 hg4 (fun v526 m524 hv526 hFv526 hJ525 => ?_)
          show X (EE s) d 94 64 [(0, zr 4 41), (1, zi v503)] [zi v526] m524 _
          refine X.retz i94_64 rfl t94 (by omega) ?_
          exact hQ v526 m524 (by first | trivial | omega) (Eq.trans (zn_eq hFv503.symm) (Eq.trans (zn_eq hFv506.symm) (Eq.trans (if_pos h507) (Eq.trans (zn_eq hFv510.symm) (Eq.trans (if_pos h511) (Eq.trans (zn_eq hFv514.symm) (Eq.trans (if_pos h515) (Eq.trans (zn_eq hFv518.symm) (Eq.trans (if_neg h519) (Eq.trans (zb_eq hFv526) rfl)))))))))) (hJ525.up (by omega)) 
      · refine X.aload_n 46 i94_45 rfl rfl rfl ?_
        refine X.callv 49 [] [] [(0, zr 4 41)] i94_46 rfl (by decide) rfl rfl (by omega) rfl rfl (by decide) rfl t107 (Nat.le_of_ble_eq_true rfl) (Nat.le_of_ble_eq_true rfl) rfl ?_
        refine c107_1 (B := B)   (by omega) (hJ.up (by omega)) (by omega) (by omega) hf1 hf16 hf19 hg3 hg4 (fun v529 m527 hv529 hFv529 hJ528 => ?_)
        show X (EE s) d 94 49 [(0, zr 4 41), (1, zi v503)] [zi v529] m527 _
        refine X.retz i94_49 rfl t94 (by omega) ?_
        exact hQ v529 m527 (by first | trivial | omega) (Eq.trans (zn_eq hFv503.symm) (Eq.trans (zn_eq hFv506.symm) (Eq.trans (if_pos h507) (Eq.trans (zn_eq hFv510.symm) (Eq.trans (if_pos h511) (Eq.trans (zn_eq hFv514.symm) (Eq.trans (if_neg h515) (Eq.trans (zb_eq hFv529) rfl)))))))) (hJ528.up (by omega)) 
    · refine X.aload_n 31 i94_30 rfl rfl rfl ?_
      refine X.callv 34 [] [] [(0, zr 4 41)] i94_31 rfl (by decide) rfl rfl (by omega) rfl rfl (by decide) rfl t106 (Nat.le_of_ble_eq_true rfl) (Nat.le_of_ble_eq_true rfl) rfl ?_
      refine c106_1 (B := B)   (by omega) (hJ.up (by omega)) (by omega) (by omega) hf1 hf16 hf19 hg3 hg4 (fun v532 m530 hv532 hFv532 hJ531 => ?_)
      show X (EE s) d 94 34 [(0, zr 4 41), (1, zi v503)] [zi v532] m530 _
      refine X.retz i94_34 rfl t94 (by omega) ?_
      exact hQ v532 m530 (by first | trivial | omega) (Eq.trans (zn_eq hFv503.symm) (Eq.trans (zn_eq hFv506.symm) (Eq.trans (if_pos h507) (Eq.trans (zn_eq hFv510.symm) (Eq.trans (if_neg h511) (Eq.trans (zb_eq hFv532) rfl)))))) (hJ531.up (by omega)) 
  · refine X.aload_n 16 i94_15 rfl rfl rfl ?_
    refine X.callv 19 [] [] [(0, zr 4 41)] i94_16 rfl (by decide) rfl rfl (by omega) rfl rfl (by decide) rfl t97 (Nat.le_of_ble_eq_true rfl) (Nat.le_of_ble_eq_true rfl) rfl ?_
    refine c97_1 (B := B)   (by omega) (hJ.up (by omega)) (by omega) (by omega) hf1 hf16 hf19 hg3 hg4 (fun v535 m533 hv535 hFv535 hJ534 => ?_)
    show X (EE s) d 94 19 [(0, zr 4 41), (1, zi v503)] [zi v535] m533 _
    refine X.retz i94_19 rfl t94 (by omega) ?_
    exact hQ v535 m533 (by first | trivial | omega) (Eq.trans (zn_eq hFv503.symm) (Eq.trans (zn_eq hFv506.symm) (Eq.trans (if_neg h507) (Eq.trans (zb_eq hFv535) rfl)))) (hJ534.up (by omega)) 
-- WorkMeter$CalendarText.readSign
theorem c105_2 {s : Nat × (Nat → Int32)} {S : zS} {m0 m : zM} {B : Int} {d : Nat} {Q : Option zV → zM → Prop} (a1 : Int) (hd : 14 ≤ d) (hJ : J S m0 B m) (hB : B + 0 ≤ 1000000000) (ha1 : 59 ≤ a1 ∧ a1 ≤ 59) (hf16 : ¬ S.1 16) (hf19 : ¬ S.1 19) (hg4 : ¬ S.2.1 4) (hQ : ∀ (v : Int) m', (0 ≤ v ∧ v ≤ 1) → f105_1 a1 m = (v, m') → J S m0 (B) m' → Q (some (zi v)) m') : X (EE s) d 105 0 [(0, zr 4 41), (1, zi a1)] [] m Q := by
  refine X.aload_n 1 i105_0 rfl rfl rfl ?_
  refine X.callv 4 [] [] [(0, zr 4 41)] i105_1 rfl (by decide) rfl rfl (by omega) rfl rfl (by decide) rfl t93 (Nat.le_of_ble_eq_true rfl) (Nat.le_of_ble_eq_true rfl) rfl ?_
  refine c93_1 (B := B)   (by omega) (hJ.up (by omega)) (by omega)  hf19 hg4 (fun m501 hFv503 hJ502 => ?_)
  show X (EE s) d 105 4 [(0, zr 4 41), (1, zi a1)] [] m501 _
  refine X.aload_n 5 i105_4 rfl rfl rfl ?_
  refine X.getI 8 7 i105_5 rfl rfl (by decide) rfl rfl rfl ?_
  have h504 := r41_7 hJ502 4
  refine X.aload_n 9 i105_8 rfl rfl rfl ?_
  refine X.getI 12 3 i105_9 rfl rfl (by decide) rfl rfl rfl ?_
  have h505 := r41_3 hJ502 4
  refine X.icmpge 28 15 i105_12 rfl rfl rfl (fun h506 => ?_) (fun h506 => ?_)
  · refine X.cut [(0, zr 4 41)] i105_28 rfl ?_
    refine X.aload_n 29 i105_28 rfl rfl rfl ?_
    refine X.iconst 30 i105_29 rfl rfl (by decide) ?_
    refine X.aload_n 31 i105_30 rfl rfl rfl ?_
    refine X.getI 34 7 i105_31 rfl rfl (by decide) rfl rfl rfl ?_
    refine X.callv 37 [zi 1, zi (m501 4 41 7)] [] [(0, zr 4 41), (1, zi 1), (2, zi (m501 4 41 7))] i105_34 rfl (by decide) rfl rfl (by omega) rfl rfl (by decide) rfl t102 (Nat.le_of_ble_eq_true rfl) (Nat.le_of_ble_eq_true rfl) rfl ?_
    refine c102_1 (B := B)  1 (m501 4 41 7) (by omega) (hJ502.up (by omega)) (by omega) (by omega) (by omega) hf16 hg4 (fun v509 m507 hv509 hFv509 hJ508 => ?_)
    show X (EE s) d 105 37 [(0, zr 4 41)] [zi v509] m507 _
    refine X.retz i105_37 rfl t105 (by omega) ?_
    exact hQ v509 m507 (by first | trivial | omega) (Eq.trans (zs_eq hFv503.symm) (Eq.trans (if_pos h506) (Eq.trans (zb_eq hFv509) rfl))) (hJ508.up (by omega)) 
  · refine X.aload_n 16 i105_15 rfl rfl rfl ?_
    refine X.getF 19 i105_16 rfl rfl (by decide) rfl rfl ?_
    refine X.aload_n 20 i105_19 rfl rfl rfl ?_
    refine X.getI 23 7 i105_20 rfl rfl (by decide) rfl rfl rfl ?_
    refine X.iald 24 i105_23 rfl rfl (by decide) rfl (by omega) ?_
    have h510 := r42_0 hJ502 4 (i := (m501 4 41 7)) (by omega)
    refine X.iload_n 25 i105_24 rfl rfl rfl ?_
    refine X.icmpeq 38 28 i105_25 rfl rfl rfl (fun h511 => ?_) (fun h511 => ?_)
    · refine X.cut [(0, zr 4 41)] i105_38 rfl ?_
      refine X.aload_n 39 i105_38 rfl rfl rfl ?_
      refine X.dup 40 i105_39 rfl rfl rfl ?_
      refine X.getI 43 7 i105_40 rfl rfl (by decide) rfl rfl rfl ?_
      refine X.iconst 44 i105_43 rfl rfl (by decide) ?_
      refine X.iadd 45 i105_44 rfl rfl (by omega) ?_
      refine X.putI' 48 7 i105_45 rfl rfl (by decide) rfl rfl rfl (fun hrm512 m512 hm512 => ?_)
      have hJ513 := w41_7 hJ502 hm512 (by omega) hf19 hg4
      have em512 : m512 4 41 7 = ((m501 4 41 7) + 1) := by rw [hm512]; exact z_upd_same _ _ _ _ _
      refine X.iconst 49 i105_48 rfl rfl (by decide) ?_
      refine X.retz i105_49 rfl t105 (by omega) ?_
      exact hQ 1 m512 (by first | trivial | omega) (Eq.trans (zs_eq hFv503.symm) (Eq.trans (if_neg h506) (Eq.trans (if_pos h511) (Eq.trans (zs_eq hm512) rfl)))) (hJ513.up (by omega)) 
    · refine X.cut [(0, zr 4 41)] i105_28 rfl ?_
      refine X.aload_n 29 i105_28 rfl rfl rfl ?_
      refine X.iconst 30 i105_29 rfl rfl (by decide) ?_
      refine X.aload_n 31 i105_30 rfl rfl rfl ?_
      refine X.getI 34 7 i105_31 rfl rfl (by decide) rfl rfl rfl ?_
      refine X.callv 37 [zi 1, zi (m501 4 41 7)] [] [(0, zr 4 41), (1, zi 1), (2, zi (m501 4 41 7))] i105_34 rfl (by decide) rfl rfl (by omega) rfl rfl (by decide) rfl t102 (Nat.le_of_ble_eq_true rfl) (Nat.le_of_ble_eq_true rfl) rfl ?_
      refine c102_1 (B := B)  1 (m501 4 41 7) (by omega) (hJ502.up (by omega)) (by omega) (by omega) (by omega) hf16 hg4 (fun v516 m514 hv516 hFv516 hJ515 => ?_)
      show X (EE s) d 105 37 [(0, zr 4 41)] [zi v516] m514 _
      refine X.retz i105_37 rfl t105 (by omega) ?_
      exact hQ v516 m514 (by first | trivial | omega) (Eq.trans (zs_eq hFv503.symm) (Eq.trans (if_neg h506) (Eq.trans (if_neg h511) (Eq.trans (zb_eq hFv516) rfl)))) (hJ515.up (by omega)) 
noncomputable def fl92_45_1_b (self : Int → Int → zM → Int × zM) (k99 : Int → zM → Int × zM) (y1 y2 : Int) (m : zM) : Int × zM :=
  if 300 < y2 then
  (k99 y1 m)
  else
  (if (m 4 41 3) ≤ (m 4 41 7) then
  (k99 y1 m)
  else
  (if (m 4 41 4) = 0 then
  (zb (f94_1 m) fun v531 m529 =>
  zb (if v531 = 0 then
  ((y1, m529))
  else
  (zb (f105_1 59 m529) fun v535 m533 =>
  if v535 = 0 then
  ((y1, m533))
  else
  (zs (f93_1 m533) fun m537 =>
  ((y1 + 1), m537)))) fun v540 m541 =>
  self v540 (y2 + 1) m541)
  else
  (k99 y1 m)))
noncomputable def fl92_45_1 (k99 : Int → zM → Int × zM) : Nat → Int → Int → zM → Int × zM
  | 0 => fun y1 y2 m => (0, m)
  | n + 1 => fl92_45_1_b (fl92_45_1 k99 n) k99
theorem l92_45_1 {s : Nat × (Nat → Int32)} {S : zS} {m0 : zM} {d : Nat} {Q : Option zV → zM → Prop} {R0 : Int × zM} {k99 : Int → zM → Int × zM} (BE : Int) (hE : BE ≤ 1000000000) (hd : 19 ≤ d) (hf1 : ¬ S.1 1) (hf16 : ¬ S.1 16) (hf19 : ¬ S.1 19) (hg3 : ¬ S.2.1 3) (hg4 : ¬ S.2.1 4)
    (K99 : ∀ (x1 : Int) (m' : zM) (B' : Int), J S m0 B' m' → B' ≤ BE → (0 ≤ x1 ∧ x1 ≤ 301) → R0 = k99 x1 m' → X (EE s) d 92 99 [(0, zr 4 41), (1, zi x1)] [] m' Q) :
    ∀ (n : Nat) (y1 y2 : Int) (m : zM) (B : Int), J S m0 B m → B + 0 * (n : Int) ≤ BE → (0 ≤ y1 ∧ y1 ≤ 301) → (0 ≤ y2 ∧ y2 ≤ 301) → (y1 ≤ y2) → 301 - y2 < (n : Int) → R0 = fl92_45_1 k99 n y1 y2 m → X (EE s) d 92 45 [(0, zr 4 41), (1, zi y1), (2, zi y2)] [] m Q := by
  intro n
  induction n with
  | zero =>
    intro y1 y2 m B hJ hB hy1 hy2 hr0 hn hR
    exfalso
    omega
  | succ n ih =>
    intro y1 y2 m B hJ hB hy1 hy2 hr0 hn hR
    replace hR : R0 = fl92_45_1_b (fl92_45_1 k99 n) k99 y1 y2 m := hR
    refine X.iload_n 46 i92_45 rfl rfl rfl ?_
    refine X.sipush 49 i92_46 rfl rfl (by decide) ?_
    refine X.icmpgt 99 52 i92_49 rfl rfl rfl (fun h523 => ?_) (fun h523 => ?_)
    · refine X.cut [(0, zr 4 41), (1, zi y1)] i92_99 rfl ?_
      exact K99 y1 m (B) (hJ.up (by omega)) (by omega) (by first | trivial | omega) (Eq.trans hR (Eq.trans (if_pos h523) rfl))
    · refine X.aload_n 53 i92_52 rfl rfl rfl ?_
      refine X.getI 56 7 i92_53 rfl rfl (by decide) rfl rfl rfl ?_
      have h524 := r41_7 hJ 4
      refine X.aload_n 57 i92_56 rfl rfl rfl ?_
      refine X.getI 60 3 i92_57 rfl rfl (by decide) rfl rfl rfl ?_
      have h525 := r41_3 hJ 4
      refine X.icmpge 99 63 i92_60 rfl rfl rfl (fun h526 => ?_) (fun h526 => ?_)
      · refine X.cut [(0, zr 4 41), (1, zi y1)] i92_99 rfl ?_
        exact K99 y1 m (B) (hJ.up (by omega)) (by omega) (by first | trivial | omega) (Eq.trans hR (Eq.trans (if_neg h523) (Eq.trans (if_pos h526) rfl)))
      · refine X.aload_n 64 i92_63 rfl rfl rfl ?_
        refine X.getIr 67 4 i92_64 rfl rfl (by decide) rfl rfl rfl (fun h527 => ?_)
        refine X.ifne 99 70 i92_67 rfl rfl rfl (fun h528 => ?_) (fun h528 => ?_)
        · refine X.cut [(0, zr 4 41), (1, zi y1)] i92_99 rfl ?_
          exact K99 y1 m (B) (hJ.up (by omega)) (by omega) (by first | trivial | omega) (Eq.trans hR (Eq.trans (if_neg h523) (Eq.trans (if_neg h526) (Eq.trans (if_neg h528) rfl))))
        · refine X.aload_n 71 i92_70 rfl rfl rfl ?_
          refine X.callv 74 [] [] [(0, zr 4 41)] i92_71 rfl (by decide) rfl rfl (by omega) rfl rfl (by decide) rfl t94 (Nat.le_of_ble_eq_true rfl) (Nat.le_of_ble_eq_true rfl) rfl ?_
          refine c94_1 (B := B)   (by omega) (hJ.up (by omega)) (by omega)  hf1 hf16 hf19 hg3 hg4 (fun v531 m529 hv531 hFv531 hJ530 => ?_)
          show X (EE s) d 92 74 [(0, zr 4 41), (1, zi y1), (2, zi y2)] [zi v531] m529 _
          have hK543 : ∀ (v : Int) (m' : zM), (0 ≤ v ∧ v ≤ 302) → (if v531 = 0 then
              ((y1, m529))
              else
              (zb (f105_1 59 m529) fun v535 m533 =>
              if v535 = 0 then
              ((y1, m533))
              else
              (zs (f93_1 m533) fun m537 =>
              ((y1 + 1), m537)))) = (v, m') → J S m0 (B) m' → X (EE s) d 92 93 [(0, zr 4 41), (1, zi v), (2, zi y2)] [] m' Q := by
            intro v540 m541 hv540 hT544 hJ542
            refine X.iinc 96 [(0, zr 4 41), (1, zi v540), (2, zi (y2 + 1))] i92_93 rfl rfl rfl (by omega) rfl ?_
            refine X.goto 45 i92_96 rfl rfl ?_
            exact ih v540 (y2 + 1) m541 (B) (hJ542.up (by omega)) (by omega) (by omega) (by omega) (by omega) (by omega) (Eq.trans hR (Eq.trans (if_neg h523) (Eq.trans (if_neg h526) (Eq.trans (if_pos h528) (Eq.trans (zb_eq hFv531) (Eq.trans (zb_eq hT544) rfl))))))
          refine X.ifeq 93 77 i92_74 rfl rfl rfl (fun h532 => ?_) (fun h532 => ?_)
          · exact hK543 y1 m529 (by first | trivial | omega) (Eq.trans (if_pos h532) rfl) (hJ530.up (by omega))
          · refine X.aload_n 78 i92_77 rfl rfl rfl ?_
            refine X.bipush 80 i92_78 rfl rfl (by decide) ?_
            refine X.callv 83 [zi 59] [] [(0, zr 4 41), (1, zi 59)] i92_80 rfl (by decide) rfl rfl (by omega) rfl rfl (by decide) rfl t105 (Nat.le_of_ble_eq_true rfl) (Nat.le_of_ble_eq_true rfl) rfl ?_
            refine c105_2 (B := B)  59 (by omega) (hJ530.up (by omega)) (by omega) (by omega) hf16 hf19 hg4 (fun v535 m533 hv535 hFv535 hJ534 => ?_)
            show X (EE s) d 92 83 [(0, zr 4 41), (1, zi y1), (2, zi y2)] [zi v535] m533 _
            refine X.ifeq 93 86 i92_83 rfl rfl rfl (fun h536 => ?_) (fun h536 => ?_)
            · exact hK543 y1 m533 (by first | trivial | omega) (Eq.trans (if_neg h532) (Eq.trans (zb_eq hFv535) (Eq.trans (if_pos h536) rfl))) (hJ534.up (by omega))
            · refine X.iinc 89 [(0, zr 4 41), (1, zi (y1 + 1)), (2, zi y2)] i92_86 rfl rfl rfl (by omega) rfl ?_
              refine X.aload_n 90 i92_89 rfl rfl rfl ?_
              refine X.callv 93 [] [] [(0, zr 4 41)] i92_90 rfl (by decide) rfl rfl (by omega) rfl rfl (by decide) rfl t93 (Nat.le_of_ble_eq_true rfl) (Nat.le_of_ble_eq_true rfl) rfl ?_
              refine c93_1 (B := B)   (by omega) (hJ534.up (by omega)) (by omega)  hf19 hg4 (fun m537 hFv539 hJ538 => ?_)
              show X (EE s) d 92 93 [(0, zr 4 41), (1, zi (y1 + 1)), (2, zi y2)] [] m537 _
              exact hK543 (y1 + 1) m537 (by first | trivial | omega) (Eq.trans (if_neg h532) (Eq.trans (zb_eq hFv535) (Eq.trans (if_neg h536) (Eq.trans (zs_eq hFv539.symm) rfl)))) (hJ538.up (by omega))
-- WorkMeter$CalendarText.readAll
noncomputable def f92_1 (m : zM) : Int × zM :=
  zs (f4_1 3 m) fun m501 =>
  zs (z_upd m501 4 41 4 0) fun m504 =>
  zs (z_upd m504 4 41 5 (-1)) fun m506 =>
  zs (z_upd m506 4 41 6 0) fun m508 =>
  zs (z_upd m508 4 41 7 0) fun m510 =>
  zs (z_upd m510 4 41 9 0) fun m512 =>
  zs (z_upd m512 4 41 10 0) fun m514 =>
  zs (f93_1 m514) fun m516 =>
  fl92_45_1 (fun y519 m520 =>
  zs (z_upd m520 4 41 3 0) fun m524 =>
  zn (if (m524 4 41 4) = 0 then
  (y519)
  else
  ((-1))) fun v528 =>
  (v528, m524)) (zfu 302) 0 0 m516
-- WorkMeter$CalendarText.readAll
theorem c92_1 {s : Nat × (Nat → Int32)} {S : zS} {m0 m : zM} {B : Int} {d : Nat} {Q : Option zV → zM → Prop} (hd : 19 ≤ d) (hJ : J S m0 B m) (hB : B + 0 ≤ 1000000000) (hf1 : ¬ S.1 1) (hf15 : ¬ S.1 15) (hf16 : ¬ S.1 16) (hf19 : ¬ S.1 19) (hg3 : ¬ S.2.1 3) (hg4 : ¬ S.2.1 4) (hQ : ∀ (v : Int) m', ((-1) ≤ v ∧ v ≤ 301) → f92_1 m = (v, m') → J S m0 (B) m' → Q (some (zi v)) m') : X (EE s) d 92 0 [(0, zr 4 41)] [] m Q := by
  refine X.aload_n 1 i92_0 rfl rfl rfl ?_
  refine X.getF 4 i92_1 rfl rfl (by decide) rfl rfl ?_
  refine X.callv 7 [] [] [(0, zr 3 11)] i92_4 rfl (by decide) rfl rfl (by omega) rfl rfl (by decide) rfl t4 (Nat.le_of_ble_eq_true rfl) (Nat.le_of_ble_eq_true rfl) rfl ?_
  refine c4_1 (B := B) 3  (by omega) (hJ.up (by omega)) (by omega)  hf1 hg3 (fun m501 hFv503 hJ502 => ?_)
  show X (EE s) d 92 7 [(0, zr 4 41)] [] m501 _
  refine X.aload_n 8 i92_7 rfl rfl rfl ?_
  refine X.iconst 9 i92_8 rfl rfl (by decide) ?_
  refine X.putI' 12 4 i92_9 rfl rfl (by decide) rfl rfl rfl (fun hrm504 m504 hm504 => ?_)
  have hJ505 := w41_4 hJ502 hm504 (by omega) hrm504 hf16 hg4
  refine X.aload_n 13 i92_12 rfl rfl rfl ?_
  refine X.iconst 14 i92_13 rfl rfl (by decide) ?_
  refine X.putI' 17 5 i92_14 rfl rfl (by decide) rfl rfl rfl (fun hrm506 m506 hm506 => ?_)
  have hJ507 := w41_4 hJ505 hm506 (by omega) hrm506 hf16 hg4
  refine X.aload_n 18 i92_17 rfl rfl rfl ?_
  refine X.iconst 19 i92_18 rfl rfl (by decide) ?_
  refine X.putZ' 22 6 i92_19 rfl rfl (by decide) rfl rfl rfl (by omega) (fun hrm508 m508 hm508 => ?_)
  have hJ509 := w41_6 hJ507 hm508 (by omega) hf19 hg4
  refine X.aload_n 23 i92_22 rfl rfl rfl ?_
  refine X.iconst 24 i92_23 rfl rfl (by decide) ?_
  refine X.putI' 27 7 i92_24 rfl rfl (by decide) rfl rfl rfl (fun hrm510 m510 hm510 => ?_)
  have hJ511 := w41_7 hJ509 hm510 (by omega) hf19 hg4
  have em510 : m510 4 41 7 = 0 := by rw [hm510]; exact z_upd_same _ _ _ _ _
  refine X.aload_n 28 i92_27 rfl rfl rfl ?_
  refine X.iconst 29 i92_28 rfl rfl (by decide) ?_
  refine X.putI' 32 9 i92_29 rfl rfl (by decide) rfl rfl rfl (fun hrm512 m512 hm512 => ?_)
  have hJ513 := w41_8 hJ511 hm512 (by omega) hrm512 hf19 hg4
  refine X.aload_n 33 i92_32 rfl rfl rfl ?_
  refine X.iconst 34 i92_33 rfl rfl (by decide) ?_
  refine X.putI' 37 10 i92_34 rfl rfl (by decide) rfl rfl rfl (fun hrm514 m514 hm514 => ?_)
  have hJ515 := w41_8 hJ513 hm514 (by omega) hrm514 hf19 hg4
  refine X.iconst 38 i92_37 rfl rfl (by decide) ?_
  refine X.istore_n 39 [(0, zr 4 41), (1, zi 0)] i92_38 rfl rfl rfl ?_
  refine X.aload_n 40 i92_39 rfl rfl rfl ?_
  refine X.callv 43 [] [] [(0, zr 4 41)] i92_40 rfl (by decide) rfl rfl (by omega) rfl rfl (by decide) rfl t93 (Nat.le_of_ble_eq_true rfl) (Nat.le_of_ble_eq_true rfl) rfl ?_
  refine c93_1 (B := B)   (by omega) (hJ515.up (by omega)) (by omega)  hf19 hg4 (fun m516 hFv518 hJ517 => ?_)
  show X (EE s) d 92 43 [(0, zr 4 41), (1, zi 0)] [] m516 _
  refine X.iconst 44 i92_43 rfl rfl (by decide) ?_
  refine X.istore_n 45 [(0, zr 4 41), (1, zi 0), (2, zi 0)] i92_44 rfl rfl rfl ?_
  have hz302 := zfu_eq 302
  refine l92_45_1 (s := s) (d := d) (R0 := (f92_1 m))    (BE := B + 0) (by omega) (by omega) hf1 hf16 hf19 hg3 hg4 (fun y519 m520 B521 hJ522 hBB521 hby519 hR523 => ?_) (zfu 302) 0 0 m516 (B) (hJ517.up (by omega)) (by omega) (by omega) (by omega) (by omega) (by omega) (Eq.trans (zs_eq hFv503.symm) (Eq.trans (zs_eq hm504) (Eq.trans (zs_eq hm506) (Eq.trans (zs_eq hm508) (Eq.trans (zs_eq hm510) (Eq.trans (zs_eq hm512) (Eq.trans (zs_eq hm514) (Eq.trans (zs_eq hFv518.symm) rfl))))))))
  refine X.aload_n 100 i92_99 rfl rfl rfl ?_
  refine X.iconst 101 i92_100 rfl rfl (by decide) ?_
  refine X.putI' 104 3 i92_101 rfl rfl (by decide) rfl rfl rfl (fun hrm524 m524 hm524 => ?_)
  have hJ525 := w41_3 hJ522 hm524 (by omega) hf15 hg4
  have em524 : m524 4 41 3 = 0 := by rw [hm524]; exact z_upd_same _ _ _ _ _
  refine X.aload_n 105 i92_104 rfl rfl rfl ?_
  refine X.getIr 108 4 i92_105 rfl rfl (by decide) rfl rfl rfl (fun h526 => ?_)
  have hK531 : ∀ (v : Int) , ((-1) ≤ v ∧ v ≤ 301) → (if (m524 4 41 4) = 0 then
      (y519)
      else
      ((-1))) = v → X (EE s) d 92 116 [] [zi v] m524 Q := by
    intro v528 hv528 hT532
    refine X.reti i92_116 rfl t92 ?_
    exact hQ v528 m524 (by first | trivial | omega) (Eq.trans hR523 (Eq.trans (zs_eq hm524) (Eq.trans (zn_eq hT532.symm) rfl))) (hJ525.up (by omega)) 
  refine X.ifne 115 111 i92_108 rfl rfl rfl (fun h527 => ?_) (fun h527 => ?_)
  · refine X.cut [] i92_115 rfl ?_
    refine X.iconst 116 i92_115 rfl rfl (by decide) ?_
    exact hK531 (-1) (by first | trivial | omega) (Eq.trans (if_neg h527) rfl)
  · refine X.iload_n 112 i92_111 rfl rfl rfl ?_
    refine X.goto 116 i92_112 rfl rfl ?_
    refine X.cut [] i92_116 rfl ?_
    exact hK531 y519 (by first | trivial | omega) (Eq.trans (if_pos h527) rfl)
-- WorkMeter$Calendar.copyFrom
noncomputable def f111_1 (g0 g1 : Nat) (m : zM) : zM :=
  zs (z_cpy m g0 12 g1 12 0 0 8) fun m501 =>
  zs (z_cpy m501 g0 13 g1 13 0 0 48) fun m503 =>
  zs (z_cpy m503 g0 14 g1 14 0 0 48) fun m505 =>
  zs (z_cpy m505 g0 15 g1 15 0 0 4) fun m507 =>
  zs (z_cpy m507 g0 16 g1 16 0 0 28) fun m509 =>
  zs (z_cpy m509 g0 17 g1 17 0 0 16) fun m511 =>
  zs (z_cpy m511 g0 18 g1 18 0 0 16) fun m513 =>
  zs (z_upd m513 g0 11 7 (m513 g1 11 7)) fun m516 =>
  m516
