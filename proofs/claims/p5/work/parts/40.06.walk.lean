-- WorkMeter$Settings.placeOf
noncomputable def f76_1 (a0 : Int) (m : zM) : Int :=
  if a0 < 0 then
  ((-1))
  else
  (if 5 < a0 then
  (if a0 < 10 then
  ((-1))
  else
  (if 14 ≤ a0 then
  (if a0 < 20 then
  ((-1))
  else
  (if 22 < a0 then
  ((-1))
  else
  (((a0 - 20) + 10))))
  else
  (((a0 - 10) + 6))))
  else
  (a0))
-- WorkMeter$Settings.placeOf
theorem c76_1 {s : Nat × (Nat → Int32)} {S : zS} {m0 m : zM} {B : Int} {d : Nat} {Q : Option zV → zM → Prop} (a0 : Int) (hd : 13 ≤ d) (hJ : J S m0 B m) (hB : B + 0 ≤ 1000000000) (ha0 : (-2147483648) ≤ a0 ∧ a0 ≤ 2147483647) (hQ : ∀ (v : Int), ((-1) ≤ v ∧ v ≤ 12) → f76_1 a0 m = v → (a0 = 5 → v = 5) → (v = 5 → a0 = 5) → Q (some (zi v)) m) : X (EE s) d 76 0 [(0, zi a0)] [] m Q := by
  refine X.iload_n 1 i76_0 rfl rfl rfl ?_
  refine X.iflt 11 4 i76_1 rfl rfl rfl (fun h501 => ?_) (fun h501 => ?_)
  · refine X.iload_n 12 i76_11 rfl rfl rfl ?_
    refine X.bipush 14 i76_12 rfl rfl (by decide) ?_
    refine X.icmplt 31 17 i76_14 rfl rfl rfl (fun h502 => ?_) (fun h502 => (by exfalso; omega))
    refine X.iload_n 32 i76_31 rfl rfl rfl ?_
    refine X.bipush 34 i76_32 rfl rfl (by decide) ?_
    refine X.icmplt 51 37 i76_34 rfl rfl rfl (fun h503 => ?_) (fun h503 => (by exfalso; omega))
    refine X.cut [] i76_51 rfl ?_
    refine X.iconst 52 i76_51 rfl rfl (by decide) ?_
    refine X.reti i76_52 rfl t76 ?_
    exact hQ (-1) (by first | trivial | omega) (Eq.trans (if_pos h501) rfl) (by omega) (by omega)
  · refine X.iload_n 5 i76_4 rfl rfl rfl ?_
    refine X.iconst 6 i76_5 rfl rfl (by decide) ?_
    refine X.icmpgt 11 9 i76_6 rfl rfl rfl (fun h504 => ?_) (fun h504 => ?_)
    · refine X.iload_n 12 i76_11 rfl rfl rfl ?_
      refine X.bipush 14 i76_12 rfl rfl (by decide) ?_
      refine X.icmplt 31 17 i76_14 rfl rfl rfl (fun h505 => ?_) (fun h505 => ?_)
      · refine X.iload_n 32 i76_31 rfl rfl rfl ?_
        refine X.bipush 34 i76_32 rfl rfl (by decide) ?_
        refine X.icmplt 51 37 i76_34 rfl rfl rfl (fun h506 => ?_) (fun h506 => (by exfalso; omega))
        refine X.cut [] i76_51 rfl ?_
        refine X.iconst 52 i76_51 rfl rfl (by decide) ?_
        refine X.reti i76_52 rfl t76 ?_
        exact hQ (-1) (by first | trivial | omega) (Eq.trans (if_neg h501) (Eq.trans (if_pos h504) (Eq.trans (if_pos h505) rfl))) (by omega) (by omega)
      · refine X.iload_n 18 i76_17 rfl rfl rfl ?_
        refine X.bipush 20 i76_18 rfl rfl (by decide) ?_
        refine X.icmpge 31 23 i76_20 rfl rfl rfl (fun h507 => ?_) (fun h507 => ?_)
        · refine X.iload_n 32 i76_31 rfl rfl rfl ?_
          refine X.bipush 34 i76_32 rfl rfl (by decide) ?_
          refine X.icmplt 51 37 i76_34 rfl rfl rfl (fun h508 => ?_) (fun h508 => ?_)
          · refine X.cut [] i76_51 rfl ?_
            refine X.iconst 52 i76_51 rfl rfl (by decide) ?_
            refine X.reti i76_52 rfl t76 ?_
            exact hQ (-1) (by first | trivial | omega) (Eq.trans (if_neg h501) (Eq.trans (if_pos h504) (Eq.trans (if_neg h505) (Eq.trans (if_pos h507) (Eq.trans (if_pos h508) rfl))))) (by omega) (by omega)
          · refine X.iload_n 38 i76_37 rfl rfl rfl ?_
            refine X.bipush 40 i76_38 rfl rfl (by decide) ?_
            refine X.icmpgt 51 43 i76_40 rfl rfl rfl (fun h509 => ?_) (fun h509 => ?_)
            · refine X.cut [] i76_51 rfl ?_
              refine X.iconst 52 i76_51 rfl rfl (by decide) ?_
              refine X.reti i76_52 rfl t76 ?_
              exact hQ (-1) (by first | trivial | omega) (Eq.trans (if_neg h501) (Eq.trans (if_pos h504) (Eq.trans (if_neg h505) (Eq.trans (if_pos h507) (Eq.trans (if_neg h508) (Eq.trans (if_pos h509) rfl)))))) (by omega) (by omega)
            · refine X.iload_n 44 i76_43 rfl rfl rfl ?_
              refine X.bipush 46 i76_44 rfl rfl (by decide) ?_
              refine X.isub 47 i76_46 rfl rfl (by omega) ?_
              refine X.bipush 49 i76_47 rfl rfl (by decide) ?_
              refine X.iadd 50 i76_49 rfl rfl (by omega) ?_
              refine X.reti i76_50 rfl t76 ?_
              exact hQ ((a0 - 20) + 10) (by first | trivial | omega) (Eq.trans (if_neg h501) (Eq.trans (if_pos h504) (Eq.trans (if_neg h505) (Eq.trans (if_pos h507) (Eq.trans (if_neg h508) (Eq.trans (if_neg h509) rfl)))))) (by omega) (by omega)
        · refine X.iload_n 24 i76_23 rfl rfl rfl ?_
          refine X.bipush 26 i76_24 rfl rfl (by decide) ?_
          refine X.isub 27 i76_26 rfl rfl (by omega) ?_
          refine X.bipush 29 i76_27 rfl rfl (by decide) ?_
          refine X.iadd 30 i76_29 rfl rfl (by omega) ?_
          refine X.reti i76_30 rfl t76 ?_
          exact hQ ((a0 - 10) + 6) (by first | trivial | omega) (Eq.trans (if_neg h501) (Eq.trans (if_pos h504) (Eq.trans (if_neg h505) (Eq.trans (if_neg h507) rfl)))) (by omega) (by omega)
    · refine X.iload_n 10 i76_9 rfl rfl rfl ?_
      refine X.reti i76_10 rfl t76 ?_
      exact hQ a0 (by first | trivial | omega) (Eq.trans (if_neg h501) (Eq.trans (if_neg h504) rfl)) (by omega) (by omega)
-- WorkMeter$Settings.canBe
noncomputable def f75_1 (g0 : Nat) (a1 a2 : Int) (m : zM) : Int :=
  zn (f76_1 a1 m) fun v503 =>
  if v503 = (-1) then
  (0)
  else
  (zn (zro 2 v503) fun z505 =>
  if a2 < z505 then
  (0)
  else
  (zn (zro 3 v503) fun z507 =>
  if a2 ≤ z507 then
  (zn (if a1 = 4 then
  (if a2 = 60 then
  (1)
  else
  (if a2 = 300 then
  (1)
  else
  (if a2 = 900 then
  (1)
  else
  (if a2 = 1800 then
  (1)
  else
  (if a2 = 3600 then
  (1)
  else
  (0))))))
  else
  (1)) fun v515 =>
  v515)
  else
  (0)))
-- WorkMeter$Settings.canBe
theorem c75_1 {s : Nat × (Nat → Int32)} {S : zS} {m0 m : zM} {B : Int} {d : Nat} {Q : Option zV → zM → Prop} (g0 : Nat) (a1 a2 : Int) (hd : 14 ≤ d) (hJ : J S m0 B m) (hB : B + 0 ≤ 1000000000) (ha1 : (-2147483648) ≤ a1 ∧ a1 ≤ 2147483647) (ha2 : (-2147483648) ≤ a2 ∧ a2 ≤ 2147483647) (hQ : ∀ (v : Int), (0 ≤ v ∧ v ≤ 1) → f75_1 g0 a1 a2 m = v → (v = 1 → 0 ≤ a2 ∧ a2 ≤ 1000000) → (v = 1 → a1 = 5 → 1 ≤ a2 ∧ a2 ≤ 6) → Q (some (zi v)) m) : X (EE s) d 75 0 [(0, zr g0 9), (1, zi a1), (2, zi a2)] [] m Q := by
  refine X.iload_n 1 i75_0 rfl rfl rfl ?_
  refine X.calls 4 [zi a1] [] [(0, zi a1)] i75_1 (by decide) rfl rfl (by omega) rfl rfl t76 (Nat.le_of_ble_eq_true rfl) (Nat.le_of_ble_eq_true rfl) rfl ?_
  refine c76_1 (B := B)  a1 (by omega) (hJ.up (by omega)) (by omega) (by omega) (fun v503 hv503 hFv503 hqv503_0 hqv503_1 => ?_)
  show X (EE s) d 75 4 [(0, zr g0 9), (1, zi a1), (2, zi a2)] [zi v503] m _
  refine X.istore_n 5 [(0, zr g0 9), (1, zi a1), (2, zi a2), (3, zi v503)] i75_4 rfl rfl rfl ?_
  refine X.iload_n 6 i75_5 rfl rfl rfl ?_
  refine X.iconst 7 i75_6 rfl rfl (by decide) ?_
  refine X.icmpeq 28 10 i75_7 rfl rfl rfl (fun h504 => ?_) (fun h504 => ?_)
  · refine X.cut [] i75_28 rfl ?_
    refine X.iconst 29 i75_28 rfl rfl (by decide) ?_
    refine X.retz i75_29 rfl t75 (by omega) ?_
    exact hQ 0 (by first | trivial | omega) (Eq.trans (zn_eq hFv503.symm) (Eq.trans (if_pos h504) rfl)) (by omega) (by omega)
  · refine X.iload_n 11 i75_10 rfl rfl rfl ?_
    refine X.gets 14 i75_11 rfl rfl (by decide) ?_
    refine X.iload_n 15 i75_14 rfl rfl rfl ?_
    refine X.rald 16 i75_15 rfl rfl (by decide) (by show 0 ≤ _ ∧ _ < (13 : Int); omega) (fun hz505 => ?_)
    have gz505 := z_roB (s := s) (p := 2) (i := v503) (by decide)
    obtain ⟨z505, ez505⟩ : ∃ z, z = z_ro (EE s) 2 v503 := ⟨_, rfl⟩
    have ggz505 := z_ro5 (s := s) (p := 2) (i := v503) (by decide)
    rw [← ez505] at hz505 gz505 ggz505 ⊢
    refine X.icmplt 28 19 i75_16 rfl rfl rfl (fun h506 => ?_) (fun h506 => ?_)
    · refine X.cut [] i75_28 rfl ?_
      refine X.iconst 29 i75_28 rfl rfl (by decide) ?_
      refine X.retz i75_29 rfl t75 (by omega) ?_
      exact hQ 0 (by first | trivial | omega) (Eq.trans (zn_eq hFv503.symm) (Eq.trans (if_neg h504) (Eq.trans (zn_eq (p := zro 2 v503) ez505) (Eq.trans (if_pos h506) rfl)))) (by omega) (by omega)
    · refine X.iload_n 20 i75_19 rfl rfl rfl ?_
      refine X.gets 23 i75_20 rfl rfl (by decide) ?_
      refine X.iload_n 24 i75_23 rfl rfl rfl ?_
      refine X.rald 25 i75_24 rfl rfl (by decide) (by show 0 ≤ _ ∧ _ < (13 : Int); omega) (fun hz507 => ?_)
      have gz507 := z_roB (s := s) (p := 3) (i := v503) (by decide)
      obtain ⟨z507, ez507⟩ : ∃ z, z = z_ro (EE s) 3 v503 := ⟨_, rfl⟩
      have ggz507 := z_ro5 (s := s) (p := 3) (i := v503) (by decide)
      rw [← ez507] at hz507 gz507 ggz507 ⊢
      refine X.icmple 30 28 i75_25 rfl rfl rfl (fun h508 => ?_) (fun h508 => ?_)
      · refine X.cut [(1, zi a1), (2, zi a2)] i75_30 rfl ?_
        refine X.iload_n 31 i75_30 rfl rfl rfl ?_
        refine X.iconst 32 i75_31 rfl rfl (by decide) ?_
        have hK518 : ∀ (v : Int) , (0 ≤ v ∧ v ≤ 1) → (if a1 = 4 then
            (if a2 = 60 then
            (1)
            else
            (if a2 = 300 then
            (1)
            else
            (if a2 = 900 then
            (1)
            else
            (if a2 = 1800 then
            (1)
            else
            (if a2 = 3600 then
            (1)
            else
            (0))))))
            else
            (1)) = v → X (EE s) d 75 74 [] [zi v] m Q := by
          intro v515 hv515 hT519
          refine X.retz i75_74 rfl t75 (by omega) ?_
          exact hQ v515 (by first | trivial | omega) (Eq.trans (zn_eq hFv503.symm) (Eq.trans (if_neg h504) (Eq.trans (zn_eq (p := zro 2 v503) ez505) (Eq.trans (if_neg h506) (Eq.trans (zn_eq (p := zro 3 v503) ez507) (Eq.trans (if_pos h508) (Eq.trans (zn_eq hT519.symm) rfl))))))) (by omega) (by omega)
        refine X.icmpne 69 35 i75_32 rfl rfl rfl (fun h509 => ?_) (fun h509 => ?_)
        · refine X.cut [] i75_69 rfl ?_
          refine X.iconst 70 i75_69 rfl rfl (by decide) ?_
          refine X.goto 74 i75_70 rfl rfl ?_
          exact hK518 1 (by first | trivial | omega) (Eq.trans (if_neg h509) rfl)
        · refine X.iload_n 36 i75_35 rfl rfl rfl ?_
          refine X.bipush 38 i75_36 rfl rfl (by decide) ?_
          refine X.icmpeq 69 41 i75_38 rfl rfl rfl (fun h510 => ?_) (fun h510 => ?_)
          · refine X.cut [] i75_69 rfl ?_
            refine X.iconst 70 i75_69 rfl rfl (by decide) ?_
            refine X.goto 74 i75_70 rfl rfl ?_
            exact hK518 1 (by first | trivial | omega) (Eq.trans (if_pos h509) (Eq.trans (if_pos h510) rfl))
          · refine X.iload_n 42 i75_41 rfl rfl rfl ?_
            refine X.sipush 45 i75_42 rfl rfl (by decide) ?_
            refine X.icmpeq 69 48 i75_45 rfl rfl rfl (fun h511 => ?_) (fun h511 => ?_)
            · refine X.cut [] i75_69 rfl ?_
              refine X.iconst 70 i75_69 rfl rfl (by decide) ?_
              refine X.goto 74 i75_70 rfl rfl ?_
              exact hK518 1 (by first | trivial | omega) (Eq.trans (if_pos h509) (Eq.trans (if_neg h510) (Eq.trans (if_pos h511) rfl)))
            · refine X.iload_n 49 i75_48 rfl rfl rfl ?_
              refine X.sipush 52 i75_49 rfl rfl (by decide) ?_
              refine X.icmpeq 69 55 i75_52 rfl rfl rfl (fun h512 => ?_) (fun h512 => ?_)
              · refine X.cut [] i75_69 rfl ?_
                refine X.iconst 70 i75_69 rfl rfl (by decide) ?_
                refine X.goto 74 i75_70 rfl rfl ?_
                exact hK518 1 (by first | trivial | omega) (Eq.trans (if_pos h509) (Eq.trans (if_neg h510) (Eq.trans (if_neg h511) (Eq.trans (if_pos h512) rfl))))
              · refine X.iload_n 56 i75_55 rfl rfl rfl ?_
                refine X.sipush 59 i75_56 rfl rfl (by decide) ?_
                refine X.icmpeq 69 62 i75_59 rfl rfl rfl (fun h513 => ?_) (fun h513 => ?_)
                · refine X.cut [] i75_69 rfl ?_
                  refine X.iconst 70 i75_69 rfl rfl (by decide) ?_
                  refine X.goto 74 i75_70 rfl rfl ?_
                  exact hK518 1 (by first | trivial | omega) (Eq.trans (if_pos h509) (Eq.trans (if_neg h510) (Eq.trans (if_neg h511) (Eq.trans (if_neg h512) (Eq.trans (if_pos h513) rfl)))))
                · refine X.iload_n 63 i75_62 rfl rfl rfl ?_
                  refine X.sipush 66 i75_63 rfl rfl (by decide) ?_
                  refine X.icmpne 73 69 i75_66 rfl rfl rfl (fun h514 => ?_) (fun h514 => ?_)
                  · refine X.cut [] i75_73 rfl ?_
                    refine X.iconst 74 i75_73 rfl rfl (by decide) ?_
                    exact hK518 0 (by first | trivial | omega) (Eq.trans (if_pos h509) (Eq.trans (if_neg h510) (Eq.trans (if_neg h511) (Eq.trans (if_neg h512) (Eq.trans (if_neg h513) (Eq.trans (if_neg h514) rfl))))))
                  · refine X.cut [] i75_69 rfl ?_
                    refine X.iconst 70 i75_69 rfl rfl (by decide) ?_
                    refine X.goto 74 i75_70 rfl rfl ?_
                    exact hK518 1 (by first | trivial | omega) (Eq.trans (if_pos h509) (Eq.trans (if_neg h510) (Eq.trans (if_neg h511) (Eq.trans (if_neg h512) (Eq.trans (if_neg h513) (Eq.trans (if_pos h514) rfl))))))
      · refine X.cut [] i75_28 rfl ?_
        refine X.iconst 29 i75_28 rfl rfl (by decide) ?_
        refine X.retz i75_29 rfl t75 (by omega) ?_
        exact hQ 0 (by first | trivial | omega) (Eq.trans (zn_eq hFv503.symm) (Eq.trans (if_neg h504) (Eq.trans (zn_eq (p := zro 2 v503) ez505) (Eq.trans (if_neg h506) (Eq.trans (zn_eq (p := zro 3 v503) ez507) (Eq.trans (if_neg h508) rfl)))))) (by omega) (by omega)
-- WorkMeter$Settings.tell
noncomputable def f77_1 (g0 : Nat) (a1 a2 : Int) (m : zM) : zM :=
  zn (f76_1 a1 m) fun v503 =>
  zs (if v503 = (-1) then
  (m)
  else
  (zs (z_upd m g0 10 v503 a2) fun m505 =>
  m505)) fun m508 =>
  m508
-- WorkMeter$Settings.tell
theorem c77_1 {s : Nat × (Nat → Int32)} {S : zS} {m0 m : zM} {B : Int} {d : Nat} {Q : Option zV → zM → Prop} (g0 : Nat) (a1 a2 : Int) (hd : 14 ≤ d) (hJ : J S m0 B m) (hB : B + 0 ≤ 1000000000) (ha1 : (-2147483648) ≤ a1 ∧ a1 ≤ 2147483647) (ha2 : 0 ≤ a2 ∧ a2 ≤ 1000000) (hp0 : a1 = 5 → 1 ≤ a2 ∧ a2 ≤ 6) (hf3 : ¬ S.1 3) (hgg0 : ¬ S.2.1 g0) (hQ : ∀ m', f77_1 g0 a1 a2 m = m' → J S m0 (B) m' → Q none m') : X (EE s) d 77 0 [(0, zr g0 9), (1, zi a1), (2, zi a2)] [] m Q := by
  refine X.iload_n 1 i77_0 rfl rfl rfl ?_
  refine X.calls 4 [zi a1] [] [(0, zi a1)] i77_1 (by decide) rfl rfl (by omega) rfl rfl t76 (Nat.le_of_ble_eq_true rfl) (Nat.le_of_ble_eq_true rfl) rfl ?_
  refine c76_1 (B := B)  a1 (by omega) (hJ.up (by omega)) (by omega) (by omega) (fun v503 hv503 hFv503 hqv503_0 hqv503_1 => ?_)
  show X (EE s) d 77 4 [(0, zr g0 9), (1, zi a1), (2, zi a2)] [zi v503] m _
  refine X.istore_n 5 [(0, zr g0 9), (1, zi a1), (2, zi a2), (3, zi v503)] i77_4 rfl rfl rfl ?_
  refine X.iload_n 6 i77_5 rfl rfl rfl ?_
  refine X.iconst 7 i77_6 rfl rfl (by decide) ?_
  have hK510 : ∀ (m' : zM), (if v503 = (-1) then
      (m)
      else
      (zs (z_upd m g0 10 v503 a2) fun m505 =>
      m505)) = m' → J S m0 (B) m' → X (EE s) d 77 17 [] [] m' Q := by
    intro m508 hT511 hJ509
    refine X.retv i77_17 rfl t77 ?_
    exact hQ  m508  (Eq.trans (zn_eq hFv503.symm) (Eq.trans (zs_eq hT511.symm) rfl)) (hJ509.up (by omega)) 
  refine X.icmpeq 17 10 i77_7 rfl rfl rfl (fun h504 => ?_) (fun h504 => ?_)
  · refine X.cut [] i77_17 rfl ?_
    exact hK510 m (Eq.trans (if_pos h504) rfl) (hJ.up (by omega))
  · refine X.aload_n 11 i77_10 rfl rfl rfl ?_
    refine X.getR 14 i77_11 rfl rfl (by decide) rfl rfl ?_
    refine X.iload_n 15 i77_14 rfl rfl rfl ?_
    refine X.iload_n 16 i77_15 rfl rfl rfl ?_
    refine X.iast' 17 i77_16 rfl rfl (by decide) rfl (by omega) (fun hrm505 m505 hm505 => ?_)
    have hJ506 := w10_all hJ hm505 (by omega) (by omega) (by omega) hf3 hgg0
    refine X.cut [] i77_17 rfl ?_
    exact hK510 m505 (Eq.trans (if_neg h504) (Eq.trans (zs_eq hm505) rfl)) (hJ506.up (by omega))
-- WorkMeter$Settings.tell
theorem c77_2 {s : Nat × (Nat → Int32)} {S : zS} {m0 m : zM} {B : Int} {d : Nat} {Q : Option zV → zM → Prop} (g0 : Nat) (a1 a2 : Int) (hd : 14 ≤ d) (hJ : J S m0 B m) (hB : B + 0 ≤ 1000000000) (ha1 : (-2147483648) ≤ a1 ∧ a1 ≤ 2147483647) (ha2 : 0 ≤ a2 ∧ a2 ≤ 1000000) (hp0 : a1 = 5 → 1 ≤ a2 ∧ a2 ≤ 6) (hf3 : ¬ S.1 3) (hgg0 : ¬ S.2.1 g0) (hQ : ∀ m', f77_1 g0 a1 a2 m = m' → J S m0 (B) m' → Q none m') : X (EE s) d 77 0 [(0, zr g0 9), (1, zi a1), (2, zi a2)] [] m Q := by
  refine X.iload_n 1 i77_0 rfl rfl rfl ?_
  refine X.calls 4 [zi a1] [] [(0, zi a1)] i77_1 (by decide) rfl rfl (by omega) rfl rfl t76 (Nat.le_of_ble_eq_true rfl) (Nat.le_of_ble_eq_true rfl) rfl ?_
  refine c76_1 (B := B)  a1 (by omega) (hJ.up (by omega)) (by omega) (by omega) (fun v503 hv503 hFv503 hqv503_0 hqv503_1 => ?_)
  show X (EE s) d 77 4 [(0, zr g0 9), (1, zi a1), (2, zi a2)] [zi v503] m _
  refine X.istore_n 5 [(0, zr g0 9), (1, zi a1), (2, zi a2), (3, zi v503)] i77_4 rfl rfl rfl ?_
  refine X.iload_n 6 i77_5 rfl rfl rfl ?_
  refine X.iconst 7 i77_6 rfl rfl (by decide) ?_
  have hK510 : ∀ (m' : zM), (if v503 = (-1) then
      (m)
      else
      (zs (z_upd m g0 10 v503 a2) fun m505 =>
      m505)) = m' → J S m0 (B) m' → X (EE s) d 77 17 [] [] m' Q := by
    intro m508 hT511 hJ509
    refine X.retv i77_17 rfl t77 ?_
    exact hQ  m508  (Eq.trans (zn_eq hFv503.symm) (Eq.trans (zs_eq hT511.symm) rfl)) (hJ509.up (by omega)) 
  refine X.icmpeq 17 10 i77_7 rfl rfl rfl (fun h504 => ?_) (fun h504 => ?_)
  · refine X.cut [] i77_17 rfl ?_
    exact hK510 m (Eq.trans (if_pos h504) rfl) (hJ.up (by omega))
  · refine X.aload_n 11 i77_10 rfl rfl rfl ?_
    refine X.getR 14 i77_11 rfl rfl (by decide) rfl rfl ?_
    refine X.iload_n 15 i77_14 rfl rfl rfl ?_
    refine X.iload_n 16 i77_15 rfl rfl rfl ?_
    refine X.iast' 17 i77_16 rfl rfl (by decide) rfl (by omega) (fun hrm505 m505 hm505 => ?_)
    have hJ506 := w10_all hJ hm505 (by omega) (by omega) (by omega) hf3 hgg0
    refine X.cut [] i77_17 rfl ?_
    exact hK510 m505 (Eq.trans (if_neg h504) (Eq.trans (zs_eq hm505) rfl)) (hJ506.up (by omega))
-- WorkMeter$Meter.tellSetting
noncomputable def f74_1 (g0 : Nat) (a1 a2 : Int) (m : zM) : Int × zM :=
  zn (f75_1 g0 a1 a2 m) fun v503 =>
  if v503 = 0 then
  ((0, m))
  else
  (if a1 = 1 then
  (if (m g0 8 13) ≤ 0 then
  (zs (f77_1 g0 a1 a2 m) fun m523 =>
  (1, m523))
  else
  ((0, m)))
  else
  (zs (if a1 = 4 then
  (zs (f60_1 g0 (m g0 8 9) (max 1 (m g0 10 4)) 64 m) fun m509 =>
  m509)
  else
  (m)) fun m513 =>
  zs (f77_1 g0 a1 a2 m513) fun m517 =>
  (1, m517)))
-- WorkMeter$Meter.tellSetting
theorem c74_1 {s : Nat × (Nat → Int32)} {S : zS} {m0 m : zM} {B : Int} {d : Nat} {Q : Option zV → zM → Prop} (g0 : Nat) (a1 a2 : Int) (hd : 15 ≤ d) (hJ : J S m0 B m) (hB : B + 1 ≤ 1000000000) (ha1 : (-2147483648) ≤ a1 ∧ a1 ≤ 2147483647) (ha2 : (-2147483648) ≤ a2 ∧ a2 ≤ 2147483647) (hf3 : ¬ S.1 3) (hf7 : ¬ S.1 7) (hgg0 : ¬ S.2.1 g0) (hQ : ∀ (v : Int) m', (0 ≤ v ∧ v ≤ 1) → f74_1 g0 a1 a2 m = (v, m') → J S m0 (B + 1) m' → Q (some (zi v)) m') : X (EE s) d 74 0 [(0, zr g0 8), (1, zi a1), (2, zi a2)] [] m Q := by
  refine X.aload_n 1 i74_0 rfl rfl rfl ?_
  refine X.getR 4 i74_1 rfl rfl (by decide) rfl rfl ?_
  refine X.iload_n 5 i74_4 rfl rfl rfl ?_
  refine X.iload_n 6 i74_5 rfl rfl rfl ?_
  refine X.callv 9 [zi a1, zi a2] [] [(0, zr g0 9), (1, zi a1), (2, zi a2)] i74_6 rfl (by decide) rfl rfl (by omega) rfl rfl (by decide) rfl t75 (Nat.le_of_ble_eq_true rfl) (Nat.le_of_ble_eq_true rfl) rfl ?_
  refine c75_1 (B := B) g0 a1 a2 (by omega) (hJ.up (by omega)) (by omega) (by omega) (by omega) (fun v503 hv503 hFv503 hqv503_0 hqv503_1 => ?_)
  show X (EE s) d 74 9 [(0, zr g0 8), (1, zi a1), (2, zi a2)] [zi v503] m _
  refine X.ifeq 24 12 i74_9 rfl rfl rfl (fun h504 => ?_) (fun h504 => ?_)
  · refine X.cut [] i74_24 rfl ?_
    refine X.iconst 25 i74_24 rfl rfl (by decide) ?_
    refine X.retz i74_25 rfl t74 (by omega) ?_
    exact hQ 0 m (by first | trivial | omega) (Eq.trans (zn_eq hFv503.symm) (Eq.trans (if_pos h504) rfl)) (hJ.up (by omega)) 
  · refine X.iload_n 13 i74_12 rfl rfl rfl ?_
    refine X.iconst 14 i74_13 rfl rfl (by decide) ?_
    refine X.icmpne 26 17 i74_14 rfl rfl rfl (fun h505 => ?_) (fun h505 => ?_)
    · refine X.iload_n 27 i74_26 rfl rfl rfl ?_
      refine X.iconst 28 i74_27 rfl rfl (by decide) ?_
      have hK515 : ∀ (m' : zM), (if a1 = 4 then
          (zs (f60_1 g0 (m g0 8 9) (max 1 (m g0 10 4)) 64 m) fun m509 =>
          m509)
          else
          (m)) = m' → J S m0 (B + 1) m' → X (EE s) d 74 51 [(0, zr g0 8), (1, zi a1), (2, zi a2)] [] m' Q := by
        intro m513 hT516 hJ514
        refine X.aload_n 52 i74_51 rfl rfl rfl ?_
        refine X.getR 55 i74_52 rfl rfl (by decide) rfl rfl ?_
        refine X.iload_n 56 i74_55 rfl rfl rfl ?_
        refine X.iload_n 57 i74_56 rfl rfl rfl ?_
        refine X.callv 60 [zi a1, zi a2] [] [(0, zr g0 9), (1, zi a1), (2, zi a2)] i74_57 rfl (by decide) rfl rfl (by omega) rfl rfl (by decide) rfl t77 (Nat.le_of_ble_eq_true rfl) (Nat.le_of_ble_eq_true rfl) rfl ?_
        refine c77_1 (B := B + 1) g0 a1 a2 (by omega) (hJ514.up (by omega)) (by omega) (by omega) (by omega) (by omega) hf3 hgg0 (fun m517 hFv519 hJ518 => ?_)
        show X (EE s) d 74 60 [(0, zr g0 8), (1, zi a1), (2, zi a2)] [] m517 _
        refine X.iconst 61 i74_60 rfl rfl (by decide) ?_
        refine X.retz i74_61 rfl t74 (by omega) ?_
        exact hQ 1 m517 (by first | trivial | omega) (Eq.trans (zn_eq hFv503.symm) (Eq.trans (if_neg h504) (Eq.trans (if_neg h505) (Eq.trans (zs_eq hT516.symm) (Eq.trans (zs_eq hFv519.symm) rfl))))) (hJ518.up (by omega)) 
      refine X.icmpne 51 31 i74_28 rfl rfl rfl (fun h506 => ?_) (fun h506 => ?_)
      · exact hK515 m (Eq.trans (if_neg h506) rfl) (hJ.up (by omega))
      · refine X.aload_n 32 i74_31 rfl rfl rfl ?_
        refine X.getR 35 i74_32 rfl rfl (by decide) rfl rfl ?_
        refine X.aload_n 36 i74_35 rfl rfl rfl ?_
        refine X.getI 39 9 i74_36 rfl rfl (by decide) rfl rfl rfl ?_
        have h507 := r8_9 hJ g0
        refine X.aload_n 40 i74_39 rfl rfl rfl ?_
        refine X.getR 43 i74_40 rfl rfl (by decide) rfl rfl ?_
        refine X.callv 46 [] [zi (m g0 8 9), zr g0 27] [(0, zr g0 9)] i74_43 rfl (by decide) rfl rfl (by omega) rfl rfl (by decide) rfl t36 (Nat.le_of_ble_eq_true rfl) (Nat.le_of_ble_eq_true rfl) rfl ?_
        refine X.iconst 1 i36_0 rfl rfl (by decide) ?_
        refine X.aload_n 2 i36_1 rfl rfl rfl ?_
        refine X.getR 5 i36_2 rfl rfl (by decide) rfl rfl ?_
        refine X.iconst 6 i36_5 rfl rfl (by decide) ?_
        refine X.iald 7 i36_6 rfl rfl (by decide) rfl (by omega) ?_
        have h508 := r10_0 hJ g0 (i := 4) (by omega)
        refine X.maxI 10 i36_7 rfl rfl (by omega) (Nat.le_of_ble_eq_true rfl) ?_
        refine X.reti i36_10 rfl t36 ?_
        show X (EE s) d 74 46 [(0, zr g0 8), (1, zi a1), (2, zi a2)] [zi (max 1 (m g0 10 4)), zi (m g0 8 9), zr g0 27] m _
        refine X.bipush 48 i74_46 rfl rfl (by decide) ?_
        refine X.callv 51 [zi (m g0 8 9), zi (max 1 (m g0 10 4)), zi 64] [] [(0, zr g0 27), (1, zi (m g0 8 9)), (2, zi (max 1 (m g0 10 4))), (3, zi 64)] i74_48 rfl (by decide) rfl rfl (by omega) rfl rfl (by decide) rfl t60 (Nat.le_of_ble_eq_true rfl) (Nat.le_of_ble_eq_true rfl) rfl ?_
        refine c60_1 (B := B) g0 (m g0 8 9) (max 1 (m g0 10 4)) 64 (by omega) (hJ.up (by omega)) (by omega) (by omega) (by omega) (by omega) hf7 hgg0 (fun m509 hFv511 hJ510 => ?_)
        show X (EE s) d 74 51 [(0, zr g0 8), (1, zi a1), (2, zi a2)] [] m509 _
        exact hK515 m509 (Eq.trans (if_pos h506) (Eq.trans (zs_eq hFv511.symm) rfl)) (hJ510.up (by omega))
    · refine X.aload_n 18 i74_17 rfl rfl rfl ?_
      refine X.getIr 21 13 i74_18 rfl rfl (by decide) rfl rfl rfl (fun h520 => ?_)
      refine X.ifle 26 24 i74_21 rfl rfl rfl (fun h521 => ?_) (fun h521 => ?_)
      · refine X.iload_n 27 i74_26 rfl rfl rfl ?_
        refine X.iconst 28 i74_27 rfl rfl (by decide) ?_
        refine X.icmpne 51 31 i74_28 rfl rfl rfl (fun h522 => ?_) (fun h522 => (by exfalso; omega))
        refine X.aload_n 52 i74_51 rfl rfl rfl ?_
        refine X.getR 55 i74_52 rfl rfl (by decide) rfl rfl ?_
        refine X.iload_n 56 i74_55 rfl rfl rfl ?_
        refine X.iload_n 57 i74_56 rfl rfl rfl ?_
        refine X.callv 60 [zi a1, zi a2] [] [(0, zr g0 9), (1, zi a1), (2, zi a2)] i74_57 rfl (by decide) rfl rfl (by omega) rfl rfl (by decide) rfl t77 (Nat.le_of_ble_eq_true rfl) (Nat.le_of_ble_eq_true rfl) rfl ?_
        refine c77_2 (B := B) g0 a1 a2 (by omega) (hJ.up (by omega)) (by omega) (by omega) (by omega) (by omega) hf3 hgg0 (fun m523 hFv525 hJ524 => ?_)
        show X (EE s) d 74 60 [(0, zr g0 8), (1, zi a1), (2, zi a2)] [] m523 _
        refine X.iconst 61 i74_60 rfl rfl (by decide) ?_
        refine X.retz i74_61 rfl t74 (by omega) ?_
        exact hQ 1 m523 (by first | trivial | omega) (Eq.trans (zn_eq hFv503.symm) (Eq.trans (if_neg h504) (Eq.trans (if_pos h505) (Eq.trans (if_pos h521) (Eq.trans (zs_eq hFv525.symm) rfl))))) (hJ524.up (by omega)) 
      · refine X.cut [] i74_24 rfl ?_
        refine X.iconst 25 i74_24 rfl rfl (by decide) ?_
        refine X.retz i74_25 rfl t74 (by omega) ?_
        exact hQ 0 m (by first | trivial | omega) (Eq.trans (zn_eq hFv503.symm) (Eq.trans (if_neg h504) (Eq.trans (if_pos h505) (Eq.trans (if_neg h521) rfl)))) (hJ.up (by omega)) 
-- WorkMeter.set
noncomputable def f73_1 (a1 a2 : Int) (m : zM) : Int × zM :=
  zb (f17_1 0 m) fun v503 m501 =>
  if v503 = 0 then
  (zb (f74_1 0 a1 a2 m501) fun v507 m505 =>
  (v507, m505))
  else
  ((0, m501))
-- WorkMeter.set
theorem c73_1 {s : Nat × (Nat → Int32)} {S : zS} {m0 m : zM} {B : Int} {d : Nat} {Q : Option zV → zM → Prop} (a1 a2 : Int) (hd : 16 ≤ d) (hJ : J S m0 B m) (hB : B + 1 ≤ 1000000000) (ha1 : (-2147483648) ≤ a1 ∧ a1 ≤ 2147483647) (ha2 : (-2147483648) ≤ a2 ∧ a2 ≤ 2147483647) (hf3 : ¬ S.1 3) (hf4 : ¬ S.1 4) (hf7 : ¬ S.1 7) (hg0 : ¬ S.2.1 0) (hQ : ∀ (v : Int) m', (0 ≤ v ∧ v ≤ 1) → f73_1 a1 a2 m = (v, m') → J S m0 (B + 1) m' → Q (some (zi v)) m') : X (EE s) d 73 0 [(0, zr 4 40), (1, zi a1), (2, zi a2)] [] m Q := by
  refine X.aload_n 1 i73_0 rfl rfl rfl ?_
  refine X.getF 4 i73_1 rfl rfl (by decide) rfl rfl ?_
  refine X.getR 7 i73_4 rfl rfl (by decide) rfl rfl ?_
  refine X.callv 10 [] [] [(0, zr 0 39)] i73_7 rfl (by decide) rfl rfl (by omega) rfl rfl (by decide) rfl t17 (Nat.le_of_ble_eq_true rfl) (Nat.le_of_ble_eq_true rfl) rfl ?_
  refine c17_1 (B := B) 0  (by omega) (hJ.up (by omega)) (by omega)  hf4 hg0 (fun v503 m501 hv503 hFv503 hJ502 => ?_)
  show X (EE s) d 73 10 [(0, zr 4 40), (1, zi a1), (2, zi a2)] [zi v503] m501 _
  refine X.ifeq 15 13 i73_10 rfl rfl rfl (fun h504 => ?_) (fun h504 => ?_)
  · refine X.aload_n 16 i73_15 rfl rfl rfl ?_
    refine X.getF 19 i73_16 rfl rfl (by decide) rfl rfl ?_
    refine X.iload_n 20 i73_19 rfl rfl rfl ?_
    refine X.iload_n 21 i73_20 rfl rfl rfl ?_
    refine X.callv 24 [zi a1, zi a2] [] [(0, zr 0 8), (1, zi a1), (2, zi a2)] i73_21 rfl (by decide) rfl rfl (by omega) rfl rfl (by decide) rfl t74 (Nat.le_of_ble_eq_true rfl) (Nat.le_of_ble_eq_true rfl) rfl ?_
    refine c74_1 (B := B) 0 a1 a2 (by omega) (hJ502.up (by omega)) (by omega) (by omega) (by omega) hf3 hf7 hg0 (fun v507 m505 hv507 hFv507 hJ506 => ?_)
    show X (EE s) d 73 24 [(0, zr 4 40), (1, zi a1), (2, zi a2)] [zi v507] m505 _
    refine X.retz i73_24 rfl t73 (by omega) ?_
    exact hQ v507 m505 (by first | trivial | omega) (Eq.trans (zb_eq hFv503) (Eq.trans (if_pos h504) (Eq.trans (zb_eq hFv507) rfl))) (hJ506.up (by omega)) 
  · refine X.iconst 14 i73_13 rfl rfl (by decide) ?_
    refine X.retz i73_14 rfl t73 (by omega) ?_
    exact hQ 0 m501 (by first | trivial | omega) (Eq.trans (zb_eq hFv503) (Eq.trans (if_neg h504) rfl)) (hJ502.up (by omega)) 
-- WorkMeterModel.set
noncomputable def f280_1 (a1 a2 : Int) (m : zM) : Int × zM :=
  zb (f203_1 m) fun v503 m501 =>
  if v503 = 0 then
  (if a1 = 0 then
  (if a2 < 0 then
  ((0, m501))
  else
  (if a2 ≤ 1000000 then
  (zs (z_upd m501 4 45 4 a2) fun m513 =>
  (1, m513))
  else
  ((0, m501))))
  else
  (if a1 = 1 then
  (if a2 < 1 then
  ((0, m501))
  else
  (if a2 ≤ 1000000 then
  (if (m501 4 45 13) ≤ 0 then
  (zs (z_upd m501 4 45 5 a2) fun m526 =>
  (1, m526))
  else
  ((0, m501)))
  else
  ((0, m501))))
  else
  (if a1 = 2 then
  (if a2 < 0 then
  ((0, m501))
  else
  (if a2 ≤ 250000 then
  (zs (z_upd m501 4 45 6 a2) fun m536 =>
  (1, m536))
  else
  ((0, m501))))
  else
  (if a1 = 3 then
  (if a2 < 0 then
  ((0, m501))
  else
  (if a2 ≤ 60 then
  (zs (z_upd m501 4 45 7 a2) fun m546 =>
  (1, m546))
  else
  ((0, m501))))
  else
  (if a1 = 4 then
  (if a2 = 60 then
  (zs (f232_1 64 m501) fun m550 =>
  zs (z_upd m550 4 45 8 a2) fun m553 =>
  zs (f233_1 m553) fun m555 =>
  (1, m555))
  else
  (if a2 = 300 then
  (zs (f232_1 64 m501) fun m559 =>
  zs (z_upd m559 4 45 8 a2) fun m562 =>
  zs (f233_1 m562) fun m564 =>
  (1, m564))
  else
  (if a2 = 900 then
  (zs (f232_1 64 m501) fun m568 =>
  zs (z_upd m568 4 45 8 a2) fun m571 =>
  zs (f233_1 m571) fun m573 =>
  (1, m573))
  else
  (if a2 = 1800 then
  (zs (f232_1 64 m501) fun m577 =>
  zs (z_upd m577 4 45 8 a2) fun m580 =>
  zs (f233_1 m580) fun m582 =>
  (1, m582))
  else
  (if a2 = 3600 then
  (zs (f232_1 64 m501) fun m586 =>
  zs (z_upd m586 4 45 8 a2) fun m589 =>
  zs (f233_1 m589) fun m591 =>
  (1, m591))
  else
  ((0, m501)))))))
  else
  (if a1 = 5 then
  (if a2 < 1 then
  ((0, m501))
  else
  (if a2 ≤ 6 then
  (zs (z_upd m501 4 45 9 a2) fun m602 =>
  (1, m602))
  else
  ((0, m501))))
  else
  (if a1 = 6 then
  ((0, m501))
  else
  (if a1 = 7 then
  ((0, m501))
  else
  (if a1 = 8 then
  ((0, m501))
  else
  (if a1 = 9 then
  ((0, m501))
  else
  (if a1 = 10 then
  (if a2 < 0 then
  ((0, m501))
  else
  (if a2 ≤ 100 then
  (zs (z_upd m501 4 45 ((28 + a1) - 10) a2) fun m633 =>
  (1, m633))
  else
  ((0, m501))))
  else
  (if a1 = 11 then
  (if a2 < 0 then
  ((0, m501))
  else
  (if a2 ≤ 100 then
  (zs (z_upd m501 4 45 ((28 + a1) - 10) a2) fun m648 =>
  (1, m648))
  else
  ((0, m501))))
  else
  (if a1 = 12 then
  (if a2 < 0 then
  ((0, m501))
  else
  (if a2 ≤ 100 then
  (zs (z_upd m501 4 45 ((28 + a1) - 10) a2) fun m663 =>
  (1, m663))
  else
  ((0, m501))))
  else
  (if a1 = 13 then
  (if a2 < 0 then
  ((0, m501))
  else
  (if a2 ≤ 100 then
  (zs (z_upd m501 4 45 ((28 + a1) - 10) a2) fun m678 =>
  (1, m678))
  else
  ((0, m501))))
  else
  (if a1 = 14 then
  ((0, m501))
  else
  (if a1 = 15 then
  ((0, m501))
  else
  (if a1 = 16 then
  ((0, m501))
  else
  (if a1 = 17 then
  ((0, m501))
  else
  (if a1 = 18 then
  ((0, m501))
  else
  (if a1 = 19 then
  ((0, m501))
  else
  (if a1 = 20 then
  (if a2 < 0 then
  ((0, m501))
  else
  (if a2 ≤ 100 then
  (zs (z_upd m501 4 45 ((1611 + a1) - 20) a2) fun m725 =>
  (1, m725))
  else
  ((0, m501))))
  else
  (if a1 = 21 then
  (if a2 < 0 then
  ((0, m501))
  else
  (if a2 ≤ 200 then
  (zs (z_upd m501 4 45 ((1611 + a1) - 20) a2) fun m736 =>
  (1, m736))
  else
  ((0, m501))))
  else
  (if a1 = 22 then
  (if a2 < 0 then
  ((0, m501))
  else
  (if a2 ≤ 100 then
  (zs (z_upd m501 4 45 ((1611 + a1) - 20) a2) fun m747 =>
  (1, m747))
  else
  ((0, m501))))
  else
  (if a1 < 10 then
  ((0, m501))
  else
  (if a1 ≤ 13 then
  (if a2 < 0 then
  ((0, m501))
  else
  (if a2 ≤ 100 then
  (zs (z_upd m501 4 45 ((28 + a1) - 10) a2) fun m763 =>
  (1, m763))
  else
  ((0, m501))))
  else
  ((0, m501)))))))))))))))))))))))))))
  else
  ((0, m501))
