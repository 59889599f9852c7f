section
-- WorkMeter$Settings.placeOf
noncomputable def f76_1 (a0 : Int) (m : zM) : Int :=
  if a0 < 0 then
  ((-1))
  else
  (if 5 < a0 then
  (if a0 < 10 then
  ((-1))
  else
  (if 14 ≤ a0 then
  (if a0 < 20 then
  ((-1))
  else
  (if 22 < a0 then
  ((-1))
  else
  (((a0 - 20) + 10))))
  else
  (((a0 - 10) + 6))))
  else
  (a0))
-- WorkMeter$Settings.placeOf
theorem c76_1 {s : Nat × (Nat → Int32)} {S : zS} {m0 m : zM} {B : Int} {d : Nat} {Q : Option zV → zM → Prop} (a0 : Int) (hd : 13 ≤ d) (hJ : J S m0 B m) (hB : B + 0 ≤ 1000000000) (ha0 : (-2147483648) ≤ a0 ∧ a0 ≤ 2147483647) (hQ : ∀ (v : Int), ((-1) ≤ v ∧ v ≤ 12) → f76_1 a0 m = v → (a0 = 5 → v = 5) → (v = 5 → a0 = 5) → Q (some (zi v)) m) : X (EE s) d 76 0 [(0, zi a0)] [] m Q := by
  refine X.iload_n 1 (zi76 0) rfl rfl rfl ?_
  refine X.iflt 11 4 (zi76 1) rfl rfl rfl (fun h501 => ?_) (fun h501 => ?_)
  · refine X.iload_n 12 (zi76 11) rfl rfl rfl ?_
    refine X.bipush 14 (zi76 12) rfl rfl (by decide) ?_
    refine X.icmplt 31 17 (zi76 14) rfl rfl rfl (fun h502 => ?_) (fun h502 => (by exfalso; omega))
    refine X.iload_n 32 (zi76 31) rfl rfl rfl ?_
    refine X.bipush 34 (zi76 32) rfl rfl (by decide) ?_
    refine X.icmplt 51 37 (zi76 34) rfl rfl rfl (fun h503 => ?_) (fun h503 => (by exfalso; omega))
    refine X.cut [] (zi76 51) rfl ?_
    refine X.iconst 52 (zi76 51) rfl rfl (by decide) ?_
    refine X.reti (zi76 52) rfl t76 ?_
    exact hQ (-1) (by first | trivial | omega) (Eq.trans (if_pos h501) rfl) (by omega) (by omega)
  · refine X.iload_n 5 (zi76 4) rfl rfl rfl ?_
    refine X.iconst 6 (zi76 5) rfl rfl (by decide) ?_
    refine X.icmpgt 11 9 (zi76 6) rfl rfl rfl (fun h504 => ?_) (fun h504 => ?_)
    · refine X.iload_n 12 (zi76 11) rfl rfl rfl ?_
      refine X.bipush 14 (zi76 12) rfl rfl (by decide) ?_
      refine X.icmplt 31 17 (zi76 14) rfl rfl rfl (fun h505 => ?_) (fun h505 => ?_)
      · refine X.iload_n 32 (zi76 31) rfl rfl rfl ?_
        refine X.bipush 34 (zi76 32) rfl rfl (by decide) ?_
        refine X.icmplt 51 37 (zi76 34) rfl rfl rfl (fun h506 => ?_) (fun h506 => (by exfalso; omega))
        refine X.cut [] (zi76 51) rfl ?_
        refine X.iconst 52 (zi76 51) rfl rfl (by decide) ?_
        refine X.reti (zi76 52) rfl t76 ?_
        exact hQ (-1) (by first | trivial | omega) (Eq.trans (if_neg h501) (Eq.trans (if_pos h504) (Eq.trans (if_pos h505) rfl))) (by omega) (by omega)
      · refine X.iload_n 18 (zi76 17) rfl rfl rfl ?_
        refine X.bipush 20 (zi76 18) rfl rfl (by decide) ?_
        refine X.icmpge 31 23 (zi76 20) rfl rfl rfl (fun h507 => ?_) (fun h507 => ?_)
        · refine X.iload_n 32 (zi76 31) rfl rfl rfl ?_
          refine X.bipush 34 (zi76 32) rfl rfl (by decide) ?_
          refine X.icmplt 51 37 (zi76 34) rfl rfl rfl (fun h508 => ?_) (fun h508 => ?_)
          · refine X.cut [] (zi76 51) rfl ?_
            refine X.iconst 52 (zi76 51) rfl rfl (by decide) ?_
            refine X.reti (zi76 52) rfl t76 ?_
            exact hQ (-1) (by first | trivial | omega) (Eq.trans (if_neg h501) (Eq.trans (if_pos h504) (Eq.trans (if_neg h505) (Eq.trans (if_pos h507) (Eq.trans (if_pos h508) rfl))))) (by omega) (by omega)
          · refine X.iload_n 38 (zi76 37) rfl rfl rfl ?_
            refine X.bipush 40 (zi76 38) rfl rfl (by decide) ?_
            refine X.icmpgt 51 43 (zi76 40) rfl rfl rfl (fun h509 => ?_) (fun h509 => ?_)
            · refine X.cut [] (zi76 51) rfl ?_
              refine X.iconst 52 (zi76 51) rfl rfl (by decide) ?_
              refine X.reti (zi76 52) rfl t76 ?_
              exact hQ (-1) (by first | trivial | omega) (Eq.trans (if_neg h501) (Eq.trans (if_pos h504) (Eq.trans (if_neg h505) (Eq.trans (if_pos h507) (Eq.trans (if_neg h508) (Eq.trans (if_pos h509) rfl)))))) (by omega) (by omega)
            · refine X.iload_n 44 (zi76 43) rfl rfl rfl ?_
              refine X.bipush 46 (zi76 44) rfl rfl (by decide) ?_
              refine X.isub 47 (zi76 46) rfl rfl (by omega) ?_
              refine X.bipush 49 (zi76 47) rfl rfl (by decide) ?_
              refine X.iadd 50 (zi76 49) rfl rfl (by omega) ?_
              refine X.reti (zi76 50) rfl t76 ?_
              exact hQ ((a0 - 20) + 10) (by first | trivial | omega) (Eq.trans (if_neg h501) (Eq.trans (if_pos h504) (Eq.trans (if_neg h505) (Eq.trans (if_pos h507) (Eq.trans (if_neg h508) (Eq.trans (if_neg h509) rfl)))))) (by omega) (by omega)
        · refine X.iload_n 24 (zi76 23) rfl rfl rfl ?_
          refine X.bipush 26 (zi76 24) rfl rfl (by decide) ?_
          refine X.isub 27 (zi76 26) rfl rfl (by omega) ?_
          refine X.bipush 29 (zi76 27) rfl rfl (by decide) ?_
          refine X.iadd 30 (zi76 29) rfl rfl (by omega) ?_
          refine X.reti (zi76 30) rfl t76 ?_
          exact hQ ((a0 - 10) + 6) (by first | trivial | omega) (Eq.trans (if_neg h501) (Eq.trans (if_pos h504) (Eq.trans (if_neg h505) (Eq.trans (if_neg h507) rfl)))) (by omega) (by omega)
    · refine X.iload_n 10 (zi76 9) rfl rfl rfl ?_
      refine X.reti (zi76 10) rfl t76 ?_
      exact hQ a0 (by first | trivial | omega) (Eq.trans (if_neg h501) (Eq.trans (if_neg h504) rfl)) (by omega) (by omega)
-- WorkMeter$Settings.canBe
noncomputable def f75_1 (g0 : Nat) (a1 a2 : Int) (m : zM) : Int :=
  zn (f76_1 a1 m) fun v503 =>
  if v503 = (-1) then
  (0)
  else
  (zn (zro 2 v503) fun z505 =>
  if a2 < z505 then
  (0)
  else
  (zn (zro 3 v503) fun z507 =>
  if a2 ≤ z507 then
  (zn (if a1 = 4 then
  (if a2 = 60 then
  (1)
  else
  (if a2 = 300 then
  (1)
  else
  (if a2 = 900 then
  (1)
  else
  (if a2 = 1800 then
  (1)
  else
  (if a2 = 3600 then
  (1)
  else
  (0))))))
  else
  (1)) fun v515 =>
  v515)
  else
  (0)))
-- WorkMeter$Settings.canBe
theorem c75_1 {s : Nat × (Nat → Int32)} {S : zS} {m0 m : zM} {B : Int} {d : Nat} {Q : Option zV → zM → Prop} (g0 : Nat) (a1 a2 : Int) (hd : 14 ≤ d) (hJ : J S m0 B m) (hB : B + 0 ≤ 1000000000) (ha1 : (-2147483648) ≤ a1 ∧ a1 ≤ 2147483647) (ha2 : (-2147483648) ≤ a2 ∧ a2 ≤ 2147483647) (hQ : ∀ (v : Int), (0 ≤ v ∧ v ≤ 1) → f75_1 g0 a1 a2 m = v → (v = 1 → 0 ≤ a2 ∧ a2 ≤ 1000000) → (v = 1 → a1 = 5 → 1 ≤ a2 ∧ a2 ≤ 6) → Q (some (zi v)) m) : X (EE s) d 75 0 [(0, zr g0 9), (1, zi a1), (2, zi a2)] [] m Q := by
  refine X.iload_n 1 (zi75 0) rfl rfl rfl ?_
  refine X.calls 4 [zi a1] [] [(0, zi a1)] (zi75 1) (by decide) rfl rfl (by omega) rfl rfl t76 (Nat.le_of_ble_eq_true rfl) (Nat.le_of_ble_eq_true rfl) rfl ?_
  refine c76_1 (B := B)  a1 (by omega) (hJ.up (by omega)) (by omega) (by omega) (fun v503 hv503 hFv503 hqv503_0 hqv503_1 => ?_)
  show X (EE s) d 75 4 [(0, zr g0 9), (1, zi a1), (2, zi a2)] [zi v503] m _
  refine X.istore_n 5 [(0, zr g0 9), (1, zi a1), (2, zi a2), (3, zi v503)] (zi75 4) rfl rfl rfl ?_
  refine X.iload_n 6 (zi75 5) rfl rfl rfl ?_
  refine X.iconst 7 (zi75 6) rfl rfl (by decide) ?_
  refine X.icmpeq 28 10 (zi75 7) rfl rfl rfl (fun h504 => ?_) (fun h504 => ?_)
  · refine X.cut [] (zi75 28) rfl ?_
    refine X.iconst 29 (zi75 28) rfl rfl (by decide) ?_
    refine X.retz (zi75 29) rfl t75 (by omega) ?_
    exact hQ 0 (by first | trivial | omega) (Eq.trans (zn_eq hFv503.symm) (Eq.trans (if_pos h504) rfl)) (by omega) (by omega)
  · refine X.iload_n 11 (zi75 10) rfl rfl rfl ?_
    refine X.gets 14 (zi75 11) rfl rfl (by decide) ?_
    refine X.iload_n 15 (zi75 14) rfl rfl rfl ?_
    refine X.rald 16 (zi75 15) rfl rfl (by decide) (by show 0 ≤ _ ∧ _ < (13 : Int); omega) (fun hz505 => ?_)
    have gz505 := z_roB (s := s) (p := 2) (i := v503) (by decide)
    obtain ⟨z505, ez505⟩ : ∃ z, z = z_ro (EE s) 2 v503 := ⟨_, rfl⟩
    have ggz505 := z_ro5 (s := s) (p := 2) (i := v503) (by decide)
    rw [← ez505] at hz505 gz505 ggz505 ⊢
    refine X.icmplt 28 19 (zi75 16) rfl rfl rfl (fun h506 => ?_) (fun h506 => ?_)
    · refine X.cut [] (zi75 28) rfl ?_
      refine X.iconst 29 (zi75 28) rfl rfl (by decide) ?_
      refine X.retz (zi75 29) rfl t75 (by omega) ?_
      exact hQ 0 (by first | trivial | omega) (Eq.trans (zn_eq hFv503.symm) (Eq.trans (if_neg h504) (Eq.trans (zn_eq (p := zro 2 v503) ez505) (Eq.trans (if_pos h506) rfl)))) (by omega) (by omega)
    · refine X.iload_n 20 (zi75 19) rfl rfl rfl ?_
      refine X.gets 23 (zi75 20) rfl rfl (by decide) ?_
      refine X.iload_n 24 (zi75 23) rfl rfl rfl ?_
      refine X.rald 25 (zi75 24) rfl rfl (by decide) (by show 0 ≤ _ ∧ _ < (13 : Int); omega) (fun hz507 => ?_)
      have gz507 := z_roB (s := s) (p := 3) (i := v503) (by decide)
      obtain ⟨z507, ez507⟩ : ∃ z, z = z_ro (EE s) 3 v503 := ⟨_, rfl⟩
      have ggz507 := z_ro5 (s := s) (p := 3) (i := v503) (by decide)
      rw [← ez507] at hz507 gz507 ggz507 ⊢
      refine X.icmple 30 28 (zi75 25) rfl rfl rfl (fun h508 => ?_) (fun h508 => ?_)
      · refine X.cut [(1, zi a1), (2, zi a2)] (zi75 30) rfl ?_
        refine X.iload_n 31 (zi75 30) rfl rfl rfl ?_
        refine X.iconst 32 (zi75 31) rfl rfl (by decide) ?_
        have hK518 : ∀ (v : Int) , (0 ≤ v ∧ v ≤ 1) → (if a1 = 4 then
            (if a2 = 60 then
            (1)
            else
            (if a2 = 300 then
            (1)
            else
            (if a2 = 900 then
            (1)
            else
            (if a2 = 1800 then
            (1)
            else
            (if a2 = 3600 then
            (1)
            else
            (0))))))
            else
            (1)) = v → X (EE s) d 75 74 [] [zi v] m Q := by
          intro v515 hv515 hT519
          refine X.retz (zi75 74) rfl t75 (by omega) ?_
          exact hQ v515 (by first | trivial | omega) (Eq.trans (zn_eq hFv503.symm) (Eq.trans (if_neg h504) (Eq.trans (zn_eq (p := zro 2 v503) ez505) (Eq.trans (if_neg h506) (Eq.trans (zn_eq (p := zro 3 v503) ez507) (Eq.trans (if_pos h508) (Eq.trans (zn_eq hT519.symm) rfl))))))) (by omega) (by omega)
        refine X.icmpne 69 35 (zi75 32) rfl rfl rfl (fun h509 => ?_) (fun h509 => ?_)
        · refine X.cut [] (zi75 69) rfl ?_
          refine X.iconst 70 (zi75 69) rfl rfl (by decide) ?_
          refine X.goto 74 (zi75 70) rfl rfl ?_
          exact hK518 1 (by first | trivial | omega) (Eq.trans (if_neg h509) rfl)
        · refine X.iload_n 36 (zi75 35) rfl rfl rfl ?_
          refine X.bipush 38 (zi75 36) rfl rfl (by decide) ?_
          refine X.icmpeq 69 41 (zi75 38) rfl rfl rfl (fun h510 => ?_) (fun h510 => ?_)
          · refine X.cut [] (zi75 69) rfl ?_
            refine X.iconst 70 (zi75 69) rfl rfl (by decide) ?_
            refine X.goto 74 (zi75 70) rfl rfl ?_
            exact hK518 1 (by first | trivial | omega) (Eq.trans (if_pos h509) (Eq.trans (if_pos h510) rfl))
          · refine X.iload_n 42 (zi75 41) rfl rfl rfl ?_
            refine X.sipush 45 (zi75 42) rfl rfl (by decide) ?_
            refine X.icmpeq 69 48 (zi75 45) rfl rfl rfl (fun h511 => ?_) (fun h511 => ?_)
            · refine X.cut [] (zi75 69) rfl ?_
              refine X.iconst 70 (zi75 69) rfl rfl (by decide) ?_
              refine X.goto 74 (zi75 70) rfl rfl ?_
              exact hK518 1 (by first | trivial | omega) (Eq.trans (if_pos h509) (Eq.trans (if_neg h510) (Eq.trans (if_pos h511) rfl)))
            · refine X.iload_n 49 (zi75 48) rfl rfl rfl ?_
              refine X.sipush 52 (zi75 49) rfl rfl (by decide) ?_
              refine X.icmpeq 69 55 (zi75 52) rfl rfl rfl (fun h512 => ?_) (fun h512 => ?_)
              · refine X.cut [] (zi75 69) rfl ?_
                refine X.iconst 70 (zi75 69) rfl rfl (by decide) ?_
                refine X.goto 74 (zi75 70) rfl rfl ?_
                exact hK518 1 (by first | trivial | omega) (Eq.trans (if_pos h509) (Eq.trans (if_neg h510) (Eq.trans (if_neg h511) (Eq.trans (if_pos h512) rfl))))
              · refine X.iload_n 56 (zi75 55) rfl rfl rfl ?_
                refine X.sipush 59 (zi75 56) rfl rfl (by decide) ?_
                refine X.icmpeq 69 62 (zi75 59) rfl rfl rfl (fun h513 => ?_) (fun h513 => ?_)
                · refine X.cut [] (zi75 69) rfl ?_
                  refine X.iconst 70 (zi75 69) rfl rfl (by decide) ?_
                  refine X.goto 74 (zi75 70) rfl rfl ?_
                  exact hK518 1 (by first | trivial | omega) (Eq.trans (if_pos h509) (Eq.trans (if_neg h510) (Eq.trans (if_neg h511) (Eq.trans (if_neg h512) (Eq.trans (if_pos h513) rfl)))))
                · refine X.iload_n 63 (zi75 62) rfl rfl rfl ?_
                  refine X.sipush 66 (zi75 63) rfl rfl (by decide) ?_
                  refine X.icmpne 73 69 (zi75 66) rfl rfl rfl (fun h514 => ?_) (fun h514 => ?_)
                  · refine X.cut [] (zi75 73) rfl ?_
                    refine X.iconst 74 (zi75 73) rfl rfl (by decide) ?_
                    exact hK518 0 (by first | trivial | omega) (Eq.trans (if_pos h509) (Eq.trans (if_neg h510) (Eq.trans (if_neg h511) (Eq.trans (if_neg h512) (Eq.trans (if_neg h513) (Eq.trans (if_neg h514) rfl))))))
                  · refine X.cut [] (zi75 69) rfl ?_
                    refine X.iconst 70 (zi75 69) rfl rfl (by decide) ?_
                    refine X.goto 74 (zi75 70) rfl rfl ?_
                    exact hK518 1 (by first | trivial | omega) (Eq.trans (if_pos h509) (Eq.trans (if_neg h510) (Eq.trans (if_neg h511) (Eq.trans (if_neg h512) (Eq.trans (if_neg h513) (Eq.trans (if_pos h514) rfl))))))
      · refine X.cut [] (zi75 28) rfl ?_
        refine X.iconst 29 (zi75 28) rfl rfl (by decide) ?_
        refine X.retz (zi75 29) rfl t75 (by omega) ?_
        exact hQ 0 (by first | trivial | omega) (Eq.trans (zn_eq hFv503.symm) (Eq.trans (if_neg h504) (Eq.trans (zn_eq (p := zro 2 v503) ez505) (Eq.trans (if_neg h506) (Eq.trans (zn_eq (p := zro 3 v503) ez507) (Eq.trans (if_neg h508) rfl)))))) (by omega) (by omega)
-- WorkMeter$Settings.tell
noncomputable def f77_1 (g0 : Nat) (a1 a2 : Int) (m : zM) : zM :=
  zn (f76_1 a1 m) fun v503 =>
  zs (if v503 = (-1) then
  (m)
  else
  (zs (z_upd m g0 10 v503 a2) fun m505 =>
  m505)) fun m508 =>
  m508
-- WorkMeter$Settings.tell
theorem c77_1 {s : Nat × (Nat → Int32)} {S : zS} {m0 m : zM} {B : Int} {d : Nat} {Q : Option zV → zM → Prop} (g0 : Nat) (a1 a2 : Int) (hd : 14 ≤ d) (hJ : J S m0 B m) (hB : B + 0 ≤ 1000000000) (ha1 : (-2147483648) ≤ a1 ∧ a1 ≤ 2147483647) (ha2 : 0 ≤ a2 ∧ a2 ≤ 1000000) (hp0 : a1 = 5 → 1 ≤ a2 ∧ a2 ≤ 6) (hf3 : ¬ S.1 3) (hgg0 : ¬ S.2.1 g0) (hQ : ∀ m', f77_1 g0 a1 a2 m = m' → J S m0 (B) m' → Q none m') : X (EE s) d 77 0 [(0, zr g0 9), (1, zi a1), (2, zi a2)] [] m Q := by
  refine X.iload_n 1 (zi77 0) rfl rfl rfl ?_
  refine X.calls 4 [zi a1] [] [(0, zi a1)] (zi77 1) (by decide) rfl rfl (by omega) rfl rfl t76 (Nat.le_of_ble_eq_true rfl) (Nat.le_of_ble_eq_true rfl) rfl ?_
  refine c76_1 (B := B)  a1 (by omega) (hJ.up (by omega)) (by omega) (by omega) (fun v503 hv503 hFv503 hqv503_0 hqv503_1 => ?_)
  show X (EE s) d 77 4 [(0, zr g0 9), (1, zi a1), (2, zi a2)] [zi v503] m _
  refine X.istore_n 5 [(0, zr g0 9), (1, zi a1), (2, zi a2), (3, zi v503)] (zi77 4) rfl rfl rfl ?_
  refine X.iload_n 6 (zi77 5) rfl rfl rfl ?_
  refine X.iconst 7 (zi77 6) rfl rfl (by decide) ?_
  have hK510 : ∀ (m' : zM), (if v503 = (-1) then
      (m)
      else
      (zs (z_upd m g0 10 v503 a2) fun m505 =>
      m505)) = m' → J S m0 (B) m' → X (EE s) d 77 17 [] [] m' Q := by
    intro m508 hT511 hJ509
    refine X.retv (zi77 17) rfl t77 ?_
    exact hQ  m508  (Eq.trans (zn_eq hFv503.symm) (Eq.trans (zs_eq hT511.symm) rfl)) (hJ509.up (by omega)) 
  refine X.icmpeq 17 10 (zi77 7) rfl rfl rfl (fun h504 => ?_) (fun h504 => ?_)
  · refine X.cut [] (zi77 17) rfl ?_
    exact hK510 m (Eq.trans (if_pos h504) rfl) (hJ.up (by omega))
  · refine X.aload_n 11 (zi77 10) rfl rfl rfl ?_
    refine X.getR 14 (zi77 11) rfl rfl (by decide) rfl rfl ?_
    refine X.iload_n 15 (zi77 14) rfl rfl rfl ?_
    refine X.iload_n 16 (zi77 15) rfl rfl rfl ?_
    refine X.iast' 17 (zi77 16) rfl rfl (by decide) rfl (by omega) (fun hrm505 m505 hm505 => ?_)
    have hJ506 := w10_all hJ hm505 (by omega) (by omega) (by omega) hf3 hgg0
    refine X.cut [] (zi77 17) rfl ?_
    exact hK510 m505 (Eq.trans (if_neg h504) (Eq.trans (zs_eq hm505) rfl)) (hJ506.up (by omega))
-- WorkMeter$Settings.tell
theorem c77_2 {s : Nat × (Nat → Int32)} {S : zS} {m0 m : zM} {B : Int} {d : Nat} {Q : Option zV → zM → Prop} (g0 : Nat) (a1 a2 : Int) (hd : 14 ≤ d) (hJ : J S m0 B m) (hB : B + 0 ≤ 1000000000) (ha1 : (-2147483648) ≤ a1 ∧ a1 ≤ 2147483647) (ha2 : 0 ≤ a2 ∧ a2 ≤ 1000000) (hp0 : a1 = 5 → 1 ≤ a2 ∧ a2 ≤ 6) (hf3 : ¬ S.1 3) (hgg0 : ¬ S.2.1 g0) (hQ : ∀ m', f77_1 g0 a1 a2 m = m' → J S m0 (B) m' → Q none m') : X (EE s) d 77 0 [(0, zr g0 9), (1, zi a1), (2, zi a2)] [] m Q := by
  refine X.iload_n 1 (zi77 0) rfl rfl rfl ?_
  refine X.calls 4 [zi a1] [] [(0, zi a1)] (zi77 1) (by decide) rfl rfl (by omega) rfl rfl t76 (Nat.le_of_ble_eq_true rfl) (Nat.le_of_ble_eq_true rfl) rfl ?_
  refine c76_1 (B := B)  a1 (by omega) (hJ.up (by omega)) (by omega) (by omega) (fun v503 hv503 hFv503 hqv503_0 hqv503_1 => ?_)
  show X (EE s) d 77 4 [(0, zr g0 9), (1, zi a1), (2, zi a2)] [zi v503] m _
  refine X.istore_n 5 [(0, zr g0 9), (1, zi a1), (2, zi a2), (3, zi v503)] (zi77 4) rfl rfl rfl ?_
  refine X.iload_n 6 (zi77 5) rfl rfl rfl ?_
  refine X.iconst 7 (zi77 6) rfl rfl (by decide) ?_
  have hK510 : ∀ (m' : zM), (if v503 = (-1) then
      (m)
      else
      (zs (z_upd m g0 10 v503 a2) fun m505 =>
      m505)) = m' → J S m0 (B) m' → X (EE s) d 77 17 [] [] m' Q := by
    intro m508 hT511 hJ509
    refine X.retv (zi77 17) rfl t77 ?_
    exact hQ  m508  (Eq.trans (zn_eq hFv503.symm) (Eq.trans (zs_eq hT511.symm) rfl)) (hJ509.up (by omega)) 
  refine X.icmpeq 17 10 (zi77 7) rfl rfl rfl (fun h504 => ?_) (fun h504 => ?_)
  · refine X.cut [] (zi77 17) rfl ?_
    exact hK510 m (Eq.trans (if_pos h504) rfl) (hJ.up (by omega))
  · refine X.aload_n 11 (zi77 10) rfl rfl rfl ?_
    refine X.getR 14 (zi77 11) rfl rfl (by decide) rfl rfl ?_
    refine X.iload_n 15 (zi77 14) rfl rfl rfl ?_
    refine X.iload_n 16 (zi77 15) rfl rfl rfl ?_
    refine X.iast' 17 (zi77 16) rfl rfl (by decide) rfl (by omega) (fun hrm505 m505 hm505 => ?_)
    have hJ506 := w10_all hJ hm505 (by omega) (by omega) (by omega) hf3 hgg0
    refine X.cut [] (zi77 17) rfl ?_
    exact hK510 m505 (Eq.trans (if_neg h504) (Eq.trans (zs_eq hm505) rfl)) (hJ506.up (by omega))
-- WorkMeter$Meter.tellSetting
noncomputable def f74_1 (g0 : Nat) (a1 a2 : Int) (m : zM) : Int × zM :=
  zn (f75_1 g0 a1 a2 m) fun v503 =>
  if v503 = 0 then
  ((0, m))
  else
  (if a1 = 1 then
  (if (m g0 8 13) ≤ 0 then
  (zs (f77_1 g0 a1 a2 m) fun m523 =>
  (1, m523))
  else
  ((0, m)))
  else
  (zs (if a1 = 4 then
  (zs (f60_1 g0 (m g0 8 9) (max 1 (m g0 10 4)) 64 m) fun m509 =>
  m509)
  else
  (m)) fun m513 =>
  zs (f77_1 g0 a1 a2 m513) fun m517 =>
  (1, m517)))
-- WorkMeter$Meter.tellSetting
theorem c74_1 {s : Nat × (Nat → Int32)} {S : zS} {m0 m : zM} {B : Int} {d : Nat} {Q : Option zV → zM → Prop} (g0 : Nat) (a1 a2 : Int) (hd : 15 ≤ d) (hJ : J S m0 B m) (hB : B + 1 ≤ 1000000000) (ha1 : (-2147483648) ≤ a1 ∧ a1 ≤ 2147483647) (ha2 : (-2147483648) ≤ a2 ∧ a2 ≤ 2147483647) (hf3 : ¬ S.1 3) (hf7 : ¬ S.1 7) (hgg0 : ¬ S.2.1 g0) (hQ : ∀ (v : Int) m', (0 ≤ v ∧ v ≤ 1) → f74_1 g0 a1 a2 m = (v, m') → J S m0 (B + 1) m' → Q (some (zi v)) m') : X (EE s) d 74 0 [(0, zr g0 8), (1, zi a1), (2, zi a2)] [] m Q := by
  refine X.aload_n 1 (zi74 0) rfl rfl rfl ?_
  refine X.getR 4 (zi74 1) rfl rfl (by decide) rfl rfl ?_
  refine X.iload_n 5 (zi74 4) rfl rfl rfl ?_
  refine X.iload_n 6 (zi74 5) rfl rfl rfl ?_
  refine X.callv 9 [zi a1, zi a2] [] [(0, zr g0 9), (1, zi a1), (2, zi a2)] (zi74 6) rfl (by decide) rfl rfl (by omega) rfl rfl (by decide) rfl t75 (Nat.le_of_ble_eq_true rfl) (Nat.le_of_ble_eq_true rfl) rfl ?_
  refine c75_1 (B := B) g0 a1 a2 (by omega) (hJ.up (by omega)) (by omega) (by omega) (by omega) (fun v503 hv503 hFv503 hqv503_0 hqv503_1 => ?_)
  show X (EE s) d 74 9 [(0, zr g0 8), (1, zi a1), (2, zi a2)] [zi v503] m _
  refine X.ifeq 24 12 (zi74 9) rfl rfl rfl (fun h504 => ?_) (fun h504 => ?_)
  · refine X.cut [] (zi74 24) rfl ?_
    refine X.iconst 25 (zi74 24) rfl rfl (by decide) ?_
    refine X.retz (zi74 25) rfl t74 (by omega) ?_
    exact hQ 0 m (by first | trivial | omega) (Eq.trans (zn_eq hFv503.symm) (Eq.trans (if_pos h504) rfl)) (hJ.up (by omega)) 
  · refine X.iload_n 13 (zi74 12) rfl rfl rfl ?_
    refine X.iconst 14 (zi74 13) rfl rfl (by decide) ?_
    refine X.icmpne 26 17 (zi74 14) rfl rfl rfl (fun h505 => ?_) (fun h505 => ?_)
    · refine X.iload_n 27 (zi74 26) rfl rfl rfl ?_
      refine X.iconst 28 (zi74 27) rfl rfl (by decide) ?_
      have hK515 : ∀ (m' : zM), (if a1 = 4 then
          (zs (f60_1 g0 (m g0 8 9) (max 1 (m g0 10 4)) 64 m) fun m509 =>
          m509)
          else
          (m)) = m' → J S m0 (B + 1) m' → X (EE s) d 74 51 [(0, zr g0 8), (1, zi a1), (2, zi a2)] [] m' Q := by
        intro m513 hT516 hJ514
        refine X.aload_n 52 (zi74 51) rfl rfl rfl ?_
        refine X.getR 55 (zi74 52) rfl rfl (by decide) rfl rfl ?_
        refine X.iload_n 56 (zi74 55) rfl rfl rfl ?_
        refine X.iload_n 57 (zi74 56) rfl rfl rfl ?_
        refine X.callv 60 [zi a1, zi a2] [] [(0, zr g0 9), (1, zi a1), (2, zi a2)] (zi74 57) rfl (by decide) rfl rfl (by omega) rfl rfl (by decide) rfl t77 (Nat.le_of_ble_eq_true rfl) (Nat.le_of_ble_eq_true rfl) rfl ?_
        refine c77_1 (B := B + 1) g0 a1 a2 (by omega) (hJ514.up (by omega)) (by omega) (by omega) (by omega) (by omega) hf3 hgg0 (fun m517 hFv519 hJ518 => ?_)
        show X (EE s) d 74 60 [(0, zr g0 8), (1, zi a1), (2, zi a2)] [] m517 _
        refine X.iconst 61 (zi74 60) rfl rfl (by decide) ?_
        refine X.retz (zi74 61) rfl t74 (by omega) ?_
        exact hQ 1 m517 (by first | trivial | omega) (Eq.trans (zn_eq hFv503.symm) (Eq.trans (if_neg h504) (Eq.trans (if_neg h505) (Eq.trans (zs_eq hT516.symm) (Eq.trans (zs_eq hFv519.symm) rfl))))) (hJ518.up (by omega)) 
      refine X.icmpne 51 31 (zi74 28) rfl rfl rfl (fun h506 => ?_) (fun h506 => ?_)
      · exact hK515 m (Eq.trans (if_neg h506) rfl) (hJ.up (by omega))
      · refine X.aload_n 32 (zi74 31) rfl rfl rfl ?_
        refine X.getR 35 (zi74 32) rfl rfl (by decide) rfl rfl ?_
        refine X.aload_n 36 (zi74 35) rfl rfl rfl ?_
        refine X.getI 39 9 (zi74 36) rfl rfl (by decide) rfl rfl rfl ?_
        have h507 := r8_9 hJ g0
        refine X.aload_n 40 (zi74 39) rfl rfl rfl ?_
        refine X.getR 43 (zi74 40) rfl rfl (by decide) rfl rfl ?_
        refine X.callv 46 [] [zi (m g0 8 9), zr g0 27] [(0, zr g0 9)] (zi74 43) rfl (by decide) rfl rfl (by omega) rfl rfl (by decide) rfl t36 (Nat.le_of_ble_eq_true rfl) (Nat.le_of_ble_eq_true rfl) rfl ?_
        refine X.iconst 1 (zi36 0) rfl rfl (by decide) ?_
        refine X.aload_n 2 (zi36 1) rfl rfl rfl ?_
        refine X.getR 5 (zi36 2) rfl rfl (by decide) rfl rfl ?_
        refine X.iconst 6 (zi36 5) rfl rfl (by decide) ?_
        refine X.iald 7 (zi36 6) rfl rfl (by decide) rfl (by omega) ?_
        have h508 := r10_0 hJ g0 (i := 4) (by omega)
        refine X.maxI 10 (zi36 7) rfl rfl (by omega) (Nat.le_of_ble_eq_true rfl) ?_
        refine X.reti (zi36 10) rfl t36 ?_
        show X (EE s) d 74 46 [(0, zr g0 8), (1, zi a1), (2, zi a2)] [zi (max 1 (m g0 10 4)), zi (m g0 8 9), zr g0 27] m _
        refine X.bipush 48 (zi74 46) rfl rfl (by decide) ?_
        refine X.callv 51 [zi (m g0 8 9), zi (max 1 (m g0 10 4)), zi 64] [] [(0, zr g0 27), (1, zi (m g0 8 9)), (2, zi (max 1 (m g0 10 4))), (3, zi 64)] (zi74 48) rfl (by decide) rfl rfl (by omega) rfl rfl (by decide) rfl t60 (Nat.le_of_ble_eq_true rfl) (Nat.le_of_ble_eq_true rfl) rfl ?_
        refine c60_1 (B := B) g0 (m g0 8 9) (max 1 (m g0 10 4)) 64 (by omega) (hJ.up (by omega)) (by omega) (by omega) (by omega) (by omega) hf7 hgg0 (fun m509 hFv511 hJ510 => ?_)
        show X (EE s) d 74 51 [(0, zr g0 8), (1, zi a1), (2, zi a2)] [] m509 _
        exact hK515 m509 (Eq.trans (if_pos h506) (Eq.trans (zs_eq hFv511.symm) rfl)) (hJ510.up (by omega))
    · refine X.aload_n 18 (zi74 17) rfl rfl rfl ?_
      refine X.getIr 21 13 (zi74 18) rfl rfl (by decide) rfl rfl rfl (fun h520 => ?_)
      refine X.ifle 26 24 (zi74 21) rfl rfl rfl (fun h521 => ?_) (fun h521 => ?_)
      · refine X.iload_n 27 (zi74 26) rfl rfl rfl ?_
        refine X.iconst 28 (zi74 27) rfl rfl (by decide) ?_
        refine X.icmpne 51 31 (zi74 28) rfl rfl rfl (fun h522 => ?_) (fun h522 => (by exfalso; omega))
        refine X.aload_n 52 (zi74 51) rfl rfl rfl ?_
        refine X.getR 55 (zi74 52) rfl rfl (by decide) rfl rfl ?_
        refine X.iload_n 56 (zi74 55) rfl rfl rfl ?_
        refine X.iload_n 57 (zi74 56) rfl rfl rfl ?_
        refine X.callv 60 [zi a1, zi a2] [] [(0, zr g0 9), (1, zi a1), (2, zi a2)] (zi74 57) rfl (by decide) rfl rfl (by omega) rfl rfl (by decide) rfl t77 (Nat.le_of_ble_eq_true rfl) (Nat.le_of_ble_eq_true rfl) rfl ?_
        refine c77_2 (B := B) g0 a1 a2 (by omega) (hJ.up (by omega)) (by omega) (by omega) (by omega) (by omega) hf3 hgg0 (fun m523 hFv525 hJ524 => ?_)
        show X (EE s) d 74 60 [(0, zr g0 8), (1, zi a1), (2, zi a2)] [] m523 _
        refine X.iconst 61 (zi74 60) rfl rfl (by decide) ?_
        refine X.retz (zi74 61) rfl t74 (by omega) ?_
        exact hQ 1 m523 (by first | trivial | omega) (Eq.trans (zn_eq hFv503.symm) (Eq.trans (if_neg h504) (Eq.trans (if_pos h505) (Eq.trans (if_pos h521) (Eq.trans (zs_eq hFv525.symm) rfl))))) (hJ524.up (by omega)) 
      · refine X.cut [] (zi74 24) rfl ?_
        refine X.iconst 25 (zi74 24) rfl rfl (by decide) ?_
        refine X.retz (zi74 25) rfl t74 (by omega) ?_
        exact hQ 0 m (by first | trivial | omega) (Eq.trans (zn_eq hFv503.symm) (Eq.trans (if_neg h504) (Eq.trans (if_pos h505) (Eq.trans (if_neg h521) rfl)))) (hJ.up (by omega)) 
-- WorkMeter.set
noncomputable def f73_1 (a1 a2 : Int) (m : zM) : Int × zM :=
  zb (f17_1 0 m) fun v503 m501 =>
  if v503 = 0 then
  (zb (f74_1 0 a1 a2 m501) fun v507 m505 =>
  (v507, m505))
  else
  ((0, m501))
-- WorkMeter.set
theorem c73_1 {s : Nat × (Nat → Int32)} {S : zS} {m0 m : zM} {B : Int} {d : Nat} {Q : Option zV → zM → Prop} (a1 a2 : Int) (hd : 16 ≤ d) (hJ : J S m0 B m) (hB : B + 1 ≤ 1000000000) (ha1 : (-2147483648) ≤ a1 ∧ a1 ≤ 2147483647) (ha2 : (-2147483648) ≤ a2 ∧ a2 ≤ 2147483647) (hf3 : ¬ S.1 3) (hf4 : ¬ S.1 4) (hf7 : ¬ S.1 7) (hg0 : ¬ S.2.1 0) (hQ : ∀ (v : Int) m', (0 ≤ v ∧ v ≤ 1) → f73_1 a1 a2 m = (v, m') → J S m0 (B + 1) m' → Q (some (zi v)) m') : X (EE s) d 73 0 [(0, zr 4 40), (1, zi a1), (2, zi a2)] [] m Q := by
  refine X.aload_n 1 (zi73 0) rfl rfl rfl ?_
  refine X.getF 4 (zi73 1) rfl rfl (by decide) rfl rfl ?_
  refine X.getR 7 (zi73 4) rfl rfl (by decide) rfl rfl ?_
  refine X.callv 10 [] [] [(0, zr 0 39)] (zi73 7) rfl (by decide) rfl rfl (by omega) rfl rfl (by decide) rfl t17 (Nat.le_of_ble_eq_true rfl) (Nat.le_of_ble_eq_true rfl) rfl ?_
  refine c17_1 (B := B) 0  (by omega) (hJ.up (by omega)) (by omega)  hf4 hg0 (fun v503 m501 hv503 hFv503 hJ502 => ?_)
  show X (EE s) d 73 10 [(0, zr 4 40), (1, zi a1), (2, zi a2)] [zi v503] m501 _
  refine X.ifeq 15 13 (zi73 10) rfl rfl rfl (fun h504 => ?_) (fun h504 => ?_)
  · refine X.aload_n 16 (zi73 15) rfl rfl rfl ?_
    refine X.getF 19 (zi73 16) rfl rfl (by decide) rfl rfl ?_
    refine X.iload_n 20 (zi73 19) rfl rfl rfl ?_
    refine X.iload_n 21 (zi73 20) rfl rfl rfl ?_
    refine X.callv 24 [zi a1, zi a2] [] [(0, zr 0 8), (1, zi a1), (2, zi a2)] (zi73 21) rfl (by decide) rfl rfl (by omega) rfl rfl (by decide) rfl t74 (Nat.le_of_ble_eq_true rfl) (Nat.le_of_ble_eq_true rfl) rfl ?_
    refine c74_1 (B := B) 0 a1 a2 (by omega) (hJ502.up (by omega)) (by omega) (by omega) (by omega) hf3 hf7 hg0 (fun v507 m505 hv507 hFv507 hJ506 => ?_)
    show X (EE s) d 73 24 [(0, zr 4 40), (1, zi a1), (2, zi a2)] [zi v507] m505 _
    refine X.retz (zi73 24) rfl t73 (by omega) ?_
    exact hQ v507 m505 (by first | trivial | omega) (Eq.trans (zb_eq hFv503) (Eq.trans (if_pos h504) (Eq.trans (zb_eq hFv507) rfl))) (hJ506.up (by omega)) 
  · refine X.iconst 14 (zi73 13) rfl rfl (by decide) ?_
    refine X.retz (zi73 14) rfl t73 (by omega) ?_
    exact hQ 0 m501 (by first | trivial | omega) (Eq.trans (zb_eq hFv503) (Eq.trans (if_neg h504) rfl)) (hJ502.up (by omega)) 
-- WorkMeterModel.set
noncomputable def f280_1 (a1 a2 : Int) (m : zM) : Int × zM :=
  zb (f203_1 m) fun v503 m501 =>
  if v503 = 0 then
  (if a1 = 0 then
  (if a2 < 0 then
  ((0, m501))
  else
  (if a2 ≤ 1000000 then
  (zs (z_upd m501 4 45 4 a2) fun m513 =>
  (1, m513))
  else
  ((0, m501))))
  else
  (if a1 = 1 then
  (if a2 < 1 then
  ((0, m501))
  else
  (if a2 ≤ 1000000 then
  (if (m501 4 45 13) ≤ 0 then
  (zs (z_upd m501 4 45 5 a2) fun m526 =>
  (1, m526))
  else
  ((0, m501)))
  else
  ((0, m501))))
  else
  (if a1 = 2 then
  (if a2 < 0 then
  ((0, m501))
  else
  (if a2 ≤ 250000 then
  (zs (z_upd m501 4 45 6 a2) fun m536 =>
  (1, m536))
  else
  ((0, m501))))
  else
  (if a1 = 3 then
  (if a2 < 0 then
  ((0, m501))
  else
  (if a2 ≤ 60 then
  (zs (z_upd m501 4 45 7 a2) fun m546 =>
  (1, m546))
  else
  ((0, m501))))
  else
  (if a1 = 4 then
  (if a2 = 60 then
  (zs (f232_1 64 m501) fun m550 =>
  zs (z_upd m550 4 45 8 a2) fun m553 =>
  zs (f233_1 m553) fun m555 =>
  (1, m555))
  else
  (if a2 = 300 then
  (zs (f232_1 64 m501) fun m559 =>
  zs (z_upd m559 4 45 8 a2) fun m562 =>
  zs (f233_1 m562) fun m564 =>
  (1, m564))
  else
  (if a2 = 900 then
  (zs (f232_1 64 m501) fun m568 =>
  zs (z_upd m568 4 45 8 a2) fun m571 =>
  zs (f233_1 m571) fun m573 =>
  (1, m573))
  else
  (if a2 = 1800 then
  (zs (f232_1 64 m501) fun m577 =>
  zs (z_upd m577 4 45 8 a2) fun m580 =>
  zs (f233_1 m580) fun m582 =>
  (1, m582))
  else
  (if a2 = 3600 then
  (zs (f232_1 64 m501) fun m586 =>
  zs (z_upd m586 4 45 8 a2) fun m589 =>
  zs (f233_1 m589) fun m591 =>
  (1, m591))
  else
  ((0, m501)))))))
  else
  (if a1 = 5 then
  (if a2 < 1 then
  ((0, m501))
  else
  (if a2 ≤ 6 then
  (zs (z_upd m501 4 45 9 a2) fun m602 =>
  (1, m602))
  else
  ((0, m501))))
  else
  (if a1 = 6 then
  ((0, m501))
  else
  (if a1 = 7 then
  ((0, m501))
  else
  (if a1 = 8 then
  ((0, m501))
  else
  (if a1 = 9 then
  ((0, m501))
  else
  (if a1 = 10 then
  (if a2 < 0 then
  ((0, m501))
  else
  (if a2 ≤ 100 then
  (zs (z_upd m501 4 45 ((28 + a1) - 10) a2) fun m633 =>
  (1, m633))
  else
  ((0, m501))))
  else
  (if a1 = 11 then
  (if a2 < 0 then
  ((0, m501))
  else
  (if a2 ≤ 100 then
  (zs (z_upd m501 4 45 ((28 + a1) - 10) a2) fun m648 =>
  (1, m648))
  else
  ((0, m501))))
  else
  (if a1 = 12 then
  (if a2 < 0 then
  ((0, m501))
  else
  (if a2 ≤ 100 then
  (zs (z_upd m501 4 45 ((28 + a1) - 10) a2) fun m663 =>
  (1, m663))
  else
  ((0, m501))))
  else
  (if a1 = 13 then
  (if a2 < 0 then
  ((0, m501))
  else
  (if a2 ≤ 100 then
  (zs (z_upd m501 4 45 ((28 + a1) - 10) a2) fun m678 =>
  (1, m678))
  else
  ((0, m501))))
  else
  (if a1 = 14 then
  ((0, m501))
  else
  (if a1 = 15 then
  ((0, m501))
  else
  (if a1 = 16 then
  ((0, m501))
  else
  (if a1 = 17 then
  ((0, m501))
  else
  (if a1 = 18 then
  ((0, m501))
  else
  (if a1 = 19 then
  ((0, m501))
  else
  (if a1 = 20 then
  (if a2 < 0 then
  ((0, m501))
  else
  (if a2 ≤ 100 then
  (zs (z_upd m501 4 45 ((1611 + a1) - 20) a2) fun m725 =>
  (1, m725))
  else
  ((0, m501))))
  else
  (if a1 = 21 then
  (if a2 < 0 then
  ((0, m501))
  else
  (if a2 ≤ 200 then
  (zs (z_upd m501 4 45 ((1611 + a1) - 20) a2) fun m736 =>
  (1, m736))
  else
  ((0, m501))))
  else
  (if a1 = 22 then
  (if a2 < 0 then
  ((0, m501))
  else
  (if a2 ≤ 100 then
  (zs (z_upd m501 4 45 ((1611 + a1) - 20) a2) fun m747 =>
  (1, m747))
  else
  ((0, m501))))
  else
  (if a1 < 10 then
  ((0, m501))
  else
  (if a1 ≤ 13 then
  (if a2 < 0 then
  ((0, m501))
  else
  (if a2 ≤ 100 then
  (zs (z_upd m501 4 45 ((28 + a1) - 10) a2) fun m763 =>
  (1, m763))
  else
  ((0, m501))))
  else
  ((0, m501)))))))))))))))))))))))))))
  else
  ((0, m501))
end
section
-- WorkMeterModel.set
theorem c280_1 {s : Nat × (Nat → Int32)} {S : zS} {m0 m : zM} {B : Int} {d : Nat} {Q : Option zV → zM → Prop} (a1 a2 : Int) (hd : 18 ≤ d) (hJ : J S m0 B m) (hB : B + 1 ≤ 1000000000) (ha1 : (-2147483648) ≤ a1 ∧ a1 ≤ 2147483647) (ha2 : (-2147483648) ≤ a2 ∧ a2 ≤ 2147483647) (hf23 : ¬ S.1 23) (hf24 : ¬ S.1 24) (hf27 : ¬ S.1 27) (hf28 : ¬ S.1 28) (hg4 : ¬ S.2.1 4) (hQ : ∀ (v : Int) m', (0 ≤ v ∧ v ≤ 1) → f280_1 a1 a2 m = (v, m') → J S m0 (B + 1) m' → Q (some (zi v)) m') : X (EE s) d 280 0 [(0, zr 4 44), (1, zi a1), (2, zi a2)] [] m Q := by
  refine X.aload_n 1 (zi280 0) rfl rfl rfl ?_
  refine X.callv 4 [] [] [(0, zr 4 44)] (zi280 1) rfl (by decide) rfl rfl (by omega) rfl rfl (by decide) rfl t203 (Nat.le_of_ble_eq_true rfl) (Nat.le_of_ble_eq_true rfl) rfl ?_
  refine c203_1 (B := B)   (by omega) (hJ.up (by omega)) (by omega)  hf24 hg4 (fun v503 m501 hv503 hFv503 hJ502 => ?_)
  show X (EE s) d 280 4 [(0, zr 4 44), (1, zi a1), (2, zi a2)] [zi v503] m501 _
  refine X.ifeq 9 7 (zi280 4) rfl rfl rfl (fun h504 => ?_) (fun h504 => ?_)
  · refine X.iload_n 10 (zi280 9) rfl rfl rfl ?_
    by_cases h505 : a1 = 0
    · refine X.tsIn 116 0 (zi280 10) rfl (by omega) rfl rfl ?_
      refine X.cut [(0, zr 4 44), (2, zi a2)] (zi280 116) rfl ?_
      refine X.iload_n 117 (zi280 116) rfl rfl rfl ?_
      refine X.i2l 118 (zi280 117) rfl rfl ?_
      refine X.lconst (y := 0) 119 (zi280 118) rfl rfl rfl ?_
      refine X.ldc2 122 (zi280 119) rfl rfl (by decide) ?_
      refine X.calls 125 [zl a2, zl 0, zl 1000000] [] [(0, zl a2), (2, zl 0), (4, zl 1000000)] (zi280 122) (by decide) rfl rfl (by omega) rfl rfl t204 (Nat.le_of_ble_eq_true rfl) (Nat.le_of_ble_eq_true rfl) rfl ?_
      refine X.lload_n 1 (zi204 0) rfl rfl rfl ?_
      refine X.lload_n 2 (zi204 1) rfl rfl rfl ?_
      refine X.lcmp 3 (zi204 2) rfl rfl (fun z506 hz506 => ?_)
      refine X.iflt 17 6 (zi204 3) rfl rfl rfl (fun h507 => ?_) (fun h507 => ?_)
      · have h507c : a2 < 0 := by omega
        clear h507 hz506
        refine X.cut [] (zi204 17) rfl ?_
        refine X.iconst 18 (zi204 17) rfl rfl (by decide) ?_
        refine X.retz (zi204 18) rfl t204 (by omega) ?_
        show X (EE s) d 280 125 [(0, zr 4 44), (2, zi a2)] [zi 0] m501 _
        refine X.ifne 130 128 (zi280 125) rfl rfl rfl (fun h508 => (by exfalso; omega)) (fun h508 => ?_)
        refine X.iconst 129 (zi280 128) rfl rfl (by decide) ?_
        refine X.retz (zi280 129) rfl t280 (by omega) ?_
        exact hQ 0 m501 (by first | trivial | omega) (Eq.trans (zb_eq hFv503) (Eq.trans (if_pos h504) (Eq.trans (if_pos h505) (Eq.trans (if_pos h507c) rfl)))) (hJ502.up (by omega)) 
      · have h507c : ¬ a2 < 0 := by omega
        clear h507 hz506
        refine X.lload_n 7 (zi204 6) rfl rfl rfl ?_
        refine X.lload 9 (zi204 7) rfl rfl rfl ?_
        refine X.lcmp 10 (zi204 9) rfl rfl (fun z509 hz509 => ?_)
        refine X.ifgt 17 13 (zi204 10) rfl rfl rfl (fun h510 => ?_) (fun h510 => ?_)
        · have h510c : ¬ a2 ≤ 1000000 := by omega
          clear h510 hz509
          refine X.cut [] (zi204 17) rfl ?_
          refine X.iconst 18 (zi204 17) rfl rfl (by decide) ?_
          refine X.retz (zi204 18) rfl t204 (by omega) ?_
          show X (EE s) d 280 125 [(0, zr 4 44), (2, zi a2)] [zi 0] m501 _
          refine X.ifne 130 128 (zi280 125) rfl rfl rfl (fun h511 => (by exfalso; omega)) (fun h511 => ?_)
          refine X.iconst 129 (zi280 128) rfl rfl (by decide) ?_
          refine X.retz (zi280 129) rfl t280 (by omega) ?_
          exact hQ 0 m501 (by first | trivial | omega) (Eq.trans (zb_eq hFv503) (Eq.trans (if_pos h504) (Eq.trans (if_pos h505) (Eq.trans (if_neg h507c) (Eq.trans (if_neg h510c) rfl))))) (hJ502.up (by omega)) 
        · have h510c : a2 ≤ 1000000 := by omega
          clear h510 hz509
          refine X.iconst 14 (zi204 13) rfl rfl (by decide) ?_
          refine X.goto 18 (zi204 14) rfl rfl ?_
          refine X.cut [] (zi204 18) rfl ?_
          refine X.retz (zi204 18) rfl t204 (by omega) ?_
          show X (EE s) d 280 125 [(0, zr 4 44), (2, zi a2)] [zi 1] m501 _
          refine X.ifne 130 128 (zi280 125) rfl rfl rfl (fun h512 => ?_) (fun h512 => (by exfalso; omega))
          refine X.aload_n 131 (zi280 130) rfl rfl rfl ?_
          refine X.getF 134 (zi280 131) rfl rfl (by decide) rfl rfl ?_
          refine X.iconst 135 (zi280 134) rfl rfl (by decide) ?_
          refine X.iload_n 136 (zi280 135) rfl rfl rfl ?_
          refine X.i2l 137 (zi280 136) rfl rfl ?_
          refine X.last' 138 (zi280 137) rfl rfl (by decide) rfl (by omega) (fun hrm513 m513 hm513 => ?_)
          have hJ514 := w45_4 hJ502 hm513 (by omega) hf23 hg4
          refine X.iconst 139 (zi280 138) rfl rfl (by decide) ?_
          refine X.retz (zi280 139) rfl t280 (by omega) ?_
          exact hQ 1 m513 (by first | trivial | omega) (Eq.trans (zb_eq hFv503) (Eq.trans (if_pos h504) (Eq.trans (if_pos h505) (Eq.trans (if_neg h507c) (Eq.trans (if_pos h510c) (Eq.trans (zs_eq hm513) rfl)))))) (hJ514.up (by omega)) 
    by_cases h515 : a1 = 1
    · refine X.tsIn 140 1 (zi280 10) rfl (by omega) rfl rfl ?_
      refine X.cut [(0, zr 4 44), (2, zi a2)] (zi280 140) rfl ?_
      refine X.iload_n 141 (zi280 140) rfl rfl rfl ?_
      refine X.i2l 142 (zi280 141) rfl rfl ?_
      refine X.lconst (y := 1) 143 (zi280 142) rfl rfl rfl ?_
      refine X.ldc2 146 (zi280 143) rfl rfl (by decide) ?_
      refine X.calls 149 [zl a2, zl 1, zl 1000000] [] [(0, zl a2), (2, zl 1), (4, zl 1000000)] (zi280 146) (by decide) rfl rfl (by omega) rfl rfl t204 (Nat.le_of_ble_eq_true rfl) (Nat.le_of_ble_eq_true rfl) rfl ?_
      refine X.lload_n 1 (zi204 0) rfl rfl rfl ?_
      refine X.lload_n 2 (zi204 1) rfl rfl rfl ?_
      refine X.lcmp 3 (zi204 2) rfl rfl (fun z516 hz516 => ?_)
      refine X.iflt 17 6 (zi204 3) rfl rfl rfl (fun h517 => ?_) (fun h517 => ?_)
      · have h517c : a2 < 1 := by omega
        clear h517 hz516
        refine X.cut [] (zi204 17) rfl ?_
        refine X.iconst 18 (zi204 17) rfl rfl (by decide) ?_
        refine X.retz (zi204 18) rfl t204 (by omega) ?_
        show X (EE s) d 280 149 [(0, zr 4 44), (2, zi a2)] [zi 0] m501 _
        refine X.ifeq 164 152 (zi280 149) rfl rfl rfl (fun h518 => ?_) (fun h518 => (by exfalso; omega))
        refine X.cut [] (zi280 164) rfl ?_
        refine X.iconst 165 (zi280 164) rfl rfl (by decide) ?_
        refine X.retz (zi280 165) rfl t280 (by omega) ?_
        exact hQ 0 m501 (by first | trivial | omega) (Eq.trans (zb_eq hFv503) (Eq.trans (if_pos h504) (Eq.trans (if_neg h505) (Eq.trans (if_pos h515) (Eq.trans (if_pos h517c) rfl))))) (hJ502.up (by omega)) 
      · have h517c : ¬ a2 < 1 := by omega
        clear h517 hz516
        refine X.lload_n 7 (zi204 6) rfl rfl rfl ?_
        refine X.lload 9 (zi204 7) rfl rfl rfl ?_
        refine X.lcmp 10 (zi204 9) rfl rfl (fun z519 hz519 => ?_)
        refine X.ifgt 17 13 (zi204 10) rfl rfl rfl (fun h520 => ?_) (fun h520 => ?_)
        · have h520c : ¬ a2 ≤ 1000000 := by omega
          clear h520 hz519
          refine X.cut [] (zi204 17) rfl ?_
          refine X.iconst 18 (zi204 17) rfl rfl (by decide) ?_
          refine X.retz (zi204 18) rfl t204 (by omega) ?_
          show X (EE s) d 280 149 [(0, zr 4 44), (2, zi a2)] [zi 0] m501 _
          refine X.ifeq 164 152 (zi280 149) rfl rfl rfl (fun h521 => ?_) (fun h521 => (by exfalso; omega))
          refine X.cut [] (zi280 164) rfl ?_
          refine X.iconst 165 (zi280 164) rfl rfl (by decide) ?_
          refine X.retz (zi280 165) rfl t280 (by omega) ?_
          exact hQ 0 m501 (by first | trivial | omega) (Eq.trans (zb_eq hFv503) (Eq.trans (if_pos h504) (Eq.trans (if_neg h505) (Eq.trans (if_pos h515) (Eq.trans (if_neg h517c) (Eq.trans (if_neg h520c) rfl)))))) (hJ502.up (by omega)) 
        · have h520c : a2 ≤ 1000000 := by omega
          clear h520 hz519
          refine X.iconst 14 (zi204 13) rfl rfl (by decide) ?_
          refine X.goto 18 (zi204 14) rfl rfl ?_
          refine X.cut [] (zi204 18) rfl ?_
          refine X.retz (zi204 18) rfl t204 (by omega) ?_
          show X (EE s) d 280 149 [(0, zr 4 44), (2, zi a2)] [zi 1] m501 _
          refine X.ifeq 164 152 (zi280 149) rfl rfl rfl (fun h522 => (by exfalso; omega)) (fun h522 => ?_)
          refine X.aload_n 153 (zi280 152) rfl rfl rfl ?_
          refine X.getF 156 (zi280 153) rfl rfl (by decide) rfl rfl ?_
          refine X.bipush 158 (zi280 156) rfl rfl (by decide) ?_
          refine X.lald 159 (zi280 158) rfl rfl (by decide) rfl (by omega) ?_
          have h523 := r45_13 hJ502 4
          refine X.lconst (y := 0) 160 (zi280 159) rfl rfl rfl ?_
          refine X.lcmp 161 (zi280 160) rfl rfl (fun z524 hz524 => ?_)
          refine X.ifle 166 164 (zi280 161) rfl rfl rfl (fun h525 => ?_) (fun h525 => ?_)
          · have h525c : (m501 4 45 13) ≤ 0 := by omega
            clear h525 hz524
            refine X.aload_n 167 (zi280 166) rfl rfl rfl ?_
            refine X.getF 170 (zi280 167) rfl rfl (by decide) rfl rfl ?_
            refine X.iconst 171 (zi280 170) rfl rfl (by decide) ?_
            refine X.iload_n 172 (zi280 171) rfl rfl rfl ?_
            refine X.i2l 173 (zi280 172) rfl rfl ?_
            refine X.last' 174 (zi280 173) rfl rfl (by decide) rfl (by omega) (fun hrm526 m526 hm526 => ?_)
            have hJ527 := w45_5 hJ502 hm526 (by omega) hf23 hg4
            refine X.iconst 175 (zi280 174) rfl rfl (by decide) ?_
            refine X.retz (zi280 175) rfl t280 (by omega) ?_
            exact hQ 1 m526 (by first | trivial | omega) (Eq.trans (zb_eq hFv503) (Eq.trans (if_pos h504) (Eq.trans (if_neg h505) (Eq.trans (if_pos h515) (Eq.trans (if_neg h517c) (Eq.trans (if_pos h520c) (Eq.trans (if_pos h525c) (Eq.trans (zs_eq hm526) rfl)))))))) (hJ527.up (by omega)) 
          · have h525c : ¬ (m501 4 45 13) ≤ 0 := by omega
            clear h525 hz524
            refine X.cut [] (zi280 164) rfl ?_
            refine X.iconst 165 (zi280 164) rfl rfl (by decide) ?_
            refine X.retz (zi280 165) rfl t280 (by omega) ?_
            exact hQ 0 m501 (by first | trivial | omega) (Eq.trans (zb_eq hFv503) (Eq.trans (if_pos h504) (Eq.trans (if_neg h505) (Eq.trans (if_pos h515) (Eq.trans (if_neg h517c) (Eq.trans (if_pos h520c) (Eq.trans (if_neg h525c) rfl))))))) (hJ502.up (by omega)) 
    by_cases h528 : a1 = 2
    · refine X.tsIn 176 2 (zi280 10) rfl (by omega) rfl rfl ?_
      refine X.cut [(0, zr 4 44), (2, zi a2)] (zi280 176) rfl ?_
      refine X.iload_n 177 (zi280 176) rfl rfl rfl ?_
      refine X.i2l 178 (zi280 177) rfl rfl ?_
      refine X.lconst (y := 0) 179 (zi280 178) rfl rfl rfl ?_
      refine X.ldc2 182 (zi280 179) rfl rfl (by decide) ?_
      refine X.calls 185 [zl a2, zl 0, zl 250000] [] [(0, zl a2), (2, zl 0), (4, zl 250000)] (zi280 182) (by decide) rfl rfl (by omega) rfl rfl t204 (Nat.le_of_ble_eq_true rfl) (Nat.le_of_ble_eq_true rfl) rfl ?_
      refine X.lload_n 1 (zi204 0) rfl rfl rfl ?_
      refine X.lload_n 2 (zi204 1) rfl rfl rfl ?_
      refine X.lcmp 3 (zi204 2) rfl rfl (fun z529 hz529 => ?_)
      refine X.iflt 17 6 (zi204 3) rfl rfl rfl (fun h530 => ?_) (fun h530 => ?_)
      · have h530c : a2 < 0 := by omega
        clear h530 hz529
        refine X.cut [] (zi204 17) rfl ?_
        refine X.iconst 18 (zi204 17) rfl rfl (by decide) ?_
        refine X.retz (zi204 18) rfl t204 (by omega) ?_
        show X (EE s) d 280 185 [(0, zr 4 44), (2, zi a2)] [zi 0] m501 _
        refine X.ifne 190 188 (zi280 185) rfl rfl rfl (fun h531 => (by exfalso; omega)) (fun h531 => ?_)
        refine X.iconst 189 (zi280 188) rfl rfl (by decide) ?_
        refine X.retz (zi280 189) rfl t280 (by omega) ?_
        exact hQ 0 m501 (by first | trivial | omega) (Eq.trans (zb_eq hFv503) (Eq.trans (if_pos h504) (Eq.trans (if_neg h505) (Eq.trans (if_neg h515) (Eq.trans (if_pos h528) (Eq.trans (if_pos h530c) rfl)))))) (hJ502.up (by omega)) 
      · have h530c : ¬ a2 < 0 := by omega
        clear h530 hz529
        refine X.lload_n 7 (zi204 6) rfl rfl rfl ?_
        refine X.lload 9 (zi204 7) rfl rfl rfl ?_
        refine X.lcmp 10 (zi204 9) rfl rfl (fun z532 hz532 => ?_)
        refine X.ifgt 17 13 (zi204 10) rfl rfl rfl (fun h533 => ?_) (fun h533 => ?_)
        · have h533c : ¬ a2 ≤ 250000 := by omega
          clear h533 hz532
          refine X.cut [] (zi204 17) rfl ?_
          refine X.iconst 18 (zi204 17) rfl rfl (by decide) ?_
          refine X.retz (zi204 18) rfl t204 (by omega) ?_
          show X (EE s) d 280 185 [(0, zr 4 44), (2, zi a2)] [zi 0] m501 _
          refine X.ifne 190 188 (zi280 185) rfl rfl rfl (fun h534 => (by exfalso; omega)) (fun h534 => ?_)
          refine X.iconst 189 (zi280 188) rfl rfl (by decide) ?_
          refine X.retz (zi280 189) rfl t280 (by omega) ?_
          exact hQ 0 m501 (by first | trivial | omega) (Eq.trans (zb_eq hFv503) (Eq.trans (if_pos h504) (Eq.trans (if_neg h505) (Eq.trans (if_neg h515) (Eq.trans (if_pos h528) (Eq.trans (if_neg h530c) (Eq.trans (if_neg h533c) rfl))))))) (hJ502.up (by omega)) 
        · have h533c : a2 ≤ 250000 := by omega
          clear h533 hz532
          refine X.iconst 14 (zi204 13) rfl rfl (by decide) ?_
          refine X.goto 18 (zi204 14) rfl rfl ?_
          refine X.cut [] (zi204 18) rfl ?_
          refine X.retz (zi204 18) rfl t204 (by omega) ?_
          show X (EE s) d 280 185 [(0, zr 4 44), (2, zi a2)] [zi 1] m501 _
          refine X.ifne 190 188 (zi280 185) rfl rfl rfl (fun h535 => ?_) (fun h535 => (by exfalso; omega))
          refine X.aload_n 191 (zi280 190) rfl rfl rfl ?_
          refine X.getF 194 (zi280 191) rfl rfl (by decide) rfl rfl ?_
          refine X.bipush 196 (zi280 194) rfl rfl (by decide) ?_
          refine X.iload_n 197 (zi280 196) rfl rfl rfl ?_
          refine X.i2l 198 (zi280 197) rfl rfl ?_
          refine X.last' 199 (zi280 198) rfl rfl (by decide) rfl (by omega) (fun hrm536 m536 hm536 => ?_)
          have hJ537 := w45_6 hJ502 hm536 (by omega) hf23 hg4
          refine X.iconst 200 (zi280 199) rfl rfl (by decide) ?_
          refine X.retz (zi280 200) rfl t280 (by omega) ?_
          exact hQ 1 m536 (by first | trivial | omega) (Eq.trans (zb_eq hFv503) (Eq.trans (if_pos h504) (Eq.trans (if_neg h505) (Eq.trans (if_neg h515) (Eq.trans (if_pos h528) (Eq.trans (if_neg h530c) (Eq.trans (if_pos h533c) (Eq.trans (zs_eq hm536) rfl)))))))) (hJ537.up (by omega)) 
    by_cases h538 : a1 = 3
    · refine X.tsIn 201 3 (zi280 10) rfl (by omega) rfl rfl ?_
      refine X.cut [(0, zr 4 44), (2, zi a2)] (zi280 201) rfl ?_
      refine X.iload_n 202 (zi280 201) rfl rfl rfl ?_
      refine X.i2l 203 (zi280 202) rfl rfl ?_
      refine X.lconst (y := 0) 204 (zi280 203) rfl rfl rfl ?_
      refine X.ldc2 207 (zi280 204) rfl rfl (by decide) ?_
      refine X.calls 210 [zl a2, zl 0, zl 60] [] [(0, zl a2), (2, zl 0), (4, zl 60)] (zi280 207) (by decide) rfl rfl (by omega) rfl rfl t204 (Nat.le_of_ble_eq_true rfl) (Nat.le_of_ble_eq_true rfl) rfl ?_
      refine X.lload_n 1 (zi204 0) rfl rfl rfl ?_
      refine X.lload_n 2 (zi204 1) rfl rfl rfl ?_
      refine X.lcmp 3 (zi204 2) rfl rfl (fun z539 hz539 => ?_)
      refine X.iflt 17 6 (zi204 3) rfl rfl rfl (fun h540 => ?_) (fun h540 => ?_)
      · have h540c : a2 < 0 := by omega
        clear h540 hz539
        refine X.cut [] (zi204 17) rfl ?_
        refine X.iconst 18 (zi204 17) rfl rfl (by decide) ?_
        refine X.retz (zi204 18) rfl t204 (by omega) ?_
        show X (EE s) d 280 210 [(0, zr 4 44), (2, zi a2)] [zi 0] m501 _
        refine X.ifne 215 213 (zi280 210) rfl rfl rfl (fun h541 => (by exfalso; omega)) (fun h541 => ?_)
        refine X.iconst 214 (zi280 213) rfl rfl (by decide) ?_
        refine X.retz (zi280 214) rfl t280 (by omega) ?_
        exact hQ 0 m501 (by first | trivial | omega) (Eq.trans (zb_eq hFv503) (Eq.trans (if_pos h504) (Eq.trans (if_neg h505) (Eq.trans (if_neg h515) (Eq.trans (if_neg h528) (Eq.trans (if_pos h538) (Eq.trans (if_pos h540c) rfl))))))) (hJ502.up (by omega)) 
      · have h540c : ¬ a2 < 0 := by omega
        clear h540 hz539
        refine X.lload_n 7 (zi204 6) rfl rfl rfl ?_
        refine X.lload 9 (zi204 7) rfl rfl rfl ?_
        refine X.lcmp 10 (zi204 9) rfl rfl (fun z542 hz542 => ?_)
        refine X.ifgt 17 13 (zi204 10) rfl rfl rfl (fun h543 => ?_) (fun h543 => ?_)
        · have h543c : ¬ a2 ≤ 60 := by omega
          clear h543 hz542
          refine X.cut [] (zi204 17) rfl ?_
          refine X.iconst 18 (zi204 17) rfl rfl (by decide) ?_
          refine X.retz (zi204 18) rfl t204 (by omega) ?_
          show X (EE s) d 280 210 [(0, zr 4 44), (2, zi a2)] [zi 0] m501 _
          refine X.ifne 215 213 (zi280 210) rfl rfl rfl (fun h544 => (by exfalso; omega)) (fun h544 => ?_)
          refine X.iconst 214 (zi280 213) rfl rfl (by decide) ?_
          refine X.retz (zi280 214) rfl t280 (by omega) ?_
          exact hQ 0 m501 (by first | trivial | omega) (Eq.trans (zb_eq hFv503) (Eq.trans (if_pos h504) (Eq.trans (if_neg h505) (Eq.trans (if_neg h515) (Eq.trans (if_neg h528) (Eq.trans (if_pos h538) (Eq.trans (if_neg h540c) (Eq.trans (if_neg h543c) rfl)))))))) (hJ502.up (by omega)) 
        · have h543c : a2 ≤ 60 := by omega
          clear h543 hz542
          refine X.iconst 14 (zi204 13) rfl rfl (by decide) ?_
          refine X.goto 18 (zi204 14) rfl rfl ?_
          refine X.cut [] (zi204 18) rfl ?_
          refine X.retz (zi204 18) rfl t204 (by omega) ?_
          show X (EE s) d 280 210 [(0, zr 4 44), (2, zi a2)] [zi 1] m501 _
          refine X.ifne 215 213 (zi280 210) rfl rfl rfl (fun h545 => ?_) (fun h545 => (by exfalso; omega))
          refine X.aload_n 216 (zi280 215) rfl rfl rfl ?_
          refine X.getF 219 (zi280 216) rfl rfl (by decide) rfl rfl ?_
          refine X.bipush 221 (zi280 219) rfl rfl (by decide) ?_
          refine X.iload_n 222 (zi280 221) rfl rfl rfl ?_
          refine X.i2l 223 (zi280 222) rfl rfl ?_
          refine X.last' 224 (zi280 223) rfl rfl (by decide) rfl (by omega) (fun hrm546 m546 hm546 => ?_)
          have hJ547 := w45_7 hJ502 hm546 (by omega) hf23 hg4
          refine X.iconst 225 (zi280 224) rfl rfl (by decide) ?_
          refine X.retz (zi280 225) rfl t280 (by omega) ?_
          exact hQ 1 m546 (by first | trivial | omega) (Eq.trans (zb_eq hFv503) (Eq.trans (if_pos h504) (Eq.trans (if_neg h505) (Eq.trans (if_neg h515) (Eq.trans (if_neg h528) (Eq.trans (if_pos h538) (Eq.trans (if_neg h540c) (Eq.trans (if_pos h543c) (Eq.trans (zs_eq hm546) rfl))))))))) (hJ547.up (by omega)) 
    by_cases h548 : a1 = 4
    · refine X.tsIn 226 4 (zi280 10) rfl (by omega) rfl rfl ?_
      refine X.cut [(0, zr 4 44), (2, zi a2)] (zi280 226) rfl ?_
      refine X.iload_n 227 (zi280 226) rfl rfl rfl ?_
      refine X.bipush 229 (zi280 227) rfl rfl (by decide) ?_
      refine X.icmpeq 262 232 (zi280 229) rfl rfl rfl (fun h549 => ?_) (fun h549 => ?_)
      · refine X.aload_n 263 (zi280 262) rfl rfl rfl ?_
        refine X.ldc2 266 (zi280 263) rfl rfl (by decide) ?_
        refine X.callv 269 [zl 64] [] [(0, zr 4 44), (1, zl 64)] (zi280 266) rfl (by decide) rfl rfl (by omega) rfl rfl (by decide) rfl t232 (Nat.le_of_ble_eq_true rfl) (Nat.le_of_ble_eq_true rfl) rfl ?_
        refine c232_1 (B := B)  64 (by omega) (hJ502.up (by omega)) (by omega) (by omega) hf27 hf28 hg4 (fun m550 hFv552 hJ551 => ?_)
        show X (EE s) d 280 269 [(0, zr 4 44), (2, zi a2)] [] m550 _
        refine X.aload_n 270 (zi280 269) rfl rfl rfl ?_
        refine X.getF 273 (zi280 270) rfl rfl (by decide) rfl rfl ?_
        refine X.bipush 275 (zi280 273) rfl rfl (by decide) ?_
        refine X.iload_n 276 (zi280 275) rfl rfl rfl ?_
        refine X.i2l 277 (zi280 276) rfl rfl ?_
        refine X.last' 278 (zi280 277) rfl rfl (by decide) rfl (by omega) (fun hrm553 m553 hm553 => ?_)
        have hJ554 := w45_8 hJ551 hm553 (by omega) hf23 hg4
        refine X.aload_n 279 (zi280 278) rfl rfl rfl ?_
        refine X.callv 282 [] [] [(0, zr 4 44)] (zi280 279) rfl (by decide) rfl rfl (by omega) rfl rfl (by decide) rfl t233 (Nat.le_of_ble_eq_true rfl) (Nat.le_of_ble_eq_true rfl) rfl ?_
        refine c233_1 (B := B + 1)   (by omega) (hJ554.up (by omega)) (by omega)  hf27 hg4 (fun m555 hFv557 hJ556 => ?_)
        show X (EE s) d 280 282 [(0, zr 4 44), (2, zi a2)] [] m555 _
        refine X.iconst 283 (zi280 282) rfl rfl (by decide) ?_
        refine X.retz (zi280 283) rfl t280 (by omega) ?_
        exact hQ 1 m555 (by first | trivial | omega) (Eq.trans (zb_eq hFv503) (Eq.trans (if_pos h504) (Eq.trans (if_neg h505) (Eq.trans (if_neg h515) (Eq.trans (if_neg h528) (Eq.trans (if_neg h538) (Eq.trans (if_pos h548) (Eq.trans (if_pos h549) (Eq.trans (zs_eq hFv552.symm) (Eq.trans (zs_eq hm553) (Eq.trans (zs_eq hFv557.symm) rfl))))))))))) (hJ556.up (by omega)) 
      · refine X.iload_n 233 (zi280 232) rfl rfl rfl ?_
        refine X.sipush 236 (zi280 233) rfl rfl (by decide) ?_
        refine X.icmpeq 262 239 (zi280 236) rfl rfl rfl (fun h558 => ?_) (fun h558 => ?_)
        · refine X.aload_n 263 (zi280 262) rfl rfl rfl ?_
          refine X.ldc2 266 (zi280 263) rfl rfl (by decide) ?_
          refine X.callv 269 [zl 64] [] [(0, zr 4 44), (1, zl 64)] (zi280 266) rfl (by decide) rfl rfl (by omega) rfl rfl (by decide) rfl t232 (Nat.le_of_ble_eq_true rfl) (Nat.le_of_ble_eq_true rfl) rfl ?_
          refine c232_1 (B := B)  64 (by omega) (hJ502.up (by omega)) (by omega) (by omega) hf27 hf28 hg4 (fun m559 hFv561 hJ560 => ?_)
          show X (EE s) d 280 269 [(0, zr 4 44), (2, zi a2)] [] m559 _
          refine X.aload_n 270 (zi280 269) rfl rfl rfl ?_
          refine X.getF 273 (zi280 270) rfl rfl (by decide) rfl rfl ?_
          refine X.bipush 275 (zi280 273) rfl rfl (by decide) ?_
          refine X.iload_n 276 (zi280 275) rfl rfl rfl ?_
          refine X.i2l 277 (zi280 276) rfl rfl ?_
          refine X.last' 278 (zi280 277) rfl rfl (by decide) rfl (by omega) (fun hrm562 m562 hm562 => ?_)
          have hJ563 := w45_8 hJ560 hm562 (by omega) hf23 hg4
          refine X.aload_n 279 (zi280 278) rfl rfl rfl ?_
          refine X.callv 282 [] [] [(0, zr 4 44)] (zi280 279) rfl (by decide) rfl rfl (by omega) rfl rfl (by decide) rfl t233 (Nat.le_of_ble_eq_true rfl) (Nat.le_of_ble_eq_true rfl) rfl ?_
          refine c233_1 (B := B + 1)   (by omega) (hJ563.up (by omega)) (by omega)  hf27 hg4 (fun m564 hFv566 hJ565 => ?_)
          show X (EE s) d 280 282 [(0, zr 4 44), (2, zi a2)] [] m564 _
          refine X.iconst 283 (zi280 282) rfl rfl (by decide) ?_
          refine X.retz (zi280 283) rfl t280 (by omega) ?_
          exact hQ 1 m564 (by first | trivial | omega) (Eq.trans (zb_eq hFv503) (Eq.trans (if_pos h504) (Eq.trans (if_neg h505) (Eq.trans (if_neg h515) (Eq.trans (if_neg h528) (Eq.trans (if_neg h538) (Eq.trans (if_pos h548) (Eq.trans (if_neg h549) (Eq.trans (if_pos h558) (Eq.trans (zs_eq hFv561.symm) (Eq.trans (zs_eq hm562) (Eq.trans (zs_eq hFv566.symm) rfl)))))))))))) (hJ565.up (by omega)) 
        · refine X.iload_n 240 (zi280 239) rfl rfl rfl ?_
          refine X.sipush 243 (zi280 240) rfl rfl (by decide) ?_
          refine X.icmpeq 262 246 (zi280 243) rfl rfl rfl (fun h567 => ?_) (fun h567 => ?_)
          · refine X.aload_n 263 (zi280 262) rfl rfl rfl ?_
            refine X.ldc2 266 (zi280 263) rfl rfl (by decide) ?_
            refine X.callv 269 [zl 64] [] [(0, zr 4 44), (1, zl 64)] (zi280 266) rfl (by decide) rfl rfl (by omega) rfl rfl (by decide) rfl t232 (Nat.le_of_ble_eq_true rfl) (Nat.le_of_ble_eq_true rfl) rfl ?_
            refine c232_1 (B := B)  64 (by omega) (hJ502.up (by omega)) (by omega) (by omega) hf27 hf28 hg4 (fun m568 hFv570 hJ569 => ?_)
            show X (EE s) d 280 269 [(0, zr 4 44), (2, zi a2)] [] m568 _
            refine X.aload_n 270 (zi280 269) rfl rfl rfl ?_
            refine X.getF 273 (zi280 270) rfl rfl (by decide) rfl rfl ?_
            refine X.bipush 275 (zi280 273) rfl rfl (by decide) ?_
            refine X.iload_n 276 (zi280 275) rfl rfl rfl ?_
            refine X.i2l 277 (zi280 276) rfl rfl ?_
            refine X.last' 278 (zi280 277) rfl rfl (by decide) rfl (by omega) (fun hrm571 m571 hm571 => ?_)
            have hJ572 := w45_8 hJ569 hm571 (by omega) hf23 hg4
            refine X.aload_n 279 (zi280 278) rfl rfl rfl ?_
            refine X.callv 282 [] [] [(0, zr 4 44)] (zi280 279) rfl (by decide) rfl rfl (by omega) rfl rfl (by decide) rfl t233 (Nat.le_of_ble_eq_true rfl) (Nat.le_of_ble_eq_true rfl) rfl ?_
            refine c233_1 (B := B + 1)   (by omega) (hJ572.up (by omega)) (by omega)  hf27 hg4 (fun m573 hFv575 hJ574 => ?_)
            show X (EE s) d 280 282 [(0, zr 4 44), (2, zi a2)] [] m573 _
            refine X.iconst 283 (zi280 282) rfl rfl (by decide) ?_
            refine X.retz (zi280 283) rfl t280 (by omega) ?_
            exact hQ 1 m573 (by first | trivial | omega) (Eq.trans (zb_eq hFv503) (Eq.trans (if_pos h504) (Eq.trans (if_neg h505) (Eq.trans (if_neg h515) (Eq.trans (if_neg h528) (Eq.trans (if_neg h538) (Eq.trans (if_pos h548) (Eq.trans (if_neg h549) (Eq.trans (if_neg h558) (Eq.trans (if_pos h567) (Eq.trans (zs_eq hFv570.symm) (Eq.trans (zs_eq hm571) (Eq.trans (zs_eq hFv575.symm) rfl))))))))))))) (hJ574.up (by omega)) 
          · refine X.iload_n 247 (zi280 246) rfl rfl rfl ?_
            refine X.sipush 250 (zi280 247) rfl rfl (by decide) ?_
            refine X.icmpeq 262 253 (zi280 250) rfl rfl rfl (fun h576 => ?_) (fun h576 => ?_)
            · refine X.aload_n 263 (zi280 262) rfl rfl rfl ?_
              refine X.ldc2 266 (zi280 263) rfl rfl (by decide) ?_
              refine X.callv 269 [zl 64] [] [(0, zr 4 44), (1, zl 64)] (zi280 266) rfl (by decide) rfl rfl (by omega) rfl rfl (by decide) rfl t232 (Nat.le_of_ble_eq_true rfl) (Nat.le_of_ble_eq_true rfl) rfl ?_
              refine c232_1 (B := B)  64 (by omega) (hJ502.up (by omega)) (by omega) (by omega) hf27 hf28 hg4 (fun m577 hFv579 hJ578 => ?_)
              show X (EE s) d 280 269 [(0, zr 4 44), (2, zi a2)] [] m577 _
              refine X.aload_n 270 (zi280 269) rfl rfl rfl ?_
              refine X.getF 273 (zi280 270) rfl rfl (by decide) rfl rfl ?_
              refine X.bipush 275 (zi280 273) rfl rfl (by decide) ?_
              refine X.iload_n 276 (zi280 275) rfl rfl rfl ?_
              refine X.i2l 277 (zi280 276) rfl rfl ?_
              refine X.last' 278 (zi280 277) rfl rfl (by decide) rfl (by omega) (fun hrm580 m580 hm580 => ?_)
              have hJ581 := w45_8 hJ578 hm580 (by omega) hf23 hg4
              refine X.aload_n 279 (zi280 278) rfl rfl rfl ?_
              refine X.callv 282 [] [] [(0, zr 4 44)] (zi280 279) rfl (by decide) rfl rfl (by omega) rfl rfl (by decide) rfl t233 (Nat.le_of_ble_eq_true rfl) (Nat.le_of_ble_eq_true rfl) rfl ?_
              refine c233_1 (B := B + 1)   (by omega) (hJ581.up (by omega)) (by omega)  hf27 hg4 (fun m582 hFv584 hJ583 => ?_)
              show X (EE s) d 280 282 [(0, zr 4 44), (2, zi a2)] [] m582 _
              refine X.iconst 283 (zi280 282) rfl rfl (by decide) ?_
              refine X.retz (zi280 283) rfl t280 (by omega) ?_
              exact hQ 1 m582 (by first | trivial | omega) (Eq.trans (zb_eq hFv503) (Eq.trans (if_pos h504) (Eq.trans (if_neg h505) (Eq.trans (if_neg h515) (Eq.trans (if_neg h528) (Eq.trans (if_neg h538) (Eq.trans (if_pos h548) (Eq.trans (if_neg h549) (Eq.trans (if_neg h558) (Eq.trans (if_neg h567) (Eq.trans (if_pos h576) (Eq.trans (zs_eq hFv579.symm) (Eq.trans (zs_eq hm580) (Eq.trans (zs_eq hFv584.symm) rfl)))))))))))))) (hJ583.up (by omega)) 
            · refine X.iload_n 254 (zi280 253) rfl rfl rfl ?_
              refine X.sipush 257 (zi280 254) rfl rfl (by decide) ?_
              refine X.icmpeq 262 260 (zi280 257) rfl rfl rfl (fun h585 => ?_) (fun h585 => ?_)
              · refine X.aload_n 263 (zi280 262) rfl rfl rfl ?_
                refine X.ldc2 266 (zi280 263) rfl rfl (by decide) ?_
                refine X.callv 269 [zl 64] [] [(0, zr 4 44), (1, zl 64)] (zi280 266) rfl (by decide) rfl rfl (by omega) rfl rfl (by decide) rfl t232 (Nat.le_of_ble_eq_true rfl) (Nat.le_of_ble_eq_true rfl) rfl ?_
                refine c232_1 (B := B)  64 (by omega) (hJ502.up (by omega)) (by omega) (by omega) hf27 hf28 hg4 (fun m586 hFv588 hJ587 => ?_)
                show X (EE s) d 280 269 [(0, zr 4 44), (2, zi a2)] [] m586 _
                refine X.aload_n 270 (zi280 269) rfl rfl rfl ?_
                refine X.getF 273 (zi280 270) rfl rfl (by decide) rfl rfl ?_
                refine X.bipush 275 (zi280 273) rfl rfl (by decide) ?_
                refine X.iload_n 276 (zi280 275) rfl rfl rfl ?_
                refine X.i2l 277 (zi280 276) rfl rfl ?_
                refine X.last' 278 (zi280 277) rfl rfl (by decide) rfl (by omega) (fun hrm589 m589 hm589 => ?_)
                have hJ590 := w45_8 hJ587 hm589 (by omega) hf23 hg4
                refine X.aload_n 279 (zi280 278) rfl rfl rfl ?_
                refine X.callv 282 [] [] [(0, zr 4 44)] (zi280 279) rfl (by decide) rfl rfl (by omega) rfl rfl (by decide) rfl t233 (Nat.le_of_ble_eq_true rfl) (Nat.le_of_ble_eq_true rfl) rfl ?_
                refine c233_1 (B := B + 1)   (by omega) (hJ590.up (by omega)) (by omega)  hf27 hg4 (fun m591 hFv593 hJ592 => ?_)
                show X (EE s) d 280 282 [(0, zr 4 44), (2, zi a2)] [] m591 _
                refine X.iconst 283 (zi280 282) rfl rfl (by decide) ?_
                refine X.retz (zi280 283) rfl t280 (by omega) ?_
                exact hQ 1 m591 (by first | trivial | omega) (Eq.trans (zb_eq hFv503) (Eq.trans (if_pos h504) (Eq.trans (if_neg h505) (Eq.trans (if_neg h515) (Eq.trans (if_neg h528) (Eq.trans (if_neg h538) (Eq.trans (if_pos h548) (Eq.trans (if_neg h549) (Eq.trans (if_neg h558) (Eq.trans (if_neg h567) (Eq.trans (if_neg h576) (Eq.trans (if_pos h585) (Eq.trans (zs_eq hFv588.symm) (Eq.trans (zs_eq hm589) (Eq.trans (zs_eq hFv593.symm) rfl))))))))))))))) (hJ592.up (by omega)) 
              · refine X.iconst 261 (zi280 260) rfl rfl (by decide) ?_
                refine X.retz (zi280 261) rfl t280 (by omega) ?_
                exact hQ 0 m501 (by first | trivial | omega) (Eq.trans (zb_eq hFv503) (Eq.trans (if_pos h504) (Eq.trans (if_neg h505) (Eq.trans (if_neg h515) (Eq.trans (if_neg h528) (Eq.trans (if_neg h538) (Eq.trans (if_pos h548) (Eq.trans (if_neg h549) (Eq.trans (if_neg h558) (Eq.trans (if_neg h567) (Eq.trans (if_neg h576) (Eq.trans (if_neg h585) rfl)))))))))))) (hJ502.up (by omega)) 
    by_cases h594 : a1 = 5
    · refine X.tsIn 284 5 (zi280 10) rfl (by omega) rfl rfl ?_
      refine X.cut [(0, zr 4 44), (2, zi a2)] (zi280 284) rfl ?_
      refine X.iload_n 285 (zi280 284) rfl rfl rfl ?_
      refine X.i2l 286 (zi280 285) rfl rfl ?_
      refine X.lconst (y := 1) 287 (zi280 286) rfl rfl rfl ?_
      refine X.ldc2 290 (zi280 287) rfl rfl (by decide) ?_
      refine X.calls 293 [zl a2, zl 1, zl 6] [] [(0, zl a2), (2, zl 1), (4, zl 6)] (zi280 290) (by decide) rfl rfl (by omega) rfl rfl t204 (Nat.le_of_ble_eq_true rfl) (Nat.le_of_ble_eq_true rfl) rfl ?_
      refine X.lload_n 1 (zi204 0) rfl rfl rfl ?_
      refine X.lload_n 2 (zi204 1) rfl rfl rfl ?_
      refine X.lcmp 3 (zi204 2) rfl rfl (fun z595 hz595 => ?_)
      refine X.iflt 17 6 (zi204 3) rfl rfl rfl (fun h596 => ?_) (fun h596 => ?_)
      · have h596c : a2 < 1 := by omega
        clear h596 hz595
        refine X.cut [] (zi204 17) rfl ?_
        refine X.iconst 18 (zi204 17) rfl rfl (by decide) ?_
        refine X.retz (zi204 18) rfl t204 (by omega) ?_
        show X (EE s) d 280 293 [(0, zr 4 44), (2, zi a2)] [zi 0] m501 _
        refine X.ifne 298 296 (zi280 293) rfl rfl rfl (fun h597 => (by exfalso; omega)) (fun h597 => ?_)
        refine X.iconst 297 (zi280 296) rfl rfl (by decide) ?_
        refine X.retz (zi280 297) rfl t280 (by omega) ?_
        exact hQ 0 m501 (by first | trivial | omega) (Eq.trans (zb_eq hFv503) (Eq.trans (if_pos h504) (Eq.trans (if_neg h505) (Eq.trans (if_neg h515) (Eq.trans (if_neg h528) (Eq.trans (if_neg h538) (Eq.trans (if_neg h548) (Eq.trans (if_pos h594) (Eq.trans (if_pos h596c) rfl))))))))) (hJ502.up (by omega)) 
      · have h596c : ¬ a2 < 1 := by omega
        clear h596 hz595
        refine X.lload_n 7 (zi204 6) rfl rfl rfl ?_
        refine X.lload 9 (zi204 7) rfl rfl rfl ?_
        refine X.lcmp 10 (zi204 9) rfl rfl (fun z598 hz598 => ?_)
        refine X.ifgt 17 13 (zi204 10) rfl rfl rfl (fun h599 => ?_) (fun h599 => ?_)
        · have h599c : ¬ a2 ≤ 6 := by omega
          clear h599 hz598
          refine X.cut [] (zi204 17) rfl ?_
          refine X.iconst 18 (zi204 17) rfl rfl (by decide) ?_
          refine X.retz (zi204 18) rfl t204 (by omega) ?_
          show X (EE s) d 280 293 [(0, zr 4 44), (2, zi a2)] [zi 0] m501 _
          refine X.ifne 298 296 (zi280 293) rfl rfl rfl (fun h600 => (by exfalso; omega)) (fun h600 => ?_)
          refine X.iconst 297 (zi280 296) rfl rfl (by decide) ?_
          refine X.retz (zi280 297) rfl t280 (by omega) ?_
          exact hQ 0 m501 (by first | trivial | omega) (Eq.trans (zb_eq hFv503) (Eq.trans (if_pos h504) (Eq.trans (if_neg h505) (Eq.trans (if_neg h515) (Eq.trans (if_neg h528) (Eq.trans (if_neg h538) (Eq.trans (if_neg h548) (Eq.trans (if_pos h594) (Eq.trans (if_neg h596c) (Eq.trans (if_neg h599c) rfl)))))))))) (hJ502.up (by omega)) 
        · have h599c : a2 ≤ 6 := by omega
          clear h599 hz598
          refine X.iconst 14 (zi204 13) rfl rfl (by decide) ?_
          refine X.goto 18 (zi204 14) rfl rfl ?_
          refine X.cut [] (zi204 18) rfl ?_
          refine X.retz (zi204 18) rfl t204 (by omega) ?_
          show X (EE s) d 280 293 [(0, zr 4 44), (2, zi a2)] [zi 1] m501 _
          refine X.ifne 298 296 (zi280 293) rfl rfl rfl (fun h601 => ?_) (fun h601 => (by exfalso; omega))
          refine X.aload_n 299 (zi280 298) rfl rfl rfl ?_
          refine X.getF 302 (zi280 299) rfl rfl (by decide) rfl rfl ?_
          refine X.bipush 304 (zi280 302) rfl rfl (by decide) ?_
          refine X.iload_n 305 (zi280 304) rfl rfl rfl ?_
          refine X.i2l 306 (zi280 305) rfl rfl ?_
          refine X.last' 307 (zi280 306) rfl rfl (by decide) rfl (by omega) (fun hrm602 m602 hm602 => ?_)
          have hJ603 := w45_9 hJ502 hm602 (by omega) hf23 hg4
          refine X.iconst 308 (zi280 307) rfl rfl (by decide) ?_
          refine X.retz (zi280 308) rfl t280 (by omega) ?_
          exact hQ 1 m602 (by first | trivial | omega) (Eq.trans (zb_eq hFv503) (Eq.trans (if_pos h504) (Eq.trans (if_neg h505) (Eq.trans (if_neg h515) (Eq.trans (if_neg h528) (Eq.trans (if_neg h538) (Eq.trans (if_neg h548) (Eq.trans (if_pos h594) (Eq.trans (if_neg h596c) (Eq.trans (if_pos h599c) (Eq.trans (zs_eq hm602) rfl))))))))))) (hJ603.up (by omega)) 
    by_cases h604 : a1 = 6
    · refine X.tsIn 352 6 (zi280 10) rfl (by omega) rfl rfl ?_
      refine X.iload_n 353 (zi280 352) rfl rfl rfl ?_
      refine X.i2l 354 (zi280 353) rfl rfl ?_
      refine X.ldc2 357 (zi280 354) rfl rfl (by decide) ?_
      refine X.ldc2 360 (zi280 357) rfl rfl (by decide) ?_
      refine X.calls 363 [zl a1, zl 10, zl 13] [] [(0, zl a1), (2, zl 10), (4, zl 13)] (zi280 360) (by decide) rfl rfl (by omega) rfl rfl t204 (Nat.le_of_ble_eq_true rfl) (Nat.le_of_ble_eq_true rfl) rfl ?_
      refine X.lload_n 1 (zi204 0) rfl rfl rfl ?_
      refine X.lload_n 2 (zi204 1) rfl rfl rfl ?_
      refine X.lcmp 3 (zi204 2) rfl rfl (fun z605 hz605 => ?_)
      refine X.iflt 17 6 (zi204 3) rfl rfl rfl (fun h606 => ?_) (fun h606 => (by exfalso; omega))
      have h606c : a1 < 10 := by omega
      clear h606 hz605
      refine X.cut [] (zi204 17) rfl ?_
      refine X.iconst 18 (zi204 17) rfl rfl (by decide) ?_
      refine X.retz (zi204 18) rfl t204 (by omega) ?_
      show X (EE s) d 280 363 [(0, zr 4 44), (1, zi a1), (2, zi a2)] [zi 0] m501 _
      refine X.ifeq 378 366 (zi280 363) rfl rfl rfl (fun h607 => ?_) (fun h607 => (by exfalso; omega))
      refine X.cut [] (zi280 378) rfl ?_
      refine X.iconst 379 (zi280 378) rfl rfl (by decide) ?_
      refine X.retz (zi280 379) rfl t280 (by omega) ?_
      exact hQ 0 m501 (by first | trivial | omega) (Eq.trans (zb_eq hFv503) (Eq.trans (if_pos h504) (Eq.trans (if_neg h505) (Eq.trans (if_neg h515) (Eq.trans (if_neg h528) (Eq.trans (if_neg h538) (Eq.trans (if_neg h548) (Eq.trans (if_neg h594) (Eq.trans (if_pos h604) rfl))))))))) (hJ502.up (by omega)) 
    by_cases h608 : a1 = 7
    · refine X.tsIn 352 7 (zi280 10) rfl (by omega) rfl rfl ?_
      refine X.iload_n 353 (zi280 352) rfl rfl rfl ?_
      refine X.i2l 354 (zi280 353) rfl rfl ?_
      refine X.ldc2 357 (zi280 354) rfl rfl (by decide) ?_
      refine X.ldc2 360 (zi280 357) rfl rfl (by decide) ?_
      refine X.calls 363 [zl a1, zl 10, zl 13] [] [(0, zl a1), (2, zl 10), (4, zl 13)] (zi280 360) (by decide) rfl rfl (by omega) rfl rfl t204 (Nat.le_of_ble_eq_true rfl) (Nat.le_of_ble_eq_true rfl) rfl ?_
      refine X.lload_n 1 (zi204 0) rfl rfl rfl ?_
      refine X.lload_n 2 (zi204 1) rfl rfl rfl ?_
      refine X.lcmp 3 (zi204 2) rfl rfl (fun z609 hz609 => ?_)
      refine X.iflt 17 6 (zi204 3) rfl rfl rfl (fun h610 => ?_) (fun h610 => (by exfalso; omega))
      have h610c : a1 < 10 := by omega
      clear h610 hz609
      refine X.cut [] (zi204 17) rfl ?_
      refine X.iconst 18 (zi204 17) rfl rfl (by decide) ?_
      refine X.retz (zi204 18) rfl t204 (by omega) ?_
      show X (EE s) d 280 363 [(0, zr 4 44), (1, zi a1), (2, zi a2)] [zi 0] m501 _
      refine X.ifeq 378 366 (zi280 363) rfl rfl rfl (fun h611 => ?_) (fun h611 => (by exfalso; omega))
      refine X.cut [] (zi280 378) rfl ?_
      refine X.iconst 379 (zi280 378) rfl rfl (by decide) ?_
      refine X.retz (zi280 379) rfl t280 (by omega) ?_
      exact hQ 0 m501 (by first | trivial | omega) (Eq.trans (zb_eq hFv503) (Eq.trans (if_pos h504) (Eq.trans (if_neg h505) (Eq.trans (if_neg h515) (Eq.trans (if_neg h528) (Eq.trans (if_neg h538) (Eq.trans (if_neg h548) (Eq.trans (if_neg h594) (Eq.trans (if_neg h604) (Eq.trans (if_pos h608) rfl)))))))))) (hJ502.up (by omega)) 
    by_cases h612 : a1 = 8
    · refine X.tsIn 352 8 (zi280 10) rfl (by omega) rfl rfl ?_
      refine X.iload_n 353 (zi280 352) rfl rfl rfl ?_
      refine X.i2l 354 (zi280 353) rfl rfl ?_
      refine X.ldc2 357 (zi280 354) rfl rfl (by decide) ?_
      refine X.ldc2 360 (zi280 357) rfl rfl (by decide) ?_
      refine X.calls 363 [zl a1, zl 10, zl 13] [] [(0, zl a1), (2, zl 10), (4, zl 13)] (zi280 360) (by decide) rfl rfl (by omega) rfl rfl t204 (Nat.le_of_ble_eq_true rfl) (Nat.le_of_ble_eq_true rfl) rfl ?_
      refine X.lload_n 1 (zi204 0) rfl rfl rfl ?_
      refine X.lload_n 2 (zi204 1) rfl rfl rfl ?_
      refine X.lcmp 3 (zi204 2) rfl rfl (fun z613 hz613 => ?_)
      refine X.iflt 17 6 (zi204 3) rfl rfl rfl (fun h614 => ?_) (fun h614 => (by exfalso; omega))
      have h614c : a1 < 10 := by omega
      clear h614 hz613
      refine X.cut [] (zi204 17) rfl ?_
      refine X.iconst 18 (zi204 17) rfl rfl (by decide) ?_
      refine X.retz (zi204 18) rfl t204 (by omega) ?_
      show X (EE s) d 280 363 [(0, zr 4 44), (1, zi a1), (2, zi a2)] [zi 0] m501 _
      refine X.ifeq 378 366 (zi280 363) rfl rfl rfl (fun h615 => ?_) (fun h615 => (by exfalso; omega))
      refine X.cut [] (zi280 378) rfl ?_
      refine X.iconst 379 (zi280 378) rfl rfl (by decide) ?_
      refine X.retz (zi280 379) rfl t280 (by omega) ?_
      exact hQ 0 m501 (by first | trivial | omega) (Eq.trans (zb_eq hFv503) (Eq.trans (if_pos h504) (Eq.trans (if_neg h505) (Eq.trans (if_neg h515) (Eq.trans (if_neg h528) (Eq.trans (if_neg h538) (Eq.trans (if_neg h548) (Eq.trans (if_neg h594) (Eq.trans (if_neg h604) (Eq.trans (if_neg h608) (Eq.trans (if_pos h612) rfl))))))))))) (hJ502.up (by omega)) 
    by_cases h616 : a1 = 9
    · refine X.tsIn 352 9 (zi280 10) rfl (by omega) rfl rfl ?_
      refine X.iload_n 353 (zi280 352) rfl rfl rfl ?_
      refine X.i2l 354 (zi280 353) rfl rfl ?_
      refine X.ldc2 357 (zi280 354) rfl rfl (by decide) ?_
      refine X.ldc2 360 (zi280 357) rfl rfl (by decide) ?_
      refine X.calls 363 [zl a1, zl 10, zl 13] [] [(0, zl a1), (2, zl 10), (4, zl 13)] (zi280 360) (by decide) rfl rfl (by omega) rfl rfl t204 (Nat.le_of_ble_eq_true rfl) (Nat.le_of_ble_eq_true rfl) rfl ?_
      refine X.lload_n 1 (zi204 0) rfl rfl rfl ?_
      refine X.lload_n 2 (zi204 1) rfl rfl rfl ?_
      refine X.lcmp 3 (zi204 2) rfl rfl (fun z617 hz617 => ?_)
      refine X.iflt 17 6 (zi204 3) rfl rfl rfl (fun h618 => ?_) (fun h618 => (by exfalso; omega))
      have h618c : a1 < 10 := by omega
      clear h618 hz617
      refine X.cut [] (zi204 17) rfl ?_
      refine X.iconst 18 (zi204 17) rfl rfl (by decide) ?_
      refine X.retz (zi204 18) rfl t204 (by omega) ?_
      show X (EE s) d 280 363 [(0, zr 4 44), (1, zi a1), (2, zi a2)] [zi 0] m501 _
      refine X.ifeq 378 366 (zi280 363) rfl rfl rfl (fun h619 => ?_) (fun h619 => (by exfalso; omega))
      refine X.cut [] (zi280 378) rfl ?_
      refine X.iconst 379 (zi280 378) rfl rfl (by decide) ?_
      refine X.retz (zi280 379) rfl t280 (by omega) ?_
      exact hQ 0 m501 (by first | trivial | omega) (Eq.trans (zb_eq hFv503) (Eq.trans (if_pos h504) (Eq.trans (if_neg h505) (Eq.trans (if_neg h515) (Eq.trans (if_neg h528) (Eq.trans (if_neg h538) (Eq.trans (if_neg h548) (Eq.trans (if_neg h594) (Eq.trans (if_neg h604) (Eq.trans (if_neg h608) (Eq.trans (if_neg h612) (Eq.trans (if_pos h616) rfl)))))))))))) (hJ502.up (by omega)) 
    by_cases h620 : a1 = 10
    · refine X.tsIn 352 10 (zi280 10) rfl (by omega) rfl rfl ?_
      refine X.iload_n 353 (zi280 352) rfl rfl rfl ?_
      refine X.i2l 354 (zi280 353) rfl rfl ?_
      refine X.ldc2 357 (zi280 354) rfl rfl (by decide) ?_
      refine X.ldc2 360 (zi280 357) rfl rfl (by decide) ?_
      refine X.calls 363 [zl a1, zl 10, zl 13] [] [(0, zl a1), (2, zl 10), (4, zl 13)] (zi280 360) (by decide) rfl rfl (by omega) rfl rfl t204 (Nat.le_of_ble_eq_true rfl) (Nat.le_of_ble_eq_true rfl) rfl ?_
      refine X.lload_n 1 (zi204 0) rfl rfl rfl ?_
      refine X.lload_n 2 (zi204 1) rfl rfl rfl ?_
      refine X.lcmp 3 (zi204 2) rfl rfl (fun z621 hz621 => ?_)
      refine X.iflt 17 6 (zi204 3) rfl rfl rfl (fun h622 => (by exfalso; omega)) (fun h622 => ?_)
      have h622c : ¬ a1 < 10 := by omega
      clear h622 hz621
      refine X.lload_n 7 (zi204 6) rfl rfl rfl ?_
      refine X.lload 9 (zi204 7) rfl rfl rfl ?_
      refine X.lcmp 10 (zi204 9) rfl rfl (fun z623 hz623 => ?_)
      refine X.ifgt 17 13 (zi204 10) rfl rfl rfl (fun h624 => (by exfalso; omega)) (fun h624 => ?_)
      have h624c : a1 ≤ 13 := by omega
      clear h624 hz623
      refine X.iconst 14 (zi204 13) rfl rfl (by decide) ?_
      refine X.goto 18 (zi204 14) rfl rfl ?_
      refine X.cut [] (zi204 18) rfl ?_
      refine X.retz (zi204 18) rfl t204 (by omega) ?_
      show X (EE s) d 280 363 [(0, zr 4 44), (1, zi a1), (2, zi a2)] [zi 1] m501 _
      refine X.ifeq 378 366 (zi280 363) rfl rfl rfl (fun h625 => (by exfalso; omega)) (fun h625 => ?_)
      refine X.iload_n 367 (zi280 366) rfl rfl rfl ?_
      refine X.i2l 368 (zi280 367) rfl rfl ?_
      refine X.lconst (y := 0) 369 (zi280 368) rfl rfl rfl ?_
      refine X.ldc2 372 (zi280 369) rfl rfl (by decide) ?_
      refine X.calls 375 [zl a2, zl 0, zl 100] [] [(0, zl a2), (2, zl 0), (4, zl 100)] (zi280 372) (by decide) rfl rfl (by omega) rfl rfl t204 (Nat.le_of_ble_eq_true rfl) (Nat.le_of_ble_eq_true rfl) rfl ?_
      refine X.lload_n 1 (zi204 0) rfl rfl rfl ?_
      refine X.lload_n 2 (zi204 1) rfl rfl rfl ?_
      refine X.lcmp 3 (zi204 2) rfl rfl (fun z626 hz626 => ?_)
      refine X.iflt 17 6 (zi204 3) rfl rfl rfl (fun h627 => ?_) (fun h627 => ?_)
      · have h627c : a2 < 0 := by omega
        clear h627 hz626
        refine X.cut [] (zi204 17) rfl ?_
        refine X.iconst 18 (zi204 17) rfl rfl (by decide) ?_
        refine X.retz (zi204 18) rfl t204 (by omega) ?_
        show X (EE s) d 280 375 [(0, zr 4 44), (1, zi a1), (2, zi a2)] [zi 0] m501 _
        refine X.ifne 380 378 (zi280 375) rfl rfl rfl (fun h628 => (by exfalso; omega)) (fun h628 => ?_)
        refine X.cut [] (zi280 378) rfl ?_
        refine X.iconst 379 (zi280 378) rfl rfl (by decide) ?_
        refine X.retz (zi280 379) rfl t280 (by omega) ?_
        exact hQ 0 m501 (by first | trivial | omega) (Eq.trans (zb_eq hFv503) (Eq.trans (if_pos h504) (Eq.trans (if_neg h505) (Eq.trans (if_neg h515) (Eq.trans (if_neg h528) (Eq.trans (if_neg h538) (Eq.trans (if_neg h548) (Eq.trans (if_neg h594) (Eq.trans (if_neg h604) (Eq.trans (if_neg h608) (Eq.trans (if_neg h612) (Eq.trans (if_neg h616) (Eq.trans (if_pos h620) (Eq.trans (if_pos h627c) rfl)))))))))))))) (hJ502.up (by omega)) 
      · have h627c : ¬ a2 < 0 := by omega
        clear h627 hz626
        refine X.lload_n 7 (zi204 6) rfl rfl rfl ?_
        refine X.lload 9 (zi204 7) rfl rfl rfl ?_
        refine X.lcmp 10 (zi204 9) rfl rfl (fun z629 hz629 => ?_)
        refine X.ifgt 17 13 (zi204 10) rfl rfl rfl (fun h630 => ?_) (fun h630 => ?_)
        · have h630c : ¬ a2 ≤ 100 := by omega
          clear h630 hz629
          refine X.cut [] (zi204 17) rfl ?_
          refine X.iconst 18 (zi204 17) rfl rfl (by decide) ?_
          refine X.retz (zi204 18) rfl t204 (by omega) ?_
          show X (EE s) d 280 375 [(0, zr 4 44), (1, zi a1), (2, zi a2)] [zi 0] m501 _
          refine X.ifne 380 378 (zi280 375) rfl rfl rfl (fun h631 => (by exfalso; omega)) (fun h631 => ?_)
          refine X.cut [] (zi280 378) rfl ?_
          refine X.iconst 379 (zi280 378) rfl rfl (by decide) ?_
          refine X.retz (zi280 379) rfl t280 (by omega) ?_
          exact hQ 0 m501 (by first | trivial | omega) (Eq.trans (zb_eq hFv503) (Eq.trans (if_pos h504) (Eq.trans (if_neg h505) (Eq.trans (if_neg h515) (Eq.trans (if_neg h528) (Eq.trans (if_neg h538) (Eq.trans (if_neg h548) (Eq.trans (if_neg h594) (Eq.trans (if_neg h604) (Eq.trans (if_neg h608) (Eq.trans (if_neg h612) (Eq.trans (if_neg h616) (Eq.trans (if_pos h620) (Eq.trans (if_neg h627c) (Eq.trans (if_neg h630c) rfl))))))))))))))) (hJ502.up (by omega)) 
        · have h630c : a2 ≤ 100 := by omega
          clear h630 hz629
          refine X.iconst 14 (zi204 13) rfl rfl (by decide) ?_
          refine X.goto 18 (zi204 14) rfl rfl ?_
          refine X.cut [] (zi204 18) rfl ?_
          refine X.retz (zi204 18) rfl t204 (by omega) ?_
          show X (EE s) d 280 375 [(0, zr 4 44), (1, zi a1), (2, zi a2)] [zi 1] m501 _
          refine X.ifne 380 378 (zi280 375) rfl rfl rfl (fun h632 => ?_) (fun h632 => (by exfalso; omega))
          refine X.aload_n 381 (zi280 380) rfl rfl rfl ?_
          refine X.getF 384 (zi280 381) rfl rfl (by decide) rfl rfl ?_
          refine X.bipush 386 (zi280 384) rfl rfl (by decide) ?_
          refine X.iload_n 387 (zi280 386) rfl rfl rfl ?_
          refine X.iadd 388 (zi280 387) rfl rfl (by omega) ?_
          refine X.bipush 390 (zi280 388) rfl rfl (by decide) ?_
          refine X.isub 391 (zi280 390) rfl rfl (by omega) ?_
          refine X.iload_n 392 (zi280 391) rfl rfl rfl ?_
          refine X.i2l 393 (zi280 392) rfl rfl ?_
          refine X.last' 394 (zi280 393) rfl rfl (by decide) rfl (by omega) (fun hrm633 m633 hm633 => ?_)
          have hJ634 := w45_28 hJ502 hm633 (by omega) (by omega) hf23 hg4
          refine X.iconst 395 (zi280 394) rfl rfl (by decide) ?_
          refine X.retz (zi280 395) rfl t280 (by omega) ?_
          exact hQ 1 m633 (by first | trivial | omega) (Eq.trans (zb_eq hFv503) (Eq.trans (if_pos h504) (Eq.trans (if_neg h505) (Eq.trans (if_neg h515) (Eq.trans (if_neg h528) (Eq.trans (if_neg h538) (Eq.trans (if_neg h548) (Eq.trans (if_neg h594) (Eq.trans (if_neg h604) (Eq.trans (if_neg h608) (Eq.trans (if_neg h612) (Eq.trans (if_neg h616) (Eq.trans (if_pos h620) (Eq.trans (if_neg h627c) (Eq.trans (if_pos h630c) (Eq.trans (zs_eq hm633) rfl)))))))))))))))) (hJ634.up (by omega)) 
    by_cases h635 : a1 = 11
    · refine X.tsIn 352 11 (zi280 10) rfl (by omega) rfl rfl ?_
      refine X.iload_n 353 (zi280 352) rfl rfl rfl ?_
      refine X.i2l 354 (zi280 353) rfl rfl ?_
      refine X.ldc2 357 (zi280 354) rfl rfl (by decide) ?_
      refine X.ldc2 360 (zi280 357) rfl rfl (by decide) ?_
      refine X.calls 363 [zl a1, zl 10, zl 13] [] [(0, zl a1), (2, zl 10), (4, zl 13)] (zi280 360) (by decide) rfl rfl (by omega) rfl rfl t204 (Nat.le_of_ble_eq_true rfl) (Nat.le_of_ble_eq_true rfl) rfl ?_
      refine X.lload_n 1 (zi204 0) rfl rfl rfl ?_
      refine X.lload_n 2 (zi204 1) rfl rfl rfl ?_
      refine X.lcmp 3 (zi204 2) rfl rfl (fun z636 hz636 => ?_)
      refine X.iflt 17 6 (zi204 3) rfl rfl rfl (fun h637 => (by exfalso; omega)) (fun h637 => ?_)
      have h637c : ¬ a1 < 10 := by omega
      clear h637 hz636
      refine X.lload_n 7 (zi204 6) rfl rfl rfl ?_
      refine X.lload 9 (zi204 7) rfl rfl rfl ?_
      refine X.lcmp 10 (zi204 9) rfl rfl (fun z638 hz638 => ?_)
      refine X.ifgt 17 13 (zi204 10) rfl rfl rfl (fun h639 => (by exfalso; omega)) (fun h639 => ?_)
      have h639c : a1 ≤ 13 := by omega
      clear h639 hz638
      refine X.iconst 14 (zi204 13) rfl rfl (by decide) ?_
      refine X.goto 18 (zi204 14) rfl rfl ?_
      refine X.cut [] (zi204 18) rfl ?_
      refine X.retz (zi204 18) rfl t204 (by omega) ?_
      show X (EE s) d 280 363 [(0, zr 4 44), (1, zi a1), (2, zi a2)] [zi 1] m501 _
      refine X.ifeq 378 366 (zi280 363) rfl rfl rfl (fun h640 => (by exfalso; omega)) (fun h640 => ?_)
      refine X.iload_n 367 (zi280 366) rfl rfl rfl ?_
      refine X.i2l 368 (zi280 367) rfl rfl ?_
      refine X.lconst (y := 0) 369 (zi280 368) rfl rfl rfl ?_
      refine X.ldc2 372 (zi280 369) rfl rfl (by decide) ?_
      refine X.calls 375 [zl a2, zl 0, zl 100] [] [(0, zl a2), (2, zl 0), (4, zl 100)] (zi280 372) (by decide) rfl rfl (by omega) rfl rfl t204 (Nat.le_of_ble_eq_true rfl) (Nat.le_of_ble_eq_true rfl) rfl ?_
      refine X.lload_n 1 (zi204 0) rfl rfl rfl ?_
      refine X.lload_n 2 (zi204 1) rfl rfl rfl ?_
      refine X.lcmp 3 (zi204 2) rfl rfl (fun z641 hz641 => ?_)
      refine X.iflt 17 6 (zi204 3) rfl rfl rfl (fun h642 => ?_) (fun h642 => ?_)
      · have h642c : a2 < 0 := by omega
        clear h642 hz641
        refine X.cut [] (zi204 17) rfl ?_
        refine X.iconst 18 (zi204 17) rfl rfl (by decide) ?_
        refine X.retz (zi204 18) rfl t204 (by omega) ?_
        show X (EE s) d 280 375 [(0, zr 4 44), (1, zi a1), (2, zi a2)] [zi 0] m501 _
        refine X.ifne 380 378 (zi280 375) rfl rfl rfl (fun h643 => (by exfalso; omega)) (fun h643 => ?_)
        refine X.cut [] (zi280 378) rfl ?_
        refine X.iconst 379 (zi280 378) rfl rfl (by decide) ?_
        refine X.retz (zi280 379) rfl t280 (by omega) ?_
        exact hQ 0 m501 (by first | trivial | omega) (Eq.trans (zb_eq hFv503) (Eq.trans (if_pos h504) (Eq.trans (if_neg h505) (Eq.trans (if_neg h515) (Eq.trans (if_neg h528) (Eq.trans (if_neg h538) (Eq.trans (if_neg h548) (Eq.trans (if_neg h594) (Eq.trans (if_neg h604) (Eq.trans (if_neg h608) (Eq.trans (if_neg h612) (Eq.trans (if_neg h616) (Eq.trans (if_neg h620) (Eq.trans (if_pos h635) (Eq.trans (if_pos h642c) rfl))))))))))))))) (hJ502.up (by omega)) 
      · have h642c : ¬ a2 < 0 := by omega
        clear h642 hz641
        refine X.lload_n 7 (zi204 6) rfl rfl rfl ?_
        refine X.lload 9 (zi204 7) rfl rfl rfl ?_
        refine X.lcmp 10 (zi204 9) rfl rfl (fun z644 hz644 => ?_)
        refine X.ifgt 17 13 (zi204 10) rfl rfl rfl (fun h645 => ?_) (fun h645 => ?_)
        · have h645c : ¬ a2 ≤ 100 := by omega
          clear h645 hz644
          refine X.cut [] (zi204 17) rfl ?_
          refine X.iconst 18 (zi204 17) rfl rfl (by decide) ?_
          refine X.retz (zi204 18) rfl t204 (by omega) ?_
          show X (EE s) d 280 375 [(0, zr 4 44), (1, zi a1), (2, zi a2)] [zi 0] m501 _
          refine X.ifne 380 378 (zi280 375) rfl rfl rfl (fun h646 => (by exfalso; omega)) (fun h646 => ?_)
          refine X.cut [] (zi280 378) rfl ?_
          refine X.iconst 379 (zi280 378) rfl rfl (by decide) ?_
          refine X.retz (zi280 379) rfl t280 (by omega) ?_
          exact hQ 0 m501 (by first | trivial | omega) (Eq.trans (zb_eq hFv503) (Eq.trans (if_pos h504) (Eq.trans (if_neg h505) (Eq.trans (if_neg h515) (Eq.trans (if_neg h528) (Eq.trans (if_neg h538) (Eq.trans (if_neg h548) (Eq.trans (if_neg h594) (Eq.trans (if_neg h604) (Eq.trans (if_neg h608) (Eq.trans (if_neg h612) (Eq.trans (if_neg h616) (Eq.trans (if_neg h620) (Eq.trans (if_pos h635) (Eq.trans (if_neg h642c) (Eq.trans (if_neg h645c) rfl)))))))))))))))) (hJ502.up (by omega)) 
        · have h645c : a2 ≤ 100 := by omega
          clear h645 hz644
          refine X.iconst 14 (zi204 13) rfl rfl (by decide) ?_
          refine X.goto 18 (zi204 14) rfl rfl ?_
          refine X.cut [] (zi204 18) rfl ?_
          refine X.retz (zi204 18) rfl t204 (by omega) ?_
          show X (EE s) d 280 375 [(0, zr 4 44), (1, zi a1), (2, zi a2)] [zi 1] m501 _
          refine X.ifne 380 378 (zi280 375) rfl rfl rfl (fun h647 => ?_) (fun h647 => (by exfalso; omega))
          refine X.aload_n 381 (zi280 380) rfl rfl rfl ?_
          refine X.getF 384 (zi280 381) rfl rfl (by decide) rfl rfl ?_
          refine X.bipush 386 (zi280 384) rfl rfl (by decide) ?_
          refine X.iload_n 387 (zi280 386) rfl rfl rfl ?_
          refine X.iadd 388 (zi280 387) rfl rfl (by omega) ?_
          refine X.bipush 390 (zi280 388) rfl rfl (by decide) ?_
          refine X.isub 391 (zi280 390) rfl rfl (by omega) ?_
          refine X.iload_n 392 (zi280 391) rfl rfl rfl ?_
          refine X.i2l 393 (zi280 392) rfl rfl ?_
          refine X.last' 394 (zi280 393) rfl rfl (by decide) rfl (by omega) (fun hrm648 m648 hm648 => ?_)
          have hJ649 := w45_28 hJ502 hm648 (by omega) (by omega) hf23 hg4
          refine X.iconst 395 (zi280 394) rfl rfl (by decide) ?_
          refine X.retz (zi280 395) rfl t280 (by omega) ?_
          exact hQ 1 m648 (by first | trivial | omega) (Eq.trans (zb_eq hFv503) (Eq.trans (if_pos h504) (Eq.trans (if_neg h505) (Eq.trans (if_neg h515) (Eq.trans (if_neg h528) (Eq.trans (if_neg h538) (Eq.trans (if_neg h548) (Eq.trans (if_neg h594) (Eq.trans (if_neg h604) (Eq.trans (if_neg h608) (Eq.trans (if_neg h612) (Eq.trans (if_neg h616) (Eq.trans (if_neg h620) (Eq.trans (if_pos h635) (Eq.trans (if_neg h642c) (Eq.trans (if_pos h645c) (Eq.trans (zs_eq hm648) rfl))))))))))))))))) (hJ649.up (by omega)) 
    by_cases h650 : a1 = 12
    · refine X.tsIn 352 12 (zi280 10) rfl (by omega) rfl rfl ?_
      refine X.iload_n 353 (zi280 352) rfl rfl rfl ?_
      refine X.i2l 354 (zi280 353) rfl rfl ?_
      refine X.ldc2 357 (zi280 354) rfl rfl (by decide) ?_
      refine X.ldc2 360 (zi280 357) rfl rfl (by decide) ?_
      refine X.calls 363 [zl a1, zl 10, zl 13] [] [(0, zl a1), (2, zl 10), (4, zl 13)] (zi280 360) (by decide) rfl rfl (by omega) rfl rfl t204 (Nat.le_of_ble_eq_true rfl) (Nat.le_of_ble_eq_true rfl) rfl ?_
      refine X.lload_n 1 (zi204 0) rfl rfl rfl ?_
      refine X.lload_n 2 (zi204 1) rfl rfl rfl ?_
      refine X.lcmp 3 (zi204 2) rfl rfl (fun z651 hz651 => ?_)
      refine X.iflt 17 6 (zi204 3) rfl rfl rfl (fun h652 => (by exfalso; omega)) (fun h652 => ?_)
      have h652c : ¬ a1 < 10 := by omega
      clear h652 hz651
      refine X.lload_n 7 (zi204 6) rfl rfl rfl ?_
      refine X.lload 9 (zi204 7) rfl rfl rfl ?_
      refine X.lcmp 10 (zi204 9) rfl rfl (fun z653 hz653 => ?_)
      refine X.ifgt 17 13 (zi204 10) rfl rfl rfl (fun h654 => (by exfalso; omega)) (fun h654 => ?_)
      have h654c : a1 ≤ 13 := by omega
      clear h654 hz653
      refine X.iconst 14 (zi204 13) rfl rfl (by decide) ?_
      refine X.goto 18 (zi204 14) rfl rfl ?_
      refine X.cut [] (zi204 18) rfl ?_
      refine X.retz (zi204 18) rfl t204 (by omega) ?_
      show X (EE s) d 280 363 [(0, zr 4 44), (1, zi a1), (2, zi a2)] [zi 1] m501 _
      refine X.ifeq 378 366 (zi280 363) rfl rfl rfl (fun h655 => (by exfalso; omega)) (fun h655 => ?_)
      refine X.iload_n 367 (zi280 366) rfl rfl rfl ?_
      refine X.i2l 368 (zi280 367) rfl rfl ?_
      refine X.lconst (y := 0) 369 (zi280 368) rfl rfl rfl ?_
      refine X.ldc2 372 (zi280 369) rfl rfl (by decide) ?_
      refine X.calls 375 [zl a2, zl 0, zl 100] [] [(0, zl a2), (2, zl 0), (4, zl 100)] (zi280 372) (by decide) rfl rfl (by omega) rfl rfl t204 (Nat.le_of_ble_eq_true rfl) (Nat.le_of_ble_eq_true rfl) rfl ?_
      refine X.lload_n 1 (zi204 0) rfl rfl rfl ?_
      refine X.lload_n 2 (zi204 1) rfl rfl rfl ?_
      refine X.lcmp 3 (zi204 2) rfl rfl (fun z656 hz656 => ?_)
      refine X.iflt 17 6 (zi204 3) rfl rfl rfl (fun h657 => ?_) (fun h657 => ?_)
      · have h657c : a2 < 0 := by omega
        clear h657 hz656
        refine X.cut [] (zi204 17) rfl ?_
        refine X.iconst 18 (zi204 17) rfl rfl (by decide) ?_
        refine X.retz (zi204 18) rfl t204 (by omega) ?_
        show X (EE s) d 280 375 [(0, zr 4 44), (1, zi a1), (2, zi a2)] [zi 0] m501 _
        refine X.ifne 380 378 (zi280 375) rfl rfl rfl (fun h658 => (by exfalso; omega)) (fun h658 => ?_)
        refine X.cut [] (zi280 378) rfl ?_
        refine X.iconst 379 (zi280 378) rfl rfl (by decide) ?_
        refine X.retz (zi280 379) rfl t280 (by omega) ?_
        exact hQ 0 m501 (by first | trivial | omega) (Eq.trans (zb_eq hFv503) (Eq.trans (if_pos h504) (Eq.trans (if_neg h505) (Eq.trans (if_neg h515) (Eq.trans (if_neg h528) (Eq.trans (if_neg h538) (Eq.trans (if_neg h548) (Eq.trans (if_neg h594) (Eq.trans (if_neg h604) (Eq.trans (if_neg h608) (Eq.trans (if_neg h612) (Eq.trans (if_neg h616) (Eq.trans (if_neg h620) (Eq.trans (if_neg h635) (Eq.trans (if_pos h650) (Eq.trans (if_pos h657c) rfl)))))))))))))))) (hJ502.up (by omega)) 
      · have h657c : ¬ a2 < 0 := by omega
        clear h657 hz656
        refine X.lload_n 7 (zi204 6) rfl rfl rfl ?_
        refine X.lload 9 (zi204 7) rfl rfl rfl ?_
        refine X.lcmp 10 (zi204 9) rfl rfl (fun z659 hz659 => ?_)
        refine X.ifgt 17 13 (zi204 10) rfl rfl rfl (fun h660 => ?_) (fun h660 => ?_)
        · have h660c : ¬ a2 ≤ 100 := by omega
          clear h660 hz659
          refine X.cut [] (zi204 17) rfl ?_
          refine X.iconst 18 (zi204 17) rfl rfl (by decide) ?_
          refine X.retz (zi204 18) rfl t204 (by omega) ?_
          show X (EE s) d 280 375 [(0, zr 4 44), (1, zi a1), (2, zi a2)] [zi 0] m501 _
          refine X.ifne 380 378 (zi280 375) rfl rfl rfl (fun h661 => (by exfalso; omega)) (fun h661 => ?_)
          refine X.cut [] (zi280 378) rfl ?_
          refine X.iconst 379 (zi280 378) rfl rfl (by decide) ?_
          refine X.retz (zi280 379) rfl t280 (by omega) ?_
          exact hQ 0 m501 (by first | trivial | omega) (Eq.trans (zb_eq hFv503) (Eq.trans (if_pos h504) (Eq.trans (if_neg h505) (Eq.trans (if_neg h515) (Eq.trans (if_neg h528) (Eq.trans (if_neg h538) (Eq.trans (if_neg h548) (Eq.trans (if_neg h594) (Eq.trans (if_neg h604) (Eq.trans (if_neg h608) (Eq.trans (if_neg h612) (Eq.trans (if_neg h616) (Eq.trans (if_neg h620) (Eq.trans (if_neg h635) (Eq.trans (if_pos h650) (Eq.trans (if_neg h657c) (Eq.trans (if_neg h660c) rfl))))))))))))))))) (hJ502.up (by omega)) 
        · have h660c : a2 ≤ 100 := by omega
          clear h660 hz659
          refine X.iconst 14 (zi204 13) rfl rfl (by decide) ?_
          refine X.goto 18 (zi204 14) rfl rfl ?_
          refine X.cut [] (zi204 18) rfl ?_
          refine X.retz (zi204 18) rfl t204 (by omega) ?_
          show X (EE s) d 280 375 [(0, zr 4 44), (1, zi a1), (2, zi a2)] [zi 1] m501 _
          refine X.ifne 380 378 (zi280 375) rfl rfl rfl (fun h662 => ?_) (fun h662 => (by exfalso; omega))
          refine X.aload_n 381 (zi280 380) rfl rfl rfl ?_
          refine X.getF 384 (zi280 381) rfl rfl (by decide) rfl rfl ?_
          refine X.bipush 386 (zi280 384) rfl rfl (by decide) ?_
          refine X.iload_n 387 (zi280 386) rfl rfl rfl ?_
          refine X.iadd 388 (zi280 387) rfl rfl (by omega) ?_
          refine X.bipush 390 (zi280 388) rfl rfl (by decide) ?_
          refine X.isub 391 (zi280 390) rfl rfl (by omega) ?_
          refine X.iload_n 392 (zi280 391) rfl rfl rfl ?_
          refine X.i2l 393 (zi280 392) rfl rfl ?_
          refine X.last' 394 (zi280 393) rfl rfl (by decide) rfl (by omega) (fun hrm663 m663 hm663 => ?_)
          have hJ664 := w45_28 hJ502 hm663 (by omega) (by omega) hf23 hg4
          refine X.iconst 395 (zi280 394) rfl rfl (by decide) ?_
          refine X.retz (zi280 395) rfl t280 (by omega) ?_
          exact hQ 1 m663 (by first | trivial | omega) (Eq.trans (zb_eq hFv503) (Eq.trans (if_pos h504) (Eq.trans (if_neg h505) (Eq.trans (if_neg h515) (Eq.trans (if_neg h528) (Eq.trans (if_neg h538) (Eq.trans (if_neg h548) (Eq.trans (if_neg h594) (Eq.trans (if_neg h604) (Eq.trans (if_neg h608) (Eq.trans (if_neg h612) (Eq.trans (if_neg h616) (Eq.trans (if_neg h620) (Eq.trans (if_neg h635) (Eq.trans (if_pos h650) (Eq.trans (if_neg h657c) (Eq.trans (if_pos h660c) (Eq.trans (zs_eq hm663) rfl)))))))))))))))))) (hJ664.up (by omega)) 
    by_cases h665 : a1 = 13
    · refine X.tsIn 352 13 (zi280 10) rfl (by omega) rfl rfl ?_
      refine X.iload_n 353 (zi280 352) rfl rfl rfl ?_
      refine X.i2l 354 (zi280 353) rfl rfl ?_
      refine X.ldc2 357 (zi280 354) rfl rfl (by decide) ?_
      refine X.ldc2 360 (zi280 357) rfl rfl (by decide) ?_
      refine X.calls 363 [zl a1, zl 10, zl 13] [] [(0, zl a1), (2, zl 10), (4, zl 13)] (zi280 360) (by decide) rfl rfl (by omega) rfl rfl t204 (Nat.le_of_ble_eq_true rfl) (Nat.le_of_ble_eq_true rfl) rfl ?_
      refine X.lload_n 1 (zi204 0) rfl rfl rfl ?_
      refine X.lload_n 2 (zi204 1) rfl rfl rfl ?_
      refine X.lcmp 3 (zi204 2) rfl rfl (fun z666 hz666 => ?_)
      refine X.iflt 17 6 (zi204 3) rfl rfl rfl (fun h667 => (by exfalso; omega)) (fun h667 => ?_)
      have h667c : ¬ a1 < 10 := by omega
      clear h667 hz666
      refine X.lload_n 7 (zi204 6) rfl rfl rfl ?_
      refine X.lload 9 (zi204 7) rfl rfl rfl ?_
      refine X.lcmp 10 (zi204 9) rfl rfl (fun z668 hz668 => ?_)
      refine X.ifgt 17 13 (zi204 10) rfl rfl rfl (fun h669 => (by exfalso; omega)) (fun h669 => ?_)
      have h669c : a1 ≤ 13 := by omega
      clear h669 hz668
      refine X.iconst 14 (zi204 13) rfl rfl (by decide) ?_
      refine X.goto 18 (zi204 14) rfl rfl ?_
      refine X.cut [] (zi204 18) rfl ?_
      refine X.retz (zi204 18) rfl t204 (by omega) ?_
      show X (EE s) d 280 363 [(0, zr 4 44), (1, zi a1), (2, zi a2)] [zi 1] m501 _
      refine X.ifeq 378 366 (zi280 363) rfl rfl rfl (fun h670 => (by exfalso; omega)) (fun h670 => ?_)
      refine X.iload_n 367 (zi280 366) rfl rfl rfl ?_
      refine X.i2l 368 (zi280 367) rfl rfl ?_
      refine X.lconst (y := 0) 369 (zi280 368) rfl rfl rfl ?_
      refine X.ldc2 372 (zi280 369) rfl rfl (by decide) ?_
      refine X.calls 375 [zl a2, zl 0, zl 100] [] [(0, zl a2), (2, zl 0), (4, zl 100)] (zi280 372) (by decide) rfl rfl (by omega) rfl rfl t204 (Nat.le_of_ble_eq_true rfl) (Nat.le_of_ble_eq_true rfl) rfl ?_
      refine X.lload_n 1 (zi204 0) rfl rfl rfl ?_
      refine X.lload_n 2 (zi204 1) rfl rfl rfl ?_
      refine X.lcmp 3 (zi204 2) rfl rfl (fun z671 hz671 => ?_)
      refine X.iflt 17 6 (zi204 3) rfl rfl rfl (fun h672 => ?_) (fun h672 => ?_)
      · have h672c : a2 < 0 := by omega
        clear h672 hz671
        refine X.cut [] (zi204 17) rfl ?_
        refine X.iconst 18 (zi204 17) rfl rfl (by decide) ?_
        refine X.retz (zi204 18) rfl t204 (by omega) ?_
        show X (EE s) d 280 375 [(0, zr 4 44), (1, zi a1), (2, zi a2)] [zi 0] m501 _
        refine X.ifne 380 378 (zi280 375) rfl rfl rfl (fun h673 => (by exfalso; omega)) (fun h673 => ?_)
        refine X.cut [] (zi280 378) rfl ?_
        refine X.iconst 379 (zi280 378) rfl rfl (by decide) ?_
        refine X.retz (zi280 379) rfl t280 (by omega) ?_
        exact hQ 0 m501 (by first | trivial | omega) (Eq.trans (zb_eq hFv503) (Eq.trans (if_pos h504) (Eq.trans (if_neg h505) (Eq.trans (if_neg h515) (Eq.trans (if_neg h528) (Eq.trans (if_neg h538) (Eq.trans (if_neg h548) (Eq.trans (if_neg h594) (Eq.trans (if_neg h604) (Eq.trans (if_neg h608) (Eq.trans (if_neg h612) (Eq.trans (if_neg h616) (Eq.trans (if_neg h620) (Eq.trans (if_neg h635) (Eq.trans (if_neg h650) (Eq.trans (if_pos h665) (Eq.trans (if_pos h672c) rfl))))))))))))))))) (hJ502.up (by omega)) 
      · have h672c : ¬ a2 < 0 := by omega
        clear h672 hz671
        refine X.lload_n 7 (zi204 6) rfl rfl rfl ?_
        refine X.lload 9 (zi204 7) rfl rfl rfl ?_
        refine X.lcmp 10 (zi204 9) rfl rfl (fun z674 hz674 => ?_)
        refine X.ifgt 17 13 (zi204 10) rfl rfl rfl (fun h675 => ?_) (fun h675 => ?_)
        · have h675c : ¬ a2 ≤ 100 := by omega
          clear h675 hz674
          refine X.cut [] (zi204 17) rfl ?_
          refine X.iconst 18 (zi204 17) rfl rfl (by decide) ?_
          refine X.retz (zi204 18) rfl t204 (by omega) ?_
          show X (EE s) d 280 375 [(0, zr 4 44), (1, zi a1), (2, zi a2)] [zi 0] m501 _
          refine X.ifne 380 378 (zi280 375) rfl rfl rfl (fun h676 => (by exfalso; omega)) (fun h676 => ?_)
          refine X.cut [] (zi280 378) rfl ?_
          refine X.iconst 379 (zi280 378) rfl rfl (by decide) ?_
          refine X.retz (zi280 379) rfl t280 (by omega) ?_
          exact hQ 0 m501 (by first | trivial | omega) (Eq.trans (zb_eq hFv503) (Eq.trans (if_pos h504) (Eq.trans (if_neg h505) (Eq.trans (if_neg h515) (Eq.trans (if_neg h528) (Eq.trans (if_neg h538) (Eq.trans (if_neg h548) (Eq.trans (if_neg h594) (Eq.trans (if_neg h604) (Eq.trans (if_neg h608) (Eq.trans (if_neg h612) (Eq.trans (if_neg h616) (Eq.trans (if_neg h620) (Eq.trans (if_neg h635) (Eq.trans (if_neg h650) (Eq.trans (if_pos h665) (Eq.trans (if_neg h672c) (Eq.trans (if_neg h675c) rfl)))))))))))))))))) (hJ502.up (by omega)) 
        · have h675c : a2 ≤ 100 := by omega
          clear h675 hz674
          refine X.iconst 14 (zi204 13) rfl rfl (by decide) ?_
          refine X.goto 18 (zi204 14) rfl rfl ?_
          refine X.cut [] (zi204 18) rfl ?_
          refine X.retz (zi204 18) rfl t204 (by omega) ?_
          show X (EE s) d 280 375 [(0, zr 4 44), (1, zi a1), (2, zi a2)] [zi 1] m501 _
          refine X.ifne 380 378 (zi280 375) rfl rfl rfl (fun h677 => ?_) (fun h677 => (by exfalso; omega))
          refine X.aload_n 381 (zi280 380) rfl rfl rfl ?_
          refine X.getF 384 (zi280 381) rfl rfl (by decide) rfl rfl ?_
          refine X.bipush 386 (zi280 384) rfl rfl (by decide) ?_
          refine X.iload_n 387 (zi280 386) rfl rfl rfl ?_
          refine X.iadd 388 (zi280 387) rfl rfl (by omega) ?_
          refine X.bipush 390 (zi280 388) rfl rfl (by decide) ?_
          refine X.isub 391 (zi280 390) rfl rfl (by omega) ?_
          refine X.iload_n 392 (zi280 391) rfl rfl rfl ?_
          refine X.i2l 393 (zi280 392) rfl rfl ?_
          refine X.last' 394 (zi280 393) rfl rfl (by decide) rfl (by omega) (fun hrm678 m678 hm678 => ?_)
          have hJ679 := w45_28 hJ502 hm678 (by omega) (by omega) hf23 hg4
          refine X.iconst 395 (zi280 394) rfl rfl (by decide) ?_
          refine X.retz (zi280 395) rfl t280 (by omega) ?_
          exact hQ 1 m678 (by first | trivial | omega) (Eq.trans (zb_eq hFv503) (Eq.trans (if_pos h504) (Eq.trans (if_neg h505) (Eq.trans (if_neg h515) (Eq.trans (if_neg h528) (Eq.trans (if_neg h538) (Eq.trans (if_neg h548) (Eq.trans (if_neg h594) (Eq.trans (if_neg h604) (Eq.trans (if_neg h608) (Eq.trans (if_neg h612) (Eq.trans (if_neg h616) (Eq.trans (if_neg h620) (Eq.trans (if_neg h635) (Eq.trans (if_neg h650) (Eq.trans (if_pos h665) (Eq.trans (if_neg h672c) (Eq.trans (if_pos h675c) (Eq.trans (zs_eq hm678) rfl))))))))))))))))))) (hJ679.up (by omega)) 
    by_cases h680 : a1 = 14
    · refine X.tsIn 352 14 (zi280 10) rfl (by omega) rfl rfl ?_
      refine X.iload_n 353 (zi280 352) rfl rfl rfl ?_
      refine X.i2l 354 (zi280 353) rfl rfl ?_
      refine X.ldc2 357 (zi280 354) rfl rfl (by decide) ?_
      refine X.ldc2 360 (zi280 357) rfl rfl (by decide) ?_
      refine X.calls 363 [zl a1, zl 10, zl 13] [] [(0, zl a1), (2, zl 10), (4, zl 13)] (zi280 360) (by decide) rfl rfl (by omega) rfl rfl t204 (Nat.le_of_ble_eq_true rfl) (Nat.le_of_ble_eq_true rfl) rfl ?_
      refine X.lload_n 1 (zi204 0) rfl rfl rfl ?_
      refine X.lload_n 2 (zi204 1) rfl rfl rfl ?_
      refine X.lcmp 3 (zi204 2) rfl rfl (fun z681 hz681 => ?_)
      refine X.iflt 17 6 (zi204 3) rfl rfl rfl (fun h682 => (by exfalso; omega)) (fun h682 => ?_)
      have h682c : ¬ a1 < 10 := by omega
      clear h682 hz681
      refine X.lload_n 7 (zi204 6) rfl rfl rfl ?_
      refine X.lload 9 (zi204 7) rfl rfl rfl ?_
      refine X.lcmp 10 (zi204 9) rfl rfl (fun z683 hz683 => ?_)
      refine X.ifgt 17 13 (zi204 10) rfl rfl rfl (fun h684 => ?_) (fun h684 => (by exfalso; omega))
      have h684c : ¬ a1 ≤ 13 := by omega
      clear h684 hz683
      refine X.cut [] (zi204 17) rfl ?_
      refine X.iconst 18 (zi204 17) rfl rfl (by decide) ?_
      refine X.retz (zi204 18) rfl t204 (by omega) ?_
      show X (EE s) d 280 363 [(0, zr 4 44), (1, zi a1), (2, zi a2)] [zi 0] m501 _
      refine X.ifeq 378 366 (zi280 363) rfl rfl rfl (fun h685 => ?_) (fun h685 => (by exfalso; omega))
      refine X.cut [] (zi280 378) rfl ?_
      refine X.iconst 379 (zi280 378) rfl rfl (by decide) ?_
      refine X.retz (zi280 379) rfl t280 (by omega) ?_
      exact hQ 0 m501 (by first | trivial | omega) (Eq.trans (zb_eq hFv503) (Eq.trans (if_pos h504) (Eq.trans (if_neg h505) (Eq.trans (if_neg h515) (Eq.trans (if_neg h528) (Eq.trans (if_neg h538) (Eq.trans (if_neg h548) (Eq.trans (if_neg h594) (Eq.trans (if_neg h604) (Eq.trans (if_neg h608) (Eq.trans (if_neg h612) (Eq.trans (if_neg h616) (Eq.trans (if_neg h620) (Eq.trans (if_neg h635) (Eq.trans (if_neg h650) (Eq.trans (if_neg h665) (Eq.trans (if_pos h680) rfl))))))))))))))))) (hJ502.up (by omega)) 
    by_cases h686 : a1 = 15
    · refine X.tsIn 352 15 (zi280 10) rfl (by omega) rfl rfl ?_
      refine X.iload_n 353 (zi280 352) rfl rfl rfl ?_
      refine X.i2l 354 (zi280 353) rfl rfl ?_
      refine X.ldc2 357 (zi280 354) rfl rfl (by decide) ?_
      refine X.ldc2 360 (zi280 357) rfl rfl (by decide) ?_
      refine X.calls 363 [zl a1, zl 10, zl 13] [] [(0, zl a1), (2, zl 10), (4, zl 13)] (zi280 360) (by decide) rfl rfl (by omega) rfl rfl t204 (Nat.le_of_ble_eq_true rfl) (Nat.le_of_ble_eq_true rfl) rfl ?_
      refine X.lload_n 1 (zi204 0) rfl rfl rfl ?_
      refine X.lload_n 2 (zi204 1) rfl rfl rfl ?_
      refine X.lcmp 3 (zi204 2) rfl rfl (fun z687 hz687 => ?_)
      refine X.iflt 17 6 (zi204 3) rfl rfl rfl (fun h688 => (by exfalso; omega)) (fun h688 => ?_)
      have h688c : ¬ a1 < 10 := by omega
      clear h688 hz687
      refine X.lload_n 7 (zi204 6) rfl rfl rfl ?_
      refine X.lload 9 (zi204 7) rfl rfl rfl ?_
      refine X.lcmp 10 (zi204 9) rfl rfl (fun z689 hz689 => ?_)
      refine X.ifgt 17 13 (zi204 10) rfl rfl rfl (fun h690 => ?_) (fun h690 => (by exfalso; omega))
      have h690c : ¬ a1 ≤ 13 := by omega
      clear h690 hz689
      refine X.cut [] (zi204 17) rfl ?_
      refine X.iconst 18 (zi204 17) rfl rfl (by decide) ?_
      refine X.retz (zi204 18) rfl t204 (by omega) ?_
      show X (EE s) d 280 363 [(0, zr 4 44), (1, zi a1), (2, zi a2)] [zi 0] m501 _
      refine X.ifeq 378 366 (zi280 363) rfl rfl rfl (fun h691 => ?_) (fun h691 => (by exfalso; omega))
      refine X.cut [] (zi280 378) rfl ?_
      refine X.iconst 379 (zi280 378) rfl rfl (by decide) ?_
      refine X.retz (zi280 379) rfl t280 (by omega) ?_
      exact hQ 0 m501 (by first | trivial | omega) (Eq.trans (zb_eq hFv503) (Eq.trans (if_pos h504) (Eq.trans (if_neg h505) (Eq.trans (if_neg h515) (Eq.trans (if_neg h528) (Eq.trans (if_neg h538) (Eq.trans (if_neg h548) (Eq.trans (if_neg h594) (Eq.trans (if_neg h604) (Eq.trans (if_neg h608) (Eq.trans (if_neg h612) (Eq.trans (if_neg h616) (Eq.trans (if_neg h620) (Eq.trans (if_neg h635) (Eq.trans (if_neg h650) (Eq.trans (if_neg h665) (Eq.trans (if_neg h680) (Eq.trans (if_pos h686) rfl)))))))))))))))))) (hJ502.up (by omega)) 
    by_cases h692 : a1 = 16
    · refine X.tsIn 352 16 (zi280 10) rfl (by omega) rfl rfl ?_
      refine X.iload_n 353 (zi280 352) rfl rfl rfl ?_
      refine X.i2l 354 (zi280 353) rfl rfl ?_
      refine X.ldc2 357 (zi280 354) rfl rfl (by decide) ?_
      refine X.ldc2 360 (zi280 357) rfl rfl (by decide) ?_
      refine X.calls 363 [zl a1, zl 10, zl 13] [] [(0, zl a1), (2, zl 10), (4, zl 13)] (zi280 360) (by decide) rfl rfl (by omega) rfl rfl t204 (Nat.le_of_ble_eq_true rfl) (Nat.le_of_ble_eq_true rfl) rfl ?_
      refine X.lload_n 1 (zi204 0) rfl rfl rfl ?_
      refine X.lload_n 2 (zi204 1) rfl rfl rfl ?_
      refine X.lcmp 3 (zi204 2) rfl rfl (fun z693 hz693 => ?_)
      refine X.iflt 17 6 (zi204 3) rfl rfl rfl (fun h694 => (by exfalso; omega)) (fun h694 => ?_)
      have h694c : ¬ a1 < 10 := by omega
      clear h694 hz693
      refine X.lload_n 7 (zi204 6) rfl rfl rfl ?_
      refine X.lload 9 (zi204 7) rfl rfl rfl ?_
      refine X.lcmp 10 (zi204 9) rfl rfl (fun z695 hz695 => ?_)
      refine X.ifgt 17 13 (zi204 10) rfl rfl rfl (fun h696 => ?_) (fun h696 => (by exfalso; omega))
      have h696c : ¬ a1 ≤ 13 := by omega
      clear h696 hz695
      refine X.cut [] (zi204 17) rfl ?_
      refine X.iconst 18 (zi204 17) rfl rfl (by decide) ?_
      refine X.retz (zi204 18) rfl t204 (by omega) ?_
      show X (EE s) d 280 363 [(0, zr 4 44), (1, zi a1), (2, zi a2)] [zi 0] m501 _
      refine X.ifeq 378 366 (zi280 363) rfl rfl rfl (fun h697 => ?_) (fun h697 => (by exfalso; omega))
      refine X.cut [] (zi280 378) rfl ?_
      refine X.iconst 379 (zi280 378) rfl rfl (by decide) ?_
      refine X.retz (zi280 379) rfl t280 (by omega) ?_
      exact hQ 0 m501 (by first | trivial | omega) (Eq.trans (zb_eq hFv503) (Eq.trans (if_pos h504) (Eq.trans (if_neg h505) (Eq.trans (if_neg h515) (Eq.trans (if_neg h528) (Eq.trans (if_neg h538) (Eq.trans (if_neg h548) (Eq.trans (if_neg h594) (Eq.trans (if_neg h604) (Eq.trans (if_neg h608) (Eq.trans (if_neg h612) (Eq.trans (if_neg h616) (Eq.trans (if_neg h620) (Eq.trans (if_neg h635) (Eq.trans (if_neg h650) (Eq.trans (if_neg h665) (Eq.trans (if_neg h680) (Eq.trans (if_neg h686) (Eq.trans (if_pos h692) rfl))))))))))))))))))) (hJ502.up (by omega)) 
    by_cases h698 : a1 = 17
    · refine X.tsIn 352 17 (zi280 10) rfl (by omega) rfl rfl ?_
      refine X.iload_n 353 (zi280 352) rfl rfl rfl ?_
      refine X.i2l 354 (zi280 353) rfl rfl ?_
      refine X.ldc2 357 (zi280 354) rfl rfl (by decide) ?_
      refine X.ldc2 360 (zi280 357) rfl rfl (by decide) ?_
      refine X.calls 363 [zl a1, zl 10, zl 13] [] [(0, zl a1), (2, zl 10), (4, zl 13)] (zi280 360) (by decide) rfl rfl (by omega) rfl rfl t204 (Nat.le_of_ble_eq_true rfl) (Nat.le_of_ble_eq_true rfl) rfl ?_
      refine X.lload_n 1 (zi204 0) rfl rfl rfl ?_
      refine X.lload_n 2 (zi204 1) rfl rfl rfl ?_
      refine X.lcmp 3 (zi204 2) rfl rfl (fun z699 hz699 => ?_)
      refine X.iflt 17 6 (zi204 3) rfl rfl rfl (fun h700 => (by exfalso; omega)) (fun h700 => ?_)
      have h700c : ¬ a1 < 10 := by omega
      clear h700 hz699
      refine X.lload_n 7 (zi204 6) rfl rfl rfl ?_
      refine X.lload 9 (zi204 7) rfl rfl rfl ?_
      refine X.lcmp 10 (zi204 9) rfl rfl (fun z701 hz701 => ?_)
      refine X.ifgt 17 13 (zi204 10) rfl rfl rfl (fun h702 => ?_) (fun h702 => (by exfalso; omega))
      have h702c : ¬ a1 ≤ 13 := by omega
      clear h702 hz701
      refine X.cut [] (zi204 17) rfl ?_
      refine X.iconst 18 (zi204 17) rfl rfl (by decide) ?_
      refine X.retz (zi204 18) rfl t204 (by omega) ?_
      show X (EE s) d 280 363 [(0, zr 4 44), (1, zi a1), (2, zi a2)] [zi 0] m501 _
      refine X.ifeq 378 366 (zi280 363) rfl rfl rfl (fun h703 => ?_) (fun h703 => (by exfalso; omega))
      refine X.cut [] (zi280 378) rfl ?_
      refine X.iconst 379 (zi280 378) rfl rfl (by decide) ?_
      refine X.retz (zi280 379) rfl t280 (by omega) ?_
      exact hQ 0 m501 (by first | trivial | omega) (Eq.trans (zb_eq hFv503) (Eq.trans (if_pos h504) (Eq.trans (if_neg h505) (Eq.trans (if_neg h515) (Eq.trans (if_neg h528) (Eq.trans (if_neg h538) (Eq.trans (if_neg h548) (Eq.trans (if_neg h594) (Eq.trans (if_neg h604) (Eq.trans (if_neg h608) (Eq.trans (if_neg h612) (Eq.trans (if_neg h616) (Eq.trans (if_neg h620) (Eq.trans (if_neg h635) (Eq.trans (if_neg h650) (Eq.trans (if_neg h665) (Eq.trans (if_neg h680) (Eq.trans (if_neg h686) (Eq.trans (if_neg h692) (Eq.trans (if_pos h698) rfl)))))))))))))))))))) (hJ502.up (by omega)) 
    by_cases h704 : a1 = 18
    · refine X.tsIn 352 18 (zi280 10) rfl (by omega) rfl rfl ?_
      refine X.iload_n 353 (zi280 352) rfl rfl rfl ?_
      refine X.i2l 354 (zi280 353) rfl rfl ?_
      refine X.ldc2 357 (zi280 354) rfl rfl (by decide) ?_
      refine X.ldc2 360 (zi280 357) rfl rfl (by decide) ?_
      refine X.calls 363 [zl a1, zl 10, zl 13] [] [(0, zl a1), (2, zl 10), (4, zl 13)] (zi280 360) (by decide) rfl rfl (by omega) rfl rfl t204 (Nat.le_of_ble_eq_true rfl) (Nat.le_of_ble_eq_true rfl) rfl ?_
      refine X.lload_n 1 (zi204 0) rfl rfl rfl ?_
      refine X.lload_n 2 (zi204 1) rfl rfl rfl ?_
      refine X.lcmp 3 (zi204 2) rfl rfl (fun z705 hz705 => ?_)
      refine X.iflt 17 6 (zi204 3) rfl rfl rfl (fun h706 => (by exfalso; omega)) (fun h706 => ?_)
      have h706c : ¬ a1 < 10 := by omega
      clear h706 hz705
      refine X.lload_n 7 (zi204 6) rfl rfl rfl ?_
      refine X.lload 9 (zi204 7) rfl rfl rfl ?_
      refine X.lcmp 10 (zi204 9) rfl rfl (fun z707 hz707 => ?_)
      refine X.ifgt 17 13 (zi204 10) rfl rfl rfl (fun h708 => ?_) (fun h708 => (by exfalso; omega))
      have h708c : ¬ a1 ≤ 13 := by omega
      clear h708 hz707
      refine X.cut [] (zi204 17) rfl ?_
      refine X.iconst 18 (zi204 17) rfl rfl (by decide) ?_
      refine X.retz (zi204 18) rfl t204 (by omega) ?_
      show X (EE s) d 280 363 [(0, zr 4 44), (1, zi a1), (2, zi a2)] [zi 0] m501 _
      refine X.ifeq 378 366 (zi280 363) rfl rfl rfl (fun h709 => ?_) (fun h709 => (by exfalso; omega))
      refine X.cut [] (zi280 378) rfl ?_
      refine X.iconst 379 (zi280 378) rfl rfl (by decide) ?_
      refine X.retz (zi280 379) rfl t280 (by omega) ?_
      exact hQ 0 m501 (by first | trivial | omega) (Eq.trans (zb_eq hFv503) (Eq.trans (if_pos h504) (Eq.trans (if_neg h505) (Eq.trans (if_neg h515) (Eq.trans (if_neg h528) (Eq.trans (if_neg h538) (Eq.trans (if_neg h548) (Eq.trans (if_neg h594) (Eq.trans (if_neg h604) (Eq.trans (if_neg h608) (Eq.trans (if_neg h612) (Eq.trans (if_neg h616) (Eq.trans (if_neg h620) (Eq.trans (if_neg h635) (Eq.trans (if_neg h650) (Eq.trans (if_neg h665) (Eq.trans (if_neg h680) (Eq.trans (if_neg h686) (Eq.trans (if_neg h692) (Eq.trans (if_neg h698) (Eq.trans (if_pos h704) rfl))))))))))))))))))))) (hJ502.up (by omega)) 
    by_cases h710 : a1 = 19
    · refine X.tsIn 352 19 (zi280 10) rfl (by omega) rfl rfl ?_
      refine X.iload_n 353 (zi280 352) rfl rfl rfl ?_
      refine X.i2l 354 (zi280 353) rfl rfl ?_
      refine X.ldc2 357 (zi280 354) rfl rfl (by decide) ?_
      refine X.ldc2 360 (zi280 357) rfl rfl (by decide) ?_
      refine X.calls 363 [zl a1, zl 10, zl 13] [] [(0, zl a1), (2, zl 10), (4, zl 13)] (zi280 360) (by decide) rfl rfl (by omega) rfl rfl t204 (Nat.le_of_ble_eq_true rfl) (Nat.le_of_ble_eq_true rfl) rfl ?_
      refine X.lload_n 1 (zi204 0) rfl rfl rfl ?_
      refine X.lload_n 2 (zi204 1) rfl rfl rfl ?_
      refine X.lcmp 3 (zi204 2) rfl rfl (fun z711 hz711 => ?_)
      refine X.iflt 17 6 (zi204 3) rfl rfl rfl (fun h712 => (by exfalso; omega)) (fun h712 => ?_)
      have h712c : ¬ a1 < 10 := by omega
      clear h712 hz711
      refine X.lload_n 7 (zi204 6) rfl rfl rfl ?_
      refine X.lload 9 (zi204 7) rfl rfl rfl ?_
      refine X.lcmp 10 (zi204 9) rfl rfl (fun z713 hz713 => ?_)
      refine X.ifgt 17 13 (zi204 10) rfl rfl rfl (fun h714 => ?_) (fun h714 => (by exfalso; omega))
      have h714c : ¬ a1 ≤ 13 := by omega
      clear h714 hz713
      refine X.cut [] (zi204 17) rfl ?_
      refine X.iconst 18 (zi204 17) rfl rfl (by decide) ?_
      refine X.retz (zi204 18) rfl t204 (by omega) ?_
      show X (EE s) d 280 363 [(0, zr 4 44), (1, zi a1), (2, zi a2)] [zi 0] m501 _
      refine X.ifeq 378 366 (zi280 363) rfl rfl rfl (fun h715 => ?_) (fun h715 => (by exfalso; omega))
      refine X.cut [] (zi280 378) rfl ?_
      refine X.iconst 379 (zi280 378) rfl rfl (by decide) ?_
      refine X.retz (zi280 379) rfl t280 (by omega) ?_
      exact hQ 0 m501 (by first | trivial | omega) (Eq.trans (zb_eq hFv503) (Eq.trans (if_pos h504) (Eq.trans (if_neg h505) (Eq.trans (if_neg h515) (Eq.trans (if_neg h528) (Eq.trans (if_neg h538) (Eq.trans (if_neg h548) (Eq.trans (if_neg h594) (Eq.trans (if_neg h604) (Eq.trans (if_neg h608) (Eq.trans (if_neg h612) (Eq.trans (if_neg h616) (Eq.trans (if_neg h620) (Eq.trans (if_neg h635) (Eq.trans (if_neg h650) (Eq.trans (if_neg h665) (Eq.trans (if_neg h680) (Eq.trans (if_neg h686) (Eq.trans (if_neg h692) (Eq.trans (if_neg h698) (Eq.trans (if_neg h704) (Eq.trans (if_pos h710) rfl)))))))))))))))))))))) (hJ502.up (by omega)) 
    by_cases h716 : a1 = 20
    · refine X.tsIn 309 20 (zi280 10) rfl (by omega) rfl rfl ?_
      refine X.iload_n 310 (zi280 309) rfl rfl rfl ?_
      refine X.i2l 311 (zi280 310) rfl rfl ?_
      refine X.lconst (y := 0) 312 (zi280 311) rfl rfl rfl ?_
      refine X.iload_n 313 (zi280 312) rfl rfl rfl ?_
      refine X.bipush 315 (zi280 313) rfl rfl (by decide) ?_
      refine X.icmpne 324 318 (zi280 315) rfl rfl rfl (fun h717 => ?_) (fun h717 => (by exfalso; omega))
      refine X.ldc2 327 (zi280 324) rfl rfl (by decide) ?_
      refine X.calls 330 [zl a2, zl 0, zl 100] [] [(0, zl a2), (2, zl 0), (4, zl 100)] (zi280 327) (by decide) rfl rfl (by omega) rfl rfl t204 (Nat.le_of_ble_eq_true rfl) (Nat.le_of_ble_eq_true rfl) rfl ?_
      refine X.lload_n 1 (zi204 0) rfl rfl rfl ?_
      refine X.lload_n 2 (zi204 1) rfl rfl rfl ?_
      refine X.lcmp 3 (zi204 2) rfl rfl (fun z718 hz718 => ?_)
      refine X.iflt 17 6 (zi204 3) rfl rfl rfl (fun h719 => ?_) (fun h719 => ?_)
      · have h719c : a2 < 0 := by omega
        clear h719 hz718
        refine X.cut [] (zi204 17) rfl ?_
        refine X.iconst 18 (zi204 17) rfl rfl (by decide) ?_
        refine X.retz (zi204 18) rfl t204 (by omega) ?_
        show X (EE s) d 280 330 [(0, zr 4 44), (1, zi a1), (2, zi a2)] [zi 0] m501 _
        refine X.ifne 335 333 (zi280 330) rfl rfl rfl (fun h720 => (by exfalso; omega)) (fun h720 => ?_)
        refine X.iconst 334 (zi280 333) rfl rfl (by decide) ?_
        refine X.retz (zi280 334) rfl t280 (by omega) ?_
        exact hQ 0 m501 (by first | trivial | omega) (Eq.trans (zb_eq hFv503) (Eq.trans (if_pos h504) (Eq.trans (if_neg h505) (Eq.trans (if_neg h515) (Eq.trans (if_neg h528) (Eq.trans (if_neg h538) (Eq.trans (if_neg h548) (Eq.trans (if_neg h594) (Eq.trans (if_neg h604) (Eq.trans (if_neg h608) (Eq.trans (if_neg h612) (Eq.trans (if_neg h616) (Eq.trans (if_neg h620) (Eq.trans (if_neg h635) (Eq.trans (if_neg h650) (Eq.trans (if_neg h665) (Eq.trans (if_neg h680) (Eq.trans (if_neg h686) (Eq.trans (if_neg h692) (Eq.trans (if_neg h698) (Eq.trans (if_neg h704) (Eq.trans (if_neg h710) (Eq.trans (if_pos h716) (Eq.trans (if_pos h719c) rfl)))))))))))))))))))))))) (hJ502.up (by omega)) 
      · have h719c : ¬ a2 < 0 := by omega
        clear h719 hz718
        refine X.lload_n 7 (zi204 6) rfl rfl rfl ?_
        refine X.lload 9 (zi204 7) rfl rfl rfl ?_
        refine X.lcmp 10 (zi204 9) rfl rfl (fun z721 hz721 => ?_)
        refine X.ifgt 17 13 (zi204 10) rfl rfl rfl (fun h722 => ?_) (fun h722 => ?_)
        · have h722c : ¬ a2 ≤ 100 := by omega
          clear h722 hz721
          refine X.cut [] (zi204 17) rfl ?_
          refine X.iconst 18 (zi204 17) rfl rfl (by decide) ?_
          refine X.retz (zi204 18) rfl t204 (by omega) ?_
          show X (EE s) d 280 330 [(0, zr 4 44), (1, zi a1), (2, zi a2)] [zi 0] m501 _
          refine X.ifne 335 333 (zi280 330) rfl rfl rfl (fun h723 => (by exfalso; omega)) (fun h723 => ?_)
          refine X.iconst 334 (zi280 333) rfl rfl (by decide) ?_
          refine X.retz (zi280 334) rfl t280 (by omega) ?_
          exact hQ 0 m501 (by first | trivial | omega) (Eq.trans (zb_eq hFv503) (Eq.trans (if_pos h504) (Eq.trans (if_neg h505) (Eq.trans (if_neg h515) (Eq.trans (if_neg h528) (Eq.trans (if_neg h538) (Eq.trans (if_neg h548) (Eq.trans (if_neg h594) (Eq.trans (if_neg h604) (Eq.trans (if_neg h608) (Eq.trans (if_neg h612) (Eq.trans (if_neg h616) (Eq.trans (if_neg h620) (Eq.trans (if_neg h635) (Eq.trans (if_neg h650) (Eq.trans (if_neg h665) (Eq.trans (if_neg h680) (Eq.trans (if_neg h686) (Eq.trans (if_neg h692) (Eq.trans (if_neg h698) (Eq.trans (if_neg h704) (Eq.trans (if_neg h710) (Eq.trans (if_pos h716) (Eq.trans (if_neg h719c) (Eq.trans (if_neg h722c) rfl))))))))))))))))))))))))) (hJ502.up (by omega)) 
        · have h722c : a2 ≤ 100 := by omega
          clear h722 hz721
          refine X.iconst 14 (zi204 13) rfl rfl (by decide) ?_
          refine X.goto 18 (zi204 14) rfl rfl ?_
          refine X.cut [] (zi204 18) rfl ?_
          refine X.retz (zi204 18) rfl t204 (by omega) ?_
          show X (EE s) d 280 330 [(0, zr 4 44), (1, zi a1), (2, zi a2)] [zi 1] m501 _
          refine X.ifne 335 333 (zi280 330) rfl rfl rfl (fun h724 => ?_) (fun h724 => (by exfalso; omega))
          refine X.aload_n 336 (zi280 335) rfl rfl rfl ?_
          refine X.getF 339 (zi280 336) rfl rfl (by decide) rfl rfl ?_
          refine X.sipush 342 (zi280 339) rfl rfl (by decide) ?_
          refine X.iload_n 343 (zi280 342) rfl rfl rfl ?_
          refine X.iadd 344 (zi280 343) rfl rfl (by omega) ?_
          refine X.bipush 346 (zi280 344) rfl rfl (by decide) ?_
          refine X.isub 347 (zi280 346) rfl rfl (by omega) ?_
          refine X.iload_n 348 (zi280 347) rfl rfl rfl ?_
          refine X.i2l 349 (zi280 348) rfl rfl ?_
          refine X.last' 350 (zi280 349) rfl rfl (by decide) rfl (by omega) (fun hrm725 m725 hm725 => ?_)
          have eim725 : ((1611 + a1) - 20) = 1611 := by omega
          have hzm725 := hm725
          rw [eim725] at hzm725
          have hJ726 := w45_1611 hJ502 hzm725 (by omega) hf23 hg4
          refine X.iconst 351 (zi280 350) rfl rfl (by decide) ?_
          refine X.retz (zi280 351) rfl t280 (by omega) ?_
          exact hQ 1 m725 (by first | trivial | omega) (Eq.trans (zb_eq hFv503) (Eq.trans (if_pos h504) (Eq.trans (if_neg h505) (Eq.trans (if_neg h515) (Eq.trans (if_neg h528) (Eq.trans (if_neg h538) (Eq.trans (if_neg h548) (Eq.trans (if_neg h594) (Eq.trans (if_neg h604) (Eq.trans (if_neg h608) (Eq.trans (if_neg h612) (Eq.trans (if_neg h616) (Eq.trans (if_neg h620) (Eq.trans (if_neg h635) (Eq.trans (if_neg h650) (Eq.trans (if_neg h665) (Eq.trans (if_neg h680) (Eq.trans (if_neg h686) (Eq.trans (if_neg h692) (Eq.trans (if_neg h698) (Eq.trans (if_neg h704) (Eq.trans (if_neg h710) (Eq.trans (if_pos h716) (Eq.trans (if_neg h719c) (Eq.trans (if_pos h722c) (Eq.trans (zs_eq hm725) rfl)))))))))))))))))))))))))) (hJ726.up (by omega)) 
    by_cases h727 : a1 = 21
    · refine X.tsIn 309 21 (zi280 10) rfl (by omega) rfl rfl ?_
      refine X.iload_n 310 (zi280 309) rfl rfl rfl ?_
      refine X.i2l 311 (zi280 310) rfl rfl ?_
      refine X.lconst (y := 0) 312 (zi280 311) rfl rfl rfl ?_
      refine X.iload_n 313 (zi280 312) rfl rfl rfl ?_
      refine X.bipush 315 (zi280 313) rfl rfl (by decide) ?_
      refine X.icmpne 324 318 (zi280 315) rfl rfl rfl (fun h728 => (by exfalso; omega)) (fun h728 => ?_)
      refine X.ldc2 321 (zi280 318) rfl rfl (by decide) ?_
      refine X.goto 327 (zi280 321) rfl rfl ?_
      refine X.calls 330 [zl a2, zl 0, zl 200] [] [(0, zl a2), (2, zl 0), (4, zl 200)] (zi280 327) (by decide) rfl rfl (by omega) rfl rfl t204 (Nat.le_of_ble_eq_true rfl) (Nat.le_of_ble_eq_true rfl) rfl ?_
      refine X.lload_n 1 (zi204 0) rfl rfl rfl ?_
      refine X.lload_n 2 (zi204 1) rfl rfl rfl ?_
      refine X.lcmp 3 (zi204 2) rfl rfl (fun z729 hz729 => ?_)
      refine X.iflt 17 6 (zi204 3) rfl rfl rfl (fun h730 => ?_) (fun h730 => ?_)
      · have h730c : a2 < 0 := by omega
        clear h730 hz729
        refine X.cut [] (zi204 17) rfl ?_
        refine X.iconst 18 (zi204 17) rfl rfl (by decide) ?_
        refine X.retz (zi204 18) rfl t204 (by omega) ?_
        show X (EE s) d 280 330 [(0, zr 4 44), (1, zi a1), (2, zi a2)] [zi 0] m501 _
        refine X.ifne 335 333 (zi280 330) rfl rfl rfl (fun h731 => (by exfalso; omega)) (fun h731 => ?_)
        refine X.iconst 334 (zi280 333) rfl rfl (by decide) ?_
        refine X.retz (zi280 334) rfl t280 (by omega) ?_
        exact hQ 0 m501 (by first | trivial | omega) (Eq.trans (zb_eq hFv503) (Eq.trans (if_pos h504) (Eq.trans (if_neg h505) (Eq.trans (if_neg h515) (Eq.trans (if_neg h528) (Eq.trans (if_neg h538) (Eq.trans (if_neg h548) (Eq.trans (if_neg h594) (Eq.trans (if_neg h604) (Eq.trans (if_neg h608) (Eq.trans (if_neg h612) (Eq.trans (if_neg h616) (Eq.trans (if_neg h620) (Eq.trans (if_neg h635) (Eq.trans (if_neg h650) (Eq.trans (if_neg h665) (Eq.trans (if_neg h680) (Eq.trans (if_neg h686) (Eq.trans (if_neg h692) (Eq.trans (if_neg h698) (Eq.trans (if_neg h704) (Eq.trans (if_neg h710) (Eq.trans (if_neg h716) (Eq.trans (if_pos h727) (Eq.trans (if_pos h730c) rfl))))))))))))))))))))))))) (hJ502.up (by omega)) 
      · have h730c : ¬ a2 < 0 := by omega
        clear h730 hz729
        refine X.lload_n 7 (zi204 6) rfl rfl rfl ?_
        refine X.lload 9 (zi204 7) rfl rfl rfl ?_
        refine X.lcmp 10 (zi204 9) rfl rfl (fun z732 hz732 => ?_)
        refine X.ifgt 17 13 (zi204 10) rfl rfl rfl (fun h733 => ?_) (fun h733 => ?_)
        · have h733c : ¬ a2 ≤ 200 := by omega
          clear h733 hz732
          refine X.cut [] (zi204 17) rfl ?_
          refine X.iconst 18 (zi204 17) rfl rfl (by decide) ?_
          refine X.retz (zi204 18) rfl t204 (by omega) ?_
          show X (EE s) d 280 330 [(0, zr 4 44), (1, zi a1), (2, zi a2)] [zi 0] m501 _
          refine X.ifne 335 333 (zi280 330) rfl rfl rfl (fun h734 => (by exfalso; omega)) (fun h734 => ?_)
          refine X.iconst 334 (zi280 333) rfl rfl (by decide) ?_
          refine X.retz (zi280 334) rfl t280 (by omega) ?_
          exact hQ 0 m501 (by first | trivial | omega) (Eq.trans (zb_eq hFv503) (Eq.trans (if_pos h504) (Eq.trans (if_neg h505) (Eq.trans (if_neg h515) (Eq.trans (if_neg h528) (Eq.trans (if_neg h538) (Eq.trans (if_neg h548) (Eq.trans (if_neg h594) (Eq.trans (if_neg h604) (Eq.trans (if_neg h608) (Eq.trans (if_neg h612) (Eq.trans (if_neg h616) (Eq.trans (if_neg h620) (Eq.trans (if_neg h635) (Eq.trans (if_neg h650) (Eq.trans (if_neg h665) (Eq.trans (if_neg h680) (Eq.trans (if_neg h686) (Eq.trans (if_neg h692) (Eq.trans (if_neg h698) (Eq.trans (if_neg h704) (Eq.trans (if_neg h710) (Eq.trans (if_neg h716) (Eq.trans (if_pos h727) (Eq.trans (if_neg h730c) (Eq.trans (if_neg h733c) rfl)))))))))))))))))))))))))) (hJ502.up (by omega)) 
        · have h733c : a2 ≤ 200 := by omega
          clear h733 hz732
          refine X.iconst 14 (zi204 13) rfl rfl (by decide) ?_
          refine X.goto 18 (zi204 14) rfl rfl ?_
          refine X.cut [] (zi204 18) rfl ?_
          refine X.retz (zi204 18) rfl t204 (by omega) ?_
          show X (EE s) d 280 330 [(0, zr 4 44), (1, zi a1), (2, zi a2)] [zi 1] m501 _
          refine X.ifne 335 333 (zi280 330) rfl rfl rfl (fun h735 => ?_) (fun h735 => (by exfalso; omega))
          refine X.aload_n 336 (zi280 335) rfl rfl rfl ?_
          refine X.getF 339 (zi280 336) rfl rfl (by decide) rfl rfl ?_
          refine X.sipush 342 (zi280 339) rfl rfl (by decide) ?_
          refine X.iload_n 343 (zi280 342) rfl rfl rfl ?_
          refine X.iadd 344 (zi280 343) rfl rfl (by omega) ?_
          refine X.bipush 346 (zi280 344) rfl rfl (by decide) ?_
          refine X.isub 347 (zi280 346) rfl rfl (by omega) ?_
          refine X.iload_n 348 (zi280 347) rfl rfl rfl ?_
          refine X.i2l 349 (zi280 348) rfl rfl ?_
          refine X.last' 350 (zi280 349) rfl rfl (by decide) rfl (by omega) (fun hrm736 m736 hm736 => ?_)
          have eim736 : ((1611 + a1) - 20) = 1612 := by omega
          have hzm736 := hm736
          rw [eim736] at hzm736
          have hJ737 := w45_1612 hJ502 hzm736 (by omega) hf23 hg4
          refine X.iconst 351 (zi280 350) rfl rfl (by decide) ?_
          refine X.retz (zi280 351) rfl t280 (by omega) ?_
          exact hQ 1 m736 (by first | trivial | omega) (Eq.trans (zb_eq hFv503) (Eq.trans (if_pos h504) (Eq.trans (if_neg h505) (Eq.trans (if_neg h515) (Eq.trans (if_neg h528) (Eq.trans (if_neg h538) (Eq.trans (if_neg h548) (Eq.trans (if_neg h594) (Eq.trans (if_neg h604) (Eq.trans (if_neg h608) (Eq.trans (if_neg h612) (Eq.trans (if_neg h616) (Eq.trans (if_neg h620) (Eq.trans (if_neg h635) (Eq.trans (if_neg h650) (Eq.trans (if_neg h665) (Eq.trans (if_neg h680) (Eq.trans (if_neg h686) (Eq.trans (if_neg h692) (Eq.trans (if_neg h698) (Eq.trans (if_neg h704) (Eq.trans (if_neg h710) (Eq.trans (if_neg h716) (Eq.trans (if_pos h727) (Eq.trans (if_neg h730c) (Eq.trans (if_pos h733c) (Eq.trans (zs_eq hm736) rfl))))))))))))))))))))))))))) (hJ737.up (by omega)) 
    by_cases h738 : a1 = 22
    · refine X.tsIn 309 22 (zi280 10) rfl (by omega) rfl rfl ?_
      refine X.iload_n 310 (zi280 309) rfl rfl rfl ?_
      refine X.i2l 311 (zi280 310) rfl rfl ?_
      refine X.lconst (y := 0) 312 (zi280 311) rfl rfl rfl ?_
      refine X.iload_n 313 (zi280 312) rfl rfl rfl ?_
      refine X.bipush 315 (zi280 313) rfl rfl (by decide) ?_
      refine X.icmpne 324 318 (zi280 315) rfl rfl rfl (fun h739 => ?_) (fun h739 => (by exfalso; omega))
      refine X.ldc2 327 (zi280 324) rfl rfl (by decide) ?_
      refine X.calls 330 [zl a2, zl 0, zl 100] [] [(0, zl a2), (2, zl 0), (4, zl 100)] (zi280 327) (by decide) rfl rfl (by omega) rfl rfl t204 (Nat.le_of_ble_eq_true rfl) (Nat.le_of_ble_eq_true rfl) rfl ?_
      refine X.lload_n 1 (zi204 0) rfl rfl rfl ?_
      refine X.lload_n 2 (zi204 1) rfl rfl rfl ?_
      refine X.lcmp 3 (zi204 2) rfl rfl (fun z740 hz740 => ?_)
      refine X.iflt 17 6 (zi204 3) rfl rfl rfl (fun h741 => ?_) (fun h741 => ?_)
      · have h741c : a2 < 0 := by omega
        clear h741 hz740
        refine X.cut [] (zi204 17) rfl ?_
        refine X.iconst 18 (zi204 17) rfl rfl (by decide) ?_
        refine X.retz (zi204 18) rfl t204 (by omega) ?_
        show X (EE s) d 280 330 [(0, zr 4 44), (1, zi a1), (2, zi a2)] [zi 0] m501 _
        refine X.ifne 335 333 (zi280 330) rfl rfl rfl (fun h742 => (by exfalso; omega)) (fun h742 => ?_)
        refine X.iconst 334 (zi280 333) rfl rfl (by decide) ?_
        refine X.retz (zi280 334) rfl t280 (by omega) ?_
        exact hQ 0 m501 (by first | trivial | omega) (Eq.trans (zb_eq hFv503) (Eq.trans (if_pos h504) (Eq.trans (if_neg h505) (Eq.trans (if_neg h515) (Eq.trans (if_neg h528) (Eq.trans (if_neg h538) (Eq.trans (if_neg h548) (Eq.trans (if_neg h594) (Eq.trans (if_neg h604) (Eq.trans (if_neg h608) (Eq.trans (if_neg h612) (Eq.trans (if_neg h616) (Eq.trans (if_neg h620) (Eq.trans (if_neg h635) (Eq.trans (if_neg h650) (Eq.trans (if_neg h665) (Eq.trans (if_neg h680) (Eq.trans (if_neg h686) (Eq.trans (if_neg h692) (Eq.trans (if_neg h698) (Eq.trans (if_neg h704) (Eq.trans (if_neg h710) (Eq.trans (if_neg h716) (Eq.trans (if_neg h727) (Eq.trans (if_pos h738) (Eq.trans (if_pos h741c) rfl)))))))))))))))))))))))))) (hJ502.up (by omega)) 
      · have h741c : ¬ a2 < 0 := by omega
        clear h741 hz740
        refine X.lload_n 7 (zi204 6) rfl rfl rfl ?_
        refine X.lload 9 (zi204 7) rfl rfl rfl ?_
        refine X.lcmp 10 (zi204 9) rfl rfl (fun z743 hz743 => ?_)
        refine X.ifgt 17 13 (zi204 10) rfl rfl rfl (fun h744 => ?_) (fun h744 => ?_)
        · have h744c : ¬ a2 ≤ 100 := by omega
          clear h744 hz743
          refine X.cut [] (zi204 17) rfl ?_
          refine X.iconst 18 (zi204 17) rfl rfl (by decide) ?_
          refine X.retz (zi204 18) rfl t204 (by omega) ?_
          show X (EE s) d 280 330 [(0, zr 4 44), (1, zi a1), (2, zi a2)] [zi 0] m501 _
          refine X.ifne 335 333 (zi280 330) rfl rfl rfl (fun h745 => (by exfalso; omega)) (fun h745 => ?_)
          refine X.iconst 334 (zi280 333) rfl rfl (by decide) ?_
          refine X.retz (zi280 334) rfl t280 (by omega) ?_
          exact hQ 0 m501 (by first | trivial | omega) (Eq.trans (zb_eq hFv503) (Eq.trans (if_pos h504) (Eq.trans (if_neg h505) (Eq.trans (if_neg h515) (Eq.trans (if_neg h528) (Eq.trans (if_neg h538) (Eq.trans (if_neg h548) (Eq.trans (if_neg h594) (Eq.trans (if_neg h604) (Eq.trans (if_neg h608) (Eq.trans (if_neg h612) (Eq.trans (if_neg h616) (Eq.trans (if_neg h620) (Eq.trans (if_neg h635) (Eq.trans (if_neg h650) (Eq.trans (if_neg h665) (Eq.trans (if_neg h680) (Eq.trans (if_neg h686) (Eq.trans (if_neg h692) (Eq.trans (if_neg h698) (Eq.trans (if_neg h704) (Eq.trans (if_neg h710) (Eq.trans (if_neg h716) (Eq.trans (if_neg h727) (Eq.trans (if_pos h738) (Eq.trans (if_neg h741c) (Eq.trans (if_neg h744c) rfl))))))))))))))))))))))))))) (hJ502.up (by omega)) 
        · have h744c : a2 ≤ 100 := by omega
          clear h744 hz743
          refine X.iconst 14 (zi204 13) rfl rfl (by decide) ?_
          refine X.goto 18 (zi204 14) rfl rfl ?_
          refine X.cut [] (zi204 18) rfl ?_
          refine X.retz (zi204 18) rfl t204 (by omega) ?_
          show X (EE s) d 280 330 [(0, zr 4 44), (1, zi a1), (2, zi a2)] [zi 1] m501 _
          refine X.ifne 335 333 (zi280 330) rfl rfl rfl (fun h746 => ?_) (fun h746 => (by exfalso; omega))
          refine X.aload_n 336 (zi280 335) rfl rfl rfl ?_
          refine X.getF 339 (zi280 336) rfl rfl (by decide) rfl rfl ?_
          refine X.sipush 342 (zi280 339) rfl rfl (by decide) ?_
          refine X.iload_n 343 (zi280 342) rfl rfl rfl ?_
          refine X.iadd 344 (zi280 343) rfl rfl (by omega) ?_
          refine X.bipush 346 (zi280 344) rfl rfl (by decide) ?_
          refine X.isub 347 (zi280 346) rfl rfl (by omega) ?_
          refine X.iload_n 348 (zi280 347) rfl rfl rfl ?_
          refine X.i2l 349 (zi280 348) rfl rfl ?_
          refine X.last' 350 (zi280 349) rfl rfl (by decide) rfl (by omega) (fun hrm747 m747 hm747 => ?_)
          have eim747 : ((1611 + a1) - 20) = 1613 := by omega
          have hzm747 := hm747
          rw [eim747] at hzm747
          have hJ748 := w45_1613 hJ502 hzm747 (by omega) hf23 hg4
          refine X.iconst 351 (zi280 350) rfl rfl (by decide) ?_
          refine X.retz (zi280 351) rfl t280 (by omega) ?_
          exact hQ 1 m747 (by first | trivial | omega) (Eq.trans (zb_eq hFv503) (Eq.trans (if_pos h504) (Eq.trans (if_neg h505) (Eq.trans (if_neg h515) (Eq.trans (if_neg h528) (Eq.trans (if_neg h538) (Eq.trans (if_neg h548) (Eq.trans (if_neg h594) (Eq.trans (if_neg h604) (Eq.trans (if_neg h608) (Eq.trans (if_neg h612) (Eq.trans (if_neg h616) (Eq.trans (if_neg h620) (Eq.trans (if_neg h635) (Eq.trans (if_neg h650) (Eq.trans (if_neg h665) (Eq.trans (if_neg h680) (Eq.trans (if_neg h686) (Eq.trans (if_neg h692) (Eq.trans (if_neg h698) (Eq.trans (if_neg h704) (Eq.trans (if_neg h710) (Eq.trans (if_neg h716) (Eq.trans (if_neg h727) (Eq.trans (if_pos h738) (Eq.trans (if_neg h741c) (Eq.trans (if_pos h744c) (Eq.trans (zs_eq hm747) rfl)))))))))))))))))))))))))))) (hJ748.up (by omega)) 
    refine X.tsOut 352 (zi280 10) rfl (by omega) rfl ?_
    refine X.iload_n 353 (zi280 352) rfl rfl rfl ?_
    refine X.i2l 354 (zi280 353) rfl rfl ?_
    refine X.ldc2 357 (zi280 354) rfl rfl (by decide) ?_
    refine X.ldc2 360 (zi280 357) rfl rfl (by decide) ?_
    refine X.calls 363 [zl a1, zl 10, zl 13] [] [(0, zl a1), (2, zl 10), (4, zl 13)] (zi280 360) (by decide) rfl rfl (by omega) rfl rfl t204 (Nat.le_of_ble_eq_true rfl) (Nat.le_of_ble_eq_true rfl) rfl ?_
    refine X.lload_n 1 (zi204 0) rfl rfl rfl ?_
    refine X.lload_n 2 (zi204 1) rfl rfl rfl ?_
    refine X.lcmp 3 (zi204 2) rfl rfl (fun z749 hz749 => ?_)
    refine X.iflt 17 6 (zi204 3) rfl rfl rfl (fun h750 => ?_) (fun h750 => ?_)
    · have h750c : a1 < 10 := by omega
      clear h750 hz749
      refine X.cut [] (zi204 17) rfl ?_
      refine X.iconst 18 (zi204 17) rfl rfl (by decide) ?_
      refine X.retz (zi204 18) rfl t204 (by omega) ?_
      show X (EE s) d 280 363 [(0, zr 4 44), (1, zi a1), (2, zi a2)] [zi 0] m501 _
      refine X.ifeq 378 366 (zi280 363) rfl rfl rfl (fun h751 => ?_) (fun h751 => (by exfalso; omega))
      refine X.cut [] (zi280 378) rfl ?_
      refine X.iconst 379 (zi280 378) rfl rfl (by decide) ?_
      refine X.retz (zi280 379) rfl t280 (by omega) ?_
      exact hQ 0 m501 (by first | trivial | omega) (Eq.trans (zb_eq hFv503) (Eq.trans (if_pos h504) (Eq.trans (if_neg h505) (Eq.trans (if_neg h515) (Eq.trans (if_neg h528) (Eq.trans (if_neg h538) (Eq.trans (if_neg h548) (Eq.trans (if_neg h594) (Eq.trans (if_neg h604) (Eq.trans (if_neg h608) (Eq.trans (if_neg h612) (Eq.trans (if_neg h616) (Eq.trans (if_neg h620) (Eq.trans (if_neg h635) (Eq.trans (if_neg h650) (Eq.trans (if_neg h665) (Eq.trans (if_neg h680) (Eq.trans (if_neg h686) (Eq.trans (if_neg h692) (Eq.trans (if_neg h698) (Eq.trans (if_neg h704) (Eq.trans (if_neg h710) (Eq.trans (if_neg h716) (Eq.trans (if_neg h727) (Eq.trans (if_neg h738) (Eq.trans (if_pos h750c) rfl)))))))))))))))))))))))))) (hJ502.up (by omega)) 
    · have h750c : ¬ a1 < 10 := by omega
      clear h750 hz749
      refine X.lload_n 7 (zi204 6) rfl rfl rfl ?_
      refine X.lload 9 (zi204 7) rfl rfl rfl ?_
      refine X.lcmp 10 (zi204 9) rfl rfl (fun z752 hz752 => ?_)
      refine X.ifgt 17 13 (zi204 10) rfl rfl rfl (fun h753 => ?_) (fun h753 => ?_)
      · have h753c : ¬ a1 ≤ 13 := by omega
        clear h753 hz752
        refine X.cut [] (zi204 17) rfl ?_
        refine X.iconst 18 (zi204 17) rfl rfl (by decide) ?_
        refine X.retz (zi204 18) rfl t204 (by omega) ?_
        show X (EE s) d 280 363 [(0, zr 4 44), (1, zi a1), (2, zi a2)] [zi 0] m501 _
        refine X.ifeq 378 366 (zi280 363) rfl rfl rfl (fun h754 => ?_) (fun h754 => (by exfalso; omega))
        refine X.cut [] (zi280 378) rfl ?_
        refine X.iconst 379 (zi280 378) rfl rfl (by decide) ?_
        refine X.retz (zi280 379) rfl t280 (by omega) ?_
        exact hQ 0 m501 (by first | trivial | omega) (Eq.trans (zb_eq hFv503) (Eq.trans (if_pos h504) (Eq.trans (if_neg h505) (Eq.trans (if_neg h515) (Eq.trans (if_neg h528) (Eq.trans (if_neg h538) (Eq.trans (if_neg h548) (Eq.trans (if_neg h594) (Eq.trans (if_neg h604) (Eq.trans (if_neg h608) (Eq.trans (if_neg h612) (Eq.trans (if_neg h616) (Eq.trans (if_neg h620) (Eq.trans (if_neg h635) (Eq.trans (if_neg h650) (Eq.trans (if_neg h665) (Eq.trans (if_neg h680) (Eq.trans (if_neg h686) (Eq.trans (if_neg h692) (Eq.trans (if_neg h698) (Eq.trans (if_neg h704) (Eq.trans (if_neg h710) (Eq.trans (if_neg h716) (Eq.trans (if_neg h727) (Eq.trans (if_neg h738) (Eq.trans (if_neg h750c) (Eq.trans (if_neg h753c) rfl))))))))))))))))))))))))))) (hJ502.up (by omega)) 
      · have h753c : a1 ≤ 13 := by omega
        clear h753 hz752
        refine X.iconst 14 (zi204 13) rfl rfl (by decide) ?_
        refine X.goto 18 (zi204 14) rfl rfl ?_
        refine X.cut [] (zi204 18) rfl ?_
        refine X.retz (zi204 18) rfl t204 (by omega) ?_
        show X (EE s) d 280 363 [(0, zr 4 44), (1, zi a1), (2, zi a2)] [zi 1] m501 _
        refine X.ifeq 378 366 (zi280 363) rfl rfl rfl (fun h755 => (by exfalso; omega)) (fun h755 => ?_)
        refine X.iload_n 367 (zi280 366) rfl rfl rfl ?_
        refine X.i2l 368 (zi280 367) rfl rfl ?_
        refine X.lconst (y := 0) 369 (zi280 368) rfl rfl rfl ?_
        refine X.ldc2 372 (zi280 369) rfl rfl (by decide) ?_
        refine X.calls 375 [zl a2, zl 0, zl 100] [] [(0, zl a2), (2, zl 0), (4, zl 100)] (zi280 372) (by decide) rfl rfl (by omega) rfl rfl t204 (Nat.le_of_ble_eq_true rfl) (Nat.le_of_ble_eq_true rfl) rfl ?_
        refine X.lload_n 1 (zi204 0) rfl rfl rfl ?_
        refine X.lload_n 2 (zi204 1) rfl rfl rfl ?_
        refine X.lcmp 3 (zi204 2) rfl rfl (fun z756 hz756 => ?_)
        refine X.iflt 17 6 (zi204 3) rfl rfl rfl (fun h757 => ?_) (fun h757 => ?_)
        · have h757c : a2 < 0 := by omega
          clear h757 hz756
          refine X.cut [] (zi204 17) rfl ?_
          refine X.iconst 18 (zi204 17) rfl rfl (by decide) ?_
          refine X.retz (zi204 18) rfl t204 (by omega) ?_
          show X (EE s) d 280 375 [(0, zr 4 44), (1, zi a1), (2, zi a2)] [zi 0] m501 _
          refine X.ifne 380 378 (zi280 375) rfl rfl rfl (fun h758 => (by exfalso; omega)) (fun h758 => ?_)
          refine X.cut [] (zi280 378) rfl ?_
          refine X.iconst 379 (zi280 378) rfl rfl (by decide) ?_
          refine X.retz (zi280 379) rfl t280 (by omega) ?_
          exact hQ 0 m501 (by first | trivial | omega) (Eq.trans (zb_eq hFv503) (Eq.trans (if_pos h504) (Eq.trans (if_neg h505) (Eq.trans (if_neg h515) (Eq.trans (if_neg h528) (Eq.trans (if_neg h538) (Eq.trans (if_neg h548) (Eq.trans (if_neg h594) (Eq.trans (if_neg h604) (Eq.trans (if_neg h608) (Eq.trans (if_neg h612) (Eq.trans (if_neg h616) (Eq.trans (if_neg h620) (Eq.trans (if_neg h635) (Eq.trans (if_neg h650) (Eq.trans (if_neg h665) (Eq.trans (if_neg h680) (Eq.trans (if_neg h686) (Eq.trans (if_neg h692) (Eq.trans (if_neg h698) (Eq.trans (if_neg h704) (Eq.trans (if_neg h710) (Eq.trans (if_neg h716) (Eq.trans (if_neg h727) (Eq.trans (if_neg h738) (Eq.trans (if_neg h750c) (Eq.trans (if_pos h753c) (Eq.trans (if_pos h757c) rfl)))))))))))))))))))))))))))) (hJ502.up (by omega)) 
        · have h757c : ¬ a2 < 0 := by omega
          clear h757 hz756
          refine X.lload_n 7 (zi204 6) rfl rfl rfl ?_
          refine X.lload 9 (zi204 7) rfl rfl rfl ?_
          refine X.lcmp 10 (zi204 9) rfl rfl (fun z759 hz759 => ?_)
          refine X.ifgt 17 13 (zi204 10) rfl rfl rfl (fun h760 => ?_) (fun h760 => ?_)
          · have h760c : ¬ a2 ≤ 100 := by omega
            clear h760 hz759
            refine X.cut [] (zi204 17) rfl ?_
            refine X.iconst 18 (zi204 17) rfl rfl (by decide) ?_
            refine X.retz (zi204 18) rfl t204 (by omega) ?_
            show X (EE s) d 280 375 [(0, zr 4 44), (1, zi a1), (2, zi a2)] [zi 0] m501 _
            refine X.ifne 380 378 (zi280 375) rfl rfl rfl (fun h761 => (by exfalso; omega)) (fun h761 => ?_)
            refine X.cut [] (zi280 378) rfl ?_
            refine X.iconst 379 (zi280 378) rfl rfl (by decide) ?_
            refine X.retz (zi280 379) rfl t280 (by omega) ?_
            exact hQ 0 m501 (by first | trivial | omega) (Eq.trans (zb_eq hFv503) (Eq.trans (if_pos h504) (Eq.trans (if_neg h505) (Eq.trans (if_neg h515) (Eq.trans (if_neg h528) (Eq.trans (if_neg h538) (Eq.trans (if_neg h548) (Eq.trans (if_neg h594) (Eq.trans (if_neg h604) (Eq.trans (if_neg h608) (Eq.trans (if_neg h612) (Eq.trans (if_neg h616) (Eq.trans (if_neg h620) (Eq.trans (if_neg h635) (Eq.trans (if_neg h650) (Eq.trans (if_neg h665) (Eq.trans (if_neg h680) (Eq.trans (if_neg h686) (Eq.trans (if_neg h692) (Eq.trans (if_neg h698) (Eq.trans (if_neg h704) (Eq.trans (if_neg h710) (Eq.trans (if_neg h716) (Eq.trans (if_neg h727) (Eq.trans (if_neg h738) (Eq.trans (if_neg h750c) (Eq.trans (if_pos h753c) (Eq.trans (if_neg h757c) (Eq.trans (if_neg h760c) rfl))))))))))))))))))))))))))))) (hJ502.up (by omega)) 
          · have h760c : a2 ≤ 100 := by omega
            clear h760 hz759
            refine X.iconst 14 (zi204 13) rfl rfl (by decide) ?_
            refine X.goto 18 (zi204 14) rfl rfl ?_
            refine X.cut [] (zi204 18) rfl ?_
            refine X.retz (zi204 18) rfl t204 (by omega) ?_
            show X (EE s) d 280 375 [(0, zr 4 44), (1, zi a1), (2, zi a2)] [zi 1] m501 _
            refine X.ifne 380 378 (zi280 375) rfl rfl rfl (fun h762 => ?_) (fun h762 => (by exfalso; omega))
            refine X.aload_n 381 (zi280 380) rfl rfl rfl ?_
            refine X.getF 384 (zi280 381) rfl rfl (by decide) rfl rfl ?_
            refine X.bipush 386 (zi280 384) rfl rfl (by decide) ?_
            refine X.iload_n 387 (zi280 386) rfl rfl rfl ?_
            refine X.iadd 388 (zi280 387) rfl rfl (by omega) ?_
            refine X.bipush 390 (zi280 388) rfl rfl (by decide) ?_
            refine X.isub 391 (zi280 390) rfl rfl (by omega) ?_
            refine X.iload_n 392 (zi280 391) rfl rfl rfl ?_
            refine X.i2l 393 (zi280 392) rfl rfl ?_
            refine X.last' 394 (zi280 393) rfl rfl (by decide) rfl (by omega) (fun hrm763 m763 hm763 => ?_)
            have hJ764 := w45_28 hJ502 hm763 (by omega) (by omega) hf23 hg4
            refine X.iconst 395 (zi280 394) rfl rfl (by decide) ?_
            refine X.retz (zi280 395) rfl t280 (by omega) ?_
            exact hQ 1 m763 (by first | trivial | omega) (Eq.trans (zb_eq hFv503) (Eq.trans (if_pos h504) (Eq.trans (if_neg h505) (Eq.trans (if_neg h515) (Eq.trans (if_neg h528) (Eq.trans (if_neg h538) (Eq.trans (if_neg h548) (Eq.trans (if_neg h594) (Eq.trans (if_neg h604) (Eq.trans (if_neg h608) (Eq.trans (if_neg h612) (Eq.trans (if_neg h616) (Eq.trans (if_neg h620) (Eq.trans (if_neg h635) (Eq.trans (if_neg h650) (Eq.trans (if_neg h665) (Eq.trans (if_neg h680) (Eq.trans (if_neg h686) (Eq.trans (if_neg h692) (Eq.trans (if_neg h698) (Eq.trans (if_neg h704) (Eq.trans (if_neg h710) (Eq.trans (if_neg h716) (Eq.trans (if_neg h727) (Eq.trans (if_neg h738) (Eq.trans (if_neg h750c) (Eq.trans (if_pos h753c) (Eq.trans (if_neg h757c) (Eq.trans (if_pos h760c) (Eq.trans (zs_eq hm763) rfl)))))))))))))))))))))))))))))) (hJ764.up (by omega)) 
  · refine X.iconst 8 (zi280 7) rfl rfl (by decide) ?_
    refine X.retz (zi280 8) rfl t280 (by omega) ?_
    exact hQ 0 m501 (by first | trivial | omega) (Eq.trans (zb_eq hFv503) (Eq.trans (if_neg h504) rfl)) (hJ502.up (by omega)) 
-- WorkMeter$Calendar.hasSwitch
noncomputable def f82_1 (g0 : Nat) (a1 a2 : Int) (m : zM) : Int :=
  zn (f32_1 g0 a1 a2 m) fun v503 =>
  zn (if ((a1 * 6) + (m g0 12 a1)) ≤ ((a1 * 6) + v503) then
  (0)
  else
  (if (m g0 13 ((a1 * 6) + v503)) = a2 then
  (1)
  else
  (0))) fun v508 =>
  v508
-- WorkMeter$Calendar.hasSwitch
theorem c82_1 {s : Nat × (Nat → Int32)} {S : zS} {m0 m : zM} {B : Int} {d : Nat} {Q : Option zV → zM → Prop} (g0 : Nat) (a1 a2 : Int) (hd : 14 ≤ d) (hJ : J S m0 B m) (hB : B + 0 ≤ 1000000000) (ha1 : 0 ≤ a1 ∧ a1 ≤ 7) (ha2 : 0 ≤ a2 ∧ a2 ≤ 86399) (hQ : ∀ (v : Int), (0 ≤ v ∧ v ≤ 1) → f82_1 g0 a1 a2 m = v → (v = 1 → f32_1 g0 a1 a2 m < m g0 12 a1) → Q (some (zi v)) m) : X (EE s) d 82 0 [(0, zr g0 11), (1, zi a1), (2, zi a2)] [] m Q := by
  refine X.iload_n 1 (zi82 0) rfl rfl rfl ?_
  refine X.bipush 3 (zi82 1) rfl rfl (by decide) ?_
  refine X.imul 4 (zi82 3) rfl rfl (by omega) ?_
  refine X.aload_n 5 (zi82 4) rfl rfl rfl ?_
  refine X.iload_n 6 (zi82 5) rfl rfl rfl ?_
  refine X.iload_n 7 (zi82 6) rfl rfl rfl ?_
  refine X.callv 10 [zi a1, zi a2] [zi (a1 * 6)] [(0, zr g0 11), (1, zi a1), (2, zi a2)] (zi82 7) rfl (by decide) rfl rfl (by omega) rfl rfl (by decide) rfl t32 (Nat.le_of_ble_eq_true rfl) (Nat.le_of_ble_eq_true rfl) rfl ?_
  refine c32_1 (B := B) g0 a1 a2 (by omega) (hJ.up (by omega)) (by omega) (by omega) (by omega) (fun v503 hv503 hFv503 hqv503_0 hqv503_1 => ?_)
  show X (EE s) d 82 10 [(0, zr g0 11), (1, zi a1), (2, zi a2)] [zi v503, zi (a1 * 6)] m _
  refine X.iadd 11 (zi82 10) rfl rfl (by omega) ?_
  refine X.istore_n 12 [(0, zr g0 11), (1, zi a1), (2, zi a2), (3, zi ((a1 * 6) + v503))] (zi82 11) rfl rfl rfl ?_
  refine X.iload_n 13 (zi82 12) rfl rfl rfl ?_
  refine X.bipush 15 (zi82 13) rfl rfl (by decide) ?_
  refine X.imul 16 (zi82 15) rfl rfl (by omega) ?_
  refine X.aload_n 17 (zi82 16) rfl rfl rfl ?_
  refine X.getR 20 (zi82 17) rfl rfl (by decide) rfl rfl ?_
  refine X.iload_n 21 (zi82 20) rfl rfl rfl ?_
  refine X.iald 22 (zi82 21) rfl rfl (by decide) rfl (by omega) ?_
  have h504 := r12_0 hJ g0 (i := a1) (by omega)
  refine X.iadd 23 (zi82 22) rfl rfl (by omega) ?_
  refine X.istore 25 [(0, zr g0 11), (1, zi a1), (2, zi a2), (3, zi ((a1 * 6) + v503)), (4, zi ((a1 * 6) + (m g0 12 a1)))] (zi82 23) rfl rfl rfl ?_
  refine X.iload_n 26 (zi82 25) rfl rfl rfl ?_
  refine X.iload 28 (zi82 26) rfl rfl rfl ?_
  have hK511 : ∀ (v : Int) , (0 ≤ v ∧ v ≤ 1) → (if ((a1 * 6) + (m g0 12 a1)) ≤ ((a1 * 6) + v503) then
      (0)
      else
      (if (m g0 13 ((a1 * 6) + v503)) = a2 then
      (1)
      else
      (0))) = v → X (EE s) d 82 46 [] [zi v] m Q := by
    intro v508 hv508 hT512
    refine X.retz (zi82 46) rfl t82 (by omega) ?_
    exact hQ v508 (by first | trivial | omega) (Eq.trans (zn_eq hFv503.symm) (Eq.trans (zn_eq hT512.symm) rfl)) (by omega)
  refine X.icmpge 45 31 (zi82 28) rfl rfl rfl (fun h505 => ?_) (fun h505 => ?_)
  · refine X.cut [] (zi82 45) rfl ?_
    refine X.iconst 46 (zi82 45) rfl rfl (by decide) ?_
    exact hK511 0 (by first | trivial | omega) (Eq.trans (if_pos h505) rfl)
  · refine X.aload_n 32 (zi82 31) rfl rfl rfl ?_
    refine X.getR 35 (zi82 32) rfl rfl (by decide) rfl rfl ?_
    refine X.iload_n 36 (zi82 35) rfl rfl rfl ?_
    refine X.iald 37 (zi82 36) rfl rfl (by decide) rfl (by omega) ?_
    have h506 := r13_0 hJ g0 (i := ((a1 * 6) + v503)) (by omega)
    refine X.iload_n 38 (zi82 37) rfl rfl rfl ?_
    refine X.icmpne 45 41 (zi82 38) rfl rfl rfl (fun h507 => ?_) (fun h507 => ?_)
    · refine X.cut [] (zi82 45) rfl ?_
      refine X.iconst 46 (zi82 45) rfl rfl (by decide) ?_
      exact hK511 0 (by first | trivial | omega) (Eq.trans (if_neg h505) (Eq.trans (if_neg h507) rfl))
    · refine X.iconst 42 (zi82 41) rfl rfl (by decide) ?_
      refine X.goto 46 (zi82 42) rfl rfl ?_
      refine X.cut [] (zi82 46) rfl ?_
      exact hK511 1 (by first | trivial | omega) (Eq.trans (if_neg h505) (Eq.trans (if_pos h507) rfl))
noncomputable def fl81_65_1_b (self : Int → zM → Int × zM) (k110 : zM → Int × zM) (g0 : Nat) (y1 y2 y3 y5 : Int) (y6 : Int) (m : zM) : Int × zM :=
  if y6 ≤ y5 then
  (k110 m)
  else
  (zs (z_upd m g0 13 y6 (m g0 13 (y6 - 1))) fun m510 =>
  zs (z_upd m510 g0 14 y6 (m510 g0 14 (y6 - 1))) fun m513 =>
  self (y6 + (-1)) m513)
noncomputable def fl81_65_1 (k110 : zM → Int × zM) (g0 : Nat) (y1 y2 y3 y5 : Int) : Nat → Int → zM → Int × zM
  | 0 => fun y6 m => (0, m)
  | n + 1 => fl81_65_1_b (fl81_65_1 k110 g0 y1 y2 y3 y5 n) k110 g0 y1 y2 y3 y5
theorem l81_65_1 {s : Nat × (Nat → Int32)} {S : zS} {m0 : zM} {d : Nat} {Q : Option zV → zM → Prop} {R0 : Int × zM} {k110 : zM → Int × zM} (g0 : Nat) (y1 y2 y3 y5 : Int) (BE : Int) (hE : BE ≤ 1000000000) (hd : 13 ≤ d) (hy1 : 0 ≤ y1 ∧ y1 ≤ 7) (hy2 : 0 ≤ y2 ∧ y2 ≤ 86399) (hy3 : 0 ≤ y3 ∧ y3 ≤ 3) (hy5 : 0 ≤ y5 ∧ y5 ≤ 48) (hf1 : ¬ S.1 1) (hgg0 : ¬ S.2.1 g0)
    (K110 : ∀ (m' : zM) (B' : Int), J S m0 B' m' → B' ≤ BE → (m' g0 12 y1 ≤ 5) → R0 = k110 m' → X (EE s) d 81 110 [(0, zr g0 11), (1, zi y1), (2, zi y2), (3, zi y3), (5, zi y5)] [] m' Q) :
    ∀ (n : Nat) (y6 : Int) (m : zM) (B : Int), J S m0 B m → B + 0 * (n : Int) ≤ BE → (0 ≤ y6 ∧ y6 ≤ 47) → (m g0 12 y1 ≤ 5) → y6 - 0 < (n : Int) → R0 = fl81_65_1 k110 g0 y1 y2 y3 y5 n y6 m → X (EE s) d 81 65 [(0, zr g0 11), (1, zi y1), (2, zi y2), (3, zi y3), (5, zi y5), (6, zi y6)] [] m Q := by
  intro n
  induction n with
  | zero =>
    intro y6 m B hJ hB hy6 hr0 hn hR
    exfalso
    omega
  | succ n ih =>
    intro y6 m B hJ hB hy6 hr0 hn hR
    replace hR : R0 = fl81_65_1_b (fl81_65_1 k110 g0 y1 y2 y3 y5 n) k110 g0 y1 y2 y3 y5 y6 m := hR
    refine X.iload 67 (zi81 65) rfl rfl rfl ?_
    refine X.iload 69 (zi81 67) rfl rfl rfl ?_
    refine X.icmple 110 72 (zi81 69) rfl rfl rfl (fun h508 => ?_) (fun h508 => ?_)
    · refine X.cut [(0, zr g0 11), (1, zi y1), (2, zi y2), (3, zi y3), (5, zi y5)] (zi81 110) rfl ?_
      exact K110  m (B) (hJ.up (by omega)) (by omega) (by omega) (Eq.trans hR (Eq.trans (if_pos h508) rfl))
    · refine X.aload_n 73 (zi81 72) rfl rfl rfl ?_
      refine X.getR 76 (zi81 73) rfl rfl (by decide) rfl rfl ?_
      refine X.iload 78 (zi81 76) rfl rfl rfl ?_
      refine X.aload_n 79 (zi81 78) rfl rfl rfl ?_
      refine X.getR 82 (zi81 79) rfl rfl (by decide) rfl rfl ?_
      refine X.iload 84 (zi81 82) rfl rfl rfl ?_
      refine X.iconst 85 (zi81 84) rfl rfl (by decide) ?_
      refine X.isub 86 (zi81 85) rfl rfl (by omega) ?_
      refine X.iald 87 (zi81 86) rfl rfl (by decide) rfl (by omega) ?_
      have h509 := r13_0 hJ g0 (i := (y6 - 1)) (by omega)
      refine X.iast' 88 (zi81 87) rfl rfl (by decide) rfl (by omega) (fun hrm510 m510 hm510 => ?_)
      have hJ511 := w13_0 hJ hm510 (by omega) (by omega) hf1 hgg0
      have wtm510_0 : m510 g0 12 y1 = m g0 12 y1 := by rw [hm510]; exact z_upd_o _ _ rfl
      refine X.aload_n 89 (zi81 88) rfl rfl rfl ?_
      refine X.getR 92 (zi81 89) rfl rfl (by decide) rfl rfl ?_
      refine X.iload 94 (zi81 92) rfl rfl rfl ?_
      refine X.aload_n 95 (zi81 94) rfl rfl rfl ?_
      refine X.getR 98 (zi81 95) rfl rfl (by decide) rfl rfl ?_
      refine X.iload 100 (zi81 98) rfl rfl rfl ?_
      refine X.iconst 101 (zi81 100) rfl rfl (by decide) ?_
      refine X.isub 102 (zi81 101) rfl rfl (by omega) ?_
      refine X.iald 103 (zi81 102) rfl rfl (by decide) rfl (by omega) ?_
      have h512 := r14_0 hJ511 g0 (i := (y6 - 1)) (by omega)
      refine X.iast' 104 (zi81 103) rfl rfl (by decide) rfl (by omega) (fun hrm513 m513 hm513 => ?_)
      have hJ514 := w14_0 hJ511 hm513 (by omega) (by omega) hf1 hgg0
      have wtm513_0 : m513 g0 12 y1 = m510 g0 12 y1 := by rw [hm513]; exact z_upd_o _ _ rfl
      refine X.iinc 107 [(0, zr g0 11), (1, zi y1), (2, zi y2), (3, zi y3), (5, zi y5), (6, zi (y6 + (-1)))] (zi81 104) rfl rfl rfl (by omega) rfl ?_
      refine X.goto 65 (zi81 107) rfl rfl ?_
      exact ih (y6 + (-1)) m513 (B) (hJ514.up (by omega)) (by omega) (by omega) (by omega) (by omega) (Eq.trans hR (Eq.trans (if_neg h508) (Eq.trans (zs_eq hm510) (Eq.trans (zs_eq hm513) rfl))))
-- WorkMeter$Calendar.putSwitch
noncomputable def f81_1 (g0 : Nat) (a1 a2 a3 : Int) (m : zM) : Int × zM :=
  zn (f32_1 g0 a1 a2 m) fun v503 =>
  zn (f82_1 g0 a1 a2 m) fun v506 =>
  if v506 = 0 then
  (if (m g0 12 a1) < 6 then
  (fl81_65_1 (fun m510 =>
  zs (z_upd m510 g0 13 ((a1 * 6) + v503) a2) fun m514 =>
  zs (z_upd m514 g0 14 ((a1 * 6) + v503) a3) fun m516 =>
  zs (z_upd m516 g0 12 a1 ((m516 g0 12 a1) + 1)) fun m519 =>
  ((m519 g0 12 a1), m519)) g0 a1 a2 a3 ((a1 * 6) + v503) (zfu 48) ((a1 * 6) + (m g0 12 a1)) m)
  else
  (((-1), m)))
  else
  (zs (z_upd m g0 14 ((a1 * 6) + v503) a3) fun m522 =>
  ((m522 g0 12 a1), m522))
end
