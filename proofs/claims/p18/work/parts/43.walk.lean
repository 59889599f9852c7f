-- WorkMeterModel.set
theorem c280_1 {s : Nat × (Nat → Int32)} {S : zS} {m0 m : zM} {B : Int} {d : Nat} {Q : Option zV → zM → Prop} (a1 a2 : Int) (hd : 18 ≤ d) (hJ : J S m0 B m) (hB : B + 1 ≤ 1000000000) (ha1 : (-2147483648) ≤ a1 ∧ a1 ≤ 2147483647) (ha2 : (-2147483648) ≤ a2 ∧ a2 ≤ 2147483647) (hQ : ∀ (v : Int) m', (0 ≤ v ∧ v ≤ 1) → J S m0 (B + 1) m' → (v = 1 ↔ (m 4 45 1614 = 0 ∧ cBi a1 a2 = 1 ∧ ¬ (a1 = 1 ∧ 0 < m 4 45 13))) → Q (some (zi v)) m') : X (EE s) d 280 0 [(0, zr 4 44), (1, zi a1), (2, zi a2)] [] m Q := by
  refine X.aload_n 1 i280_0 rfl rfl rfl ?_
  refine X.callv 4 [] [] [(0, zr 4 44)] i280_1 rfl (by decide) rfl rfl (by omega) rfl rfl (by decide) rfl t203 (Nat.le_of_ble_eq_true rfl) (Nat.le_of_ble_eq_true rfl) rfl ?_
  refine X.aload_n 1 i203_0 rfl rfl rfl ?_
  refine X.getF 4 i203_1 rfl rfl (by decide) rfl rfl ?_
  refine X.sipush 7 i203_4 rfl rfl (by decide) ?_
  refine X.dup2 8 i203_7 rfl rfl ?_
  refine X.lald 9 i203_8 rfl rfl (by decide) rfl (by omega) ?_
  refine X.aload_n 10 i203_9 rfl rfl rfl ?_
  refine X.getF 13 i203_10 rfl rfl (by decide) rfl rfl ?_
  refine X.sipush 16 i203_13 rfl rfl (by decide) ?_
  refine X.lald 17 i203_16 rfl rfl (by decide) rfl (by omega) ?_
  have h501 := r45_1614 hJ 4
  refine X.llF 18 .ladd (fun x y => x + y) i203_17 rfl rfl rfl (fun _ _ => rfl) (fun z502 hz502 => ?_)
  refine X.last' 19 i203_18 rfl rfl (by decide) rfl (by omega) (fun hrm503 m503 hm503 => ?_)
  have hJ504 := w45_1618 hJ hm503 hrm503
  have wt505 : m503 4 45 1614 = (m 4 45 1614) := by rw [hm503]; exact z_upd_o _ _ rfl
  have wt506 : m503 4 45 13 = (m 4 45 13) := by rw [hm503]; exact z_upd_o _ _ rfl
  refine X.aload_n 20 i203_19 rfl rfl rfl ?_
  refine X.getF 23 i203_20 rfl rfl (by decide) rfl rfl ?_
  refine X.sipush 26 i203_23 rfl rfl (by decide) ?_
  refine X.lald 27 i203_26 rfl rfl (by decide) rfl (by omega) ?_
  have h507 := r45_1614 hJ504 4
  refine X.lconst (y := 1) 28 i203_27 rfl rfl rfl ?_
  refine X.lcmp 29 i203_28 rfl rfl (fun z508 hz508 => ?_)
  refine X.ifne 36 32 i203_29 rfl rfl rfl (fun h509 => ?_) (fun h509 => ?_)
  · have h509c : (m503 4 45 1614) ≠ 1 := by omega
    clear h509 hz508
    refine X.cut [] i203_36 rfl ?_
    refine X.iconst 37 i203_36 rfl rfl (by decide) ?_
    refine X.retz i203_37 rfl t203 (by omega) ?_
    show X (EE s) d 280 4 [(0, zr 4 44), (1, zi a1), (2, zi a2)] [zi 0] m503 _
    refine X.ifeq 9 7 i280_4 rfl rfl rfl (fun h510 => ?_) (fun h510 => (by exfalso; omega))
    refine X.iload_n 10 i280_9 rfl rfl rfl ?_
    by_cases h511 : a1 = 0
    · refine X.tsIn 116 0 i280_10 rfl (by omega) rfl rfl ?_
      refine X.cut [(0, zr 4 44), (2, zi a2)] i280_116 rfl ?_
      refine X.iload_n 117 i280_116 rfl rfl rfl ?_
      refine X.i2l 118 i280_117 rfl rfl ?_
      refine X.lconst (y := 0) 119 i280_118 rfl rfl rfl ?_
      refine X.ldc2 122 i280_119 rfl rfl (by decide) ?_
      refine X.calls 125 [zl a2, zl 0, zl 1000000] [] [(0, zl a2), (2, zl 0), (4, zl 1000000)] i280_122 (by decide) rfl rfl (by omega) rfl rfl t204 (Nat.le_of_ble_eq_true rfl) (Nat.le_of_ble_eq_true rfl) rfl ?_
      refine X.lload_n 1 i204_0 rfl rfl rfl ?_
      refine X.lload_n 2 i204_1 rfl rfl rfl ?_
      refine X.lcmp 3 i204_2 rfl rfl (fun z512 hz512 => ?_)
      refine X.iflt 17 6 i204_3 rfl rfl rfl (fun h513 => ?_) (fun h513 => ?_)
      · have h513c : a2 < 0 := by omega
        clear h513 hz512
        refine X.cut [] i204_17 rfl ?_
        refine X.iconst 18 i204_17 rfl rfl (by decide) ?_
        refine X.retz i204_18 rfl t204 (by omega) ?_
        show X (EE s) d 280 125 [(0, zr 4 44), (2, zi a2)] [zi 0] m503 _
        refine X.ifne 130 128 i280_125 rfl rfl rfl (fun h514 => (by exfalso; omega)) (fun h514 => ?_)
        refine X.iconst 129 i280_128 rfl rfl (by decide) ?_
        refine X.retz i280_129 rfl t280 (by omega) ?_
        exact hQ 0 m503 (by first | trivial | omega) (hJ504.up (by omega)) (by first | omega | (have hc := cBi_0 (a := a1) (b := a2) (by unfold cB; omega); omega))
      · have h513c : a2 ≥ 0 := by omega
        clear h513 hz512
        refine X.lload_n 7 i204_6 rfl rfl rfl ?_
        refine X.lload 9 i204_7 rfl rfl rfl ?_
        refine X.lcmp 10 i204_9 rfl rfl (fun z515 hz515 => ?_)
        refine X.ifgt 17 13 i204_10 rfl rfl rfl (fun h516 => ?_) (fun h516 => ?_)
        · have h516c : a2 > 1000000 := by omega
          clear h516 hz515
          refine X.cut [] i204_17 rfl ?_
          refine X.iconst 18 i204_17 rfl rfl (by decide) ?_
          refine X.retz i204_18 rfl t204 (by omega) ?_
          show X (EE s) d 280 125 [(0, zr 4 44), (2, zi a2)] [zi 0] m503 _
          refine X.ifne 130 128 i280_125 rfl rfl rfl (fun h517 => (by exfalso; omega)) (fun h517 => ?_)
          refine X.iconst 129 i280_128 rfl rfl (by decide) ?_
          refine X.retz i280_129 rfl t280 (by omega) ?_
          exact hQ 0 m503 (by first | trivial | omega) (hJ504.up (by omega)) (by first | omega | (have hc := cBi_0 (a := a1) (b := a2) (by unfold cB; omega); omega))
        · have h516c : a2 ≤ 1000000 := by omega
          clear h516 hz515
          refine X.iconst 14 i204_13 rfl rfl (by decide) ?_
          refine X.goto 18 i204_14 rfl rfl ?_
          refine X.cut [] i204_18 rfl ?_
          refine X.retz i204_18 rfl t204 (by omega) ?_
          show X (EE s) d 280 125 [(0, zr 4 44), (2, zi a2)] [zi 1] m503 _
          refine X.ifne 130 128 i280_125 rfl rfl rfl (fun h518 => ?_) (fun h518 => (by exfalso; omega))
          refine X.aload_n 131 i280_130 rfl rfl rfl ?_
          refine X.getF 134 i280_131 rfl rfl (by decide) rfl rfl ?_
          refine X.iconst 135 i280_134 rfl rfl (by decide) ?_
          refine X.iload_n 136 i280_135 rfl rfl rfl ?_
          refine X.i2l 137 i280_136 rfl rfl ?_
          refine X.last' 138 i280_137 rfl rfl (by decide) rfl (by omega) (fun hrm519 m519 hm519 => ?_)
          have hJ520 := w45_4 hJ504 hm519 hrm519
          have wt521 : m519 4 45 1614 = (m 4 45 1614) := Eq.trans (by rw [hm519]; exact z_upd_o _ _ rfl) wt505
          have wt522 : m519 4 45 13 = (m 4 45 13) := Eq.trans (by rw [hm519]; exact z_upd_o _ _ rfl) wt506
          clear wt506
          refine X.iconst 139 i280_138 rfl rfl (by decide) ?_
          refine X.retz i280_139 rfl t280 (by omega) ?_
          exact hQ 1 m519 (by first | trivial | omega) (hJ520.up (by omega)) (by (have hc := cBi_1 (a := a1) (b := a2) (by unfold cB; first | exact (.inl ⟨by omega, by omega, by omega⟩) | exact (.inr (.inl ⟨by omega, by omega, by omega⟩)) | exact (.inr (.inr (.inl ⟨by omega, by omega, by omega⟩))) | exact (.inr (.inr (.inr (.inl ⟨by omega, by omega, by omega⟩)))) | exact (.inr (.inr (.inr (.inr (.inl ⟨by omega, by omega⟩))))) | exact (.inr (.inr (.inr (.inr (.inr (.inl ⟨by omega, by omega, by omega⟩)))))) | exact (.inr (.inr (.inr (.inr (.inr (.inr (.inl ⟨by omega, by omega, by omega, by omega⟩))))))) | exact (.inr (.inr (.inr (.inr (.inr (.inr (.inr (.inl ⟨by omega, by omega, by omega⟩)))))))) | exact (.inr (.inr (.inr (.inr (.inr (.inr (.inr (.inr (.inl ⟨by omega, by omega, by omega⟩))))))))) | exact (.inr (.inr (.inr (.inr (.inr (.inr (.inr (.inr (.inr ⟨by omega, by omega, by omega⟩)))))))))); omega))
    by_cases h523 : a1 = 1
    · refine X.tsIn 140 1 i280_10 rfl (by omega) rfl rfl ?_
      refine X.cut [(0, zr 4 44), (2, zi a2)] i280_140 rfl ?_
      refine X.iload_n 141 i280_140 rfl rfl rfl ?_
      refine X.i2l 142 i280_141 rfl rfl ?_
      refine X.lconst (y := 1) 143 i280_142 rfl rfl rfl ?_
      refine X.ldc2 146 i280_143 rfl rfl (by decide) ?_
      refine X.calls 149 [zl a2, zl 1, zl 1000000] [] [(0, zl a2), (2, zl 1), (4, zl 1000000)] i280_146 (by decide) rfl rfl (by omega) rfl rfl t204 (Nat.le_of_ble_eq_true rfl) (Nat.le_of_ble_eq_true rfl) rfl ?_
      refine X.lload_n 1 i204_0 rfl rfl rfl ?_
      refine X.lload_n 2 i204_1 rfl rfl rfl ?_
      refine X.lcmp 3 i204_2 rfl rfl (fun z524 hz524 => ?_)
      refine X.iflt 17 6 i204_3 rfl rfl rfl (fun h525 => ?_) (fun h525 => ?_)
      · have h525c : a2 < 1 := by omega
        clear h525 hz524
        refine X.cut [] i204_17 rfl ?_
        refine X.iconst 18 i204_17 rfl rfl (by decide) ?_
        refine X.retz i204_18 rfl t204 (by omega) ?_
        show X (EE s) d 280 149 [(0, zr 4 44), (2, zi a2)] [zi 0] m503 _
        refine X.ifeq 164 152 i280_149 rfl rfl rfl (fun h526 => ?_) (fun h526 => (by exfalso; omega))
        refine X.cut [] i280_164 rfl ?_
        refine X.iconst 165 i280_164 rfl rfl (by decide) ?_
        refine X.retz i280_165 rfl t280 (by omega) ?_
        exact hQ 0 m503 (by first | trivial | omega) (hJ504.up (by omega)) (by first | omega | (have hc := cBi_0 (a := a1) (b := a2) (by unfold cB; omega); omega))
      · have h525c : a2 ≥ 1 := by omega
        clear h525 hz524
        refine X.lload_n 7 i204_6 rfl rfl rfl ?_
        refine X.lload 9 i204_7 rfl rfl rfl ?_
        refine X.lcmp 10 i204_9 rfl rfl (fun z527 hz527 => ?_)
        refine X.ifgt 17 13 i204_10 rfl rfl rfl (fun h528 => ?_) (fun h528 => ?_)
        · have h528c : a2 > 1000000 := by omega
          clear h528 hz527
          refine X.cut [] i204_17 rfl ?_
          refine X.iconst 18 i204_17 rfl rfl (by decide) ?_
          refine X.retz i204_18 rfl t204 (by omega) ?_
          show X (EE s) d 280 149 [(0, zr 4 44), (2, zi a2)] [zi 0] m503 _
          refine X.ifeq 164 152 i280_149 rfl rfl rfl (fun h529 => ?_) (fun h529 => (by exfalso; omega))
          refine X.cut [] i280_164 rfl ?_
          refine X.iconst 165 i280_164 rfl rfl (by decide) ?_
          refine X.retz i280_165 rfl t280 (by omega) ?_
          exact hQ 0 m503 (by first | trivial | omega) (hJ504.up (by omega)) (by first | omega | (have hc := cBi_0 (a := a1) (b := a2) (by unfold cB; omega); omega))
        · have h528c : a2 ≤ 1000000 := by omega
          clear h528 hz527
          refine X.iconst 14 i204_13 rfl rfl (by decide) ?_
          refine X.goto 18 i204_14 rfl rfl ?_
          refine X.cut [] i204_18 rfl ?_
          refine X.retz i204_18 rfl t204 (by omega) ?_
          show X (EE s) d 280 149 [(0, zr 4 44), (2, zi a2)] [zi 1] m503 _
          refine X.ifeq 164 152 i280_149 rfl rfl rfl (fun h530 => (by exfalso; omega)) (fun h530 => ?_)
          refine X.aload_n 153 i280_152 rfl rfl rfl ?_
          refine X.getF 156 i280_153 rfl rfl (by decide) rfl rfl ?_
          refine X.bipush 158 i280_156 rfl rfl (by decide) ?_
          refine X.lald 159 i280_158 rfl rfl (by decide) rfl (by omega) ?_
          have h531 := r45_13 hJ504 4
          refine X.lconst (y := 0) 160 i280_159 rfl rfl rfl ?_
          refine X.lcmp 161 i280_160 rfl rfl (fun z532 hz532 => ?_)
          refine X.ifle 166 164 i280_161 rfl rfl rfl (fun h533 => ?_) (fun h533 => ?_)
          · have h533c : (m503 4 45 13) ≤ 0 := by omega
            clear h533 hz532
            refine X.aload_n 167 i280_166 rfl rfl rfl ?_
            refine X.getF 170 i280_167 rfl rfl (by decide) rfl rfl ?_
            refine X.iconst 171 i280_170 rfl rfl (by decide) ?_
            refine X.iload_n 172 i280_171 rfl rfl rfl ?_
            refine X.i2l 173 i280_172 rfl rfl ?_
            refine X.last' 174 i280_173 rfl rfl (by decide) rfl (by omega) (fun hrm534 m534 hm534 => ?_)
            have hJ535 := w45_5 hJ504 hm534 (by omega)
            have wt536 : m534 4 45 1614 = (m 4 45 1614) := Eq.trans (by rw [hm534]; exact z_upd_o _ _ rfl) wt505
            have wt537 : m534 4 45 13 = (m 4 45 13) := Eq.trans (by rw [hm534]; exact z_upd_o _ _ rfl) wt506
            refine X.iconst 175 i280_174 rfl rfl (by decide) ?_
            refine X.retz i280_175 rfl t280 (by omega) ?_
            exact hQ 1 m534 (by first | trivial | omega) (hJ535.up (by omega)) (by (have hc := cBi_1 (a := a1) (b := a2) (by unfold cB; first | exact (.inl ⟨by omega, by omega, by omega⟩) | exact (.inr (.inl ⟨by omega, by omega, by omega⟩)) | exact (.inr (.inr (.inl ⟨by omega, by omega, by omega⟩))) | exact (.inr (.inr (.inr (.inl ⟨by omega, by omega, by omega⟩)))) | exact (.inr (.inr (.inr (.inr (.inl ⟨by omega, by omega⟩))))) | exact (.inr (.inr (.inr (.inr (.inr (.inl ⟨by omega, by omega, by omega⟩)))))) | exact (.inr (.inr (.inr (.inr (.inr (.inr (.inl ⟨by omega, by omega, by omega, by omega⟩))))))) | exact (.inr (.inr (.inr (.inr (.inr (.inr (.inr (.inl ⟨by omega, by omega, by omega⟩)))))))) | exact (.inr (.inr (.inr (.inr (.inr (.inr (.inr (.inr (.inl ⟨by omega, by omega, by omega⟩))))))))) | exact (.inr (.inr (.inr (.inr (.inr (.inr (.inr (.inr (.inr ⟨by omega, by omega, by omega⟩)))))))))); omega))
          · have h533c : (m503 4 45 13) > 0 := by omega
            clear h533 hz532
            refine X.cut [] i280_164 rfl ?_
            refine X.iconst 165 i280_164 rfl rfl (by decide) ?_
            refine X.retz i280_165 rfl t280 (by omega) ?_
            exact hQ 0 m503 (by first | trivial | omega) (hJ504.up (by omega)) (by first | omega | (have hc := cBi_0 (a := a1) (b := a2) (by unfold cB; omega); omega))
    by_cases h538 : a1 = 2
    · refine X.tsIn 176 2 i280_10 rfl (by omega) rfl rfl ?_
      refine X.cut [(0, zr 4 44), (2, zi a2)] i280_176 rfl ?_
      refine X.iload_n 177 i280_176 rfl rfl rfl ?_
      refine X.i2l 178 i280_177 rfl rfl ?_
      refine X.lconst (y := 0) 179 i280_178 rfl rfl rfl ?_
      refine X.ldc2 182 i280_179 rfl rfl (by decide) ?_
      refine X.calls 185 [zl a2, zl 0, zl 250000] [] [(0, zl a2), (2, zl 0), (4, zl 250000)] i280_182 (by decide) rfl rfl (by omega) rfl rfl t204 (Nat.le_of_ble_eq_true rfl) (Nat.le_of_ble_eq_true rfl) rfl ?_
      refine X.lload_n 1 i204_0 rfl rfl rfl ?_
      refine X.lload_n 2 i204_1 rfl rfl rfl ?_
      refine X.lcmp 3 i204_2 rfl rfl (fun z539 hz539 => ?_)
      refine X.iflt 17 6 i204_3 rfl rfl rfl (fun h540 => ?_) (fun h540 => ?_)
      · have h540c : a2 < 0 := by omega
        clear h540 hz539
        refine X.cut [] i204_17 rfl ?_
        refine X.iconst 18 i204_17 rfl rfl (by decide) ?_
        refine X.retz i204_18 rfl t204 (by omega) ?_
        show X (EE s) d 280 185 [(0, zr 4 44), (2, zi a2)] [zi 0] m503 _
        refine X.ifne 190 188 i280_185 rfl rfl rfl (fun h541 => (by exfalso; omega)) (fun h541 => ?_)
        refine X.iconst 189 i280_188 rfl rfl (by decide) ?_
        refine X.retz i280_189 rfl t280 (by omega) ?_
        exact hQ 0 m503 (by first | trivial | omega) (hJ504.up (by omega)) (by first | omega | (have hc := cBi_0 (a := a1) (b := a2) (by unfold cB; omega); omega))
      · have h540c : a2 ≥ 0 := by omega
        clear h540 hz539
        refine X.lload_n 7 i204_6 rfl rfl rfl ?_
        refine X.lload 9 i204_7 rfl rfl rfl ?_
        refine X.lcmp 10 i204_9 rfl rfl (fun z542 hz542 => ?_)
        refine X.ifgt 17 13 i204_10 rfl rfl rfl (fun h543 => ?_) (fun h543 => ?_)
        · have h543c : a2 > 250000 := by omega
          clear h543 hz542
          refine X.cut [] i204_17 rfl ?_
          refine X.iconst 18 i204_17 rfl rfl (by decide) ?_
          refine X.retz i204_18 rfl t204 (by omega) ?_
          show X (EE s) d 280 185 [(0, zr 4 44), (2, zi a2)] [zi 0] m503 _
          refine X.ifne 190 188 i280_185 rfl rfl rfl (fun h544 => (by exfalso; omega)) (fun h544 => ?_)
          refine X.iconst 189 i280_188 rfl rfl (by decide) ?_
          refine X.retz i280_189 rfl t280 (by omega) ?_
          exact hQ 0 m503 (by first | trivial | omega) (hJ504.up (by omega)) (by first | omega | (have hc := cBi_0 (a := a1) (b := a2) (by unfold cB; omega); omega))
        · have h543c : a2 ≤ 250000 := by omega
          clear h543 hz542
          refine X.iconst 14 i204_13 rfl rfl (by decide) ?_
          refine X.goto 18 i204_14 rfl rfl ?_
          refine X.cut [] i204_18 rfl ?_
          refine X.retz i204_18 rfl t204 (by omega) ?_
          show X (EE s) d 280 185 [(0, zr 4 44), (2, zi a2)] [zi 1] m503 _
          refine X.ifne 190 188 i280_185 rfl rfl rfl (fun h545 => ?_) (fun h545 => (by exfalso; omega))
          refine X.aload_n 191 i280_190 rfl rfl rfl ?_
          refine X.getF 194 i280_191 rfl rfl (by decide) rfl rfl ?_
          refine X.bipush 196 i280_194 rfl rfl (by decide) ?_
          refine X.iload_n 197 i280_196 rfl rfl rfl ?_
          refine X.i2l 198 i280_197 rfl rfl ?_
          refine X.last' 199 i280_198 rfl rfl (by decide) rfl (by omega) (fun hrm546 m546 hm546 => ?_)
          have hJ547 := w45_6 hJ504 hm546 (by omega) hrm546
          have wt548 : m546 4 45 1614 = (m 4 45 1614) := Eq.trans (by rw [hm546]; exact z_upd_i _ _ _ _ (by omega)) wt505
          have wt549 : m546 4 45 13 = (m 4 45 13) := Eq.trans (by rw [hm546]; exact z_upd_i _ _ _ _ (by omega)) wt506
          clear wt506
          refine X.iconst 200 i280_199 rfl rfl (by decide) ?_
          refine X.retz i280_200 rfl t280 (by omega) ?_
          exact hQ 1 m546 (by first | trivial | omega) (hJ547.up (by omega)) (by (have hc := cBi_1 (a := a1) (b := a2) (by unfold cB; first | exact (.inl ⟨by omega, by omega, by omega⟩) | exact (.inr (.inl ⟨by omega, by omega, by omega⟩)) | exact (.inr (.inr (.inl ⟨by omega, by omega, by omega⟩))) | exact (.inr (.inr (.inr (.inl ⟨by omega, by omega, by omega⟩)))) | exact (.inr (.inr (.inr (.inr (.inl ⟨by omega, by omega⟩))))) | exact (.inr (.inr (.inr (.inr (.inr (.inl ⟨by omega, by omega, by omega⟩)))))) | exact (.inr (.inr (.inr (.inr (.inr (.inr (.inl ⟨by omega, by omega, by omega, by omega⟩))))))) | exact (.inr (.inr (.inr (.inr (.inr (.inr (.inr (.inl ⟨by omega, by omega, by omega⟩)))))))) | exact (.inr (.inr (.inr (.inr (.inr (.inr (.inr (.inr (.inl ⟨by omega, by omega, by omega⟩))))))))) | exact (.inr (.inr (.inr (.inr (.inr (.inr (.inr (.inr (.inr ⟨by omega, by omega, by omega⟩)))))))))); omega))
    by_cases h550 : a1 = 3
    · refine X.tsIn 201 3 i280_10 rfl (by omega) rfl rfl ?_
      refine X.cut [(0, zr 4 44), (2, zi a2)] i280_201 rfl ?_
      refine X.iload_n 202 i280_201 rfl rfl rfl ?_
      refine X.i2l 203 i280_202 rfl rfl ?_
      refine X.lconst (y := 0) 204 i280_203 rfl rfl rfl ?_
      refine X.ldc2 207 i280_204 rfl rfl (by decide) ?_
      refine X.calls 210 [zl a2, zl 0, zl 60] [] [(0, zl a2), (2, zl 0), (4, zl 60)] i280_207 (by decide) rfl rfl (by omega) rfl rfl t204 (Nat.le_of_ble_eq_true rfl) (Nat.le_of_ble_eq_true rfl) rfl ?_
      refine X.lload_n 1 i204_0 rfl rfl rfl ?_
      refine X.lload_n 2 i204_1 rfl rfl rfl ?_
      refine X.lcmp 3 i204_2 rfl rfl (fun z551 hz551 => ?_)
      refine X.iflt 17 6 i204_3 rfl rfl rfl (fun h552 => ?_) (fun h552 => ?_)
      · have h552c : a2 < 0 := by omega
        clear h552 hz551
        refine X.cut [] i204_17 rfl ?_
        refine X.iconst 18 i204_17 rfl rfl (by decide) ?_
        refine X.retz i204_18 rfl t204 (by omega) ?_
        show X (EE s) d 280 210 [(0, zr 4 44), (2, zi a2)] [zi 0] m503 _
        refine X.ifne 215 213 i280_210 rfl rfl rfl (fun h553 => (by exfalso; omega)) (fun h553 => ?_)
        refine X.iconst 214 i280_213 rfl rfl (by decide) ?_
        refine X.retz i280_214 rfl t280 (by omega) ?_
        exact hQ 0 m503 (by first | trivial | omega) (hJ504.up (by omega)) (by first | omega | (have hc := cBi_0 (a := a1) (b := a2) (by unfold cB; omega); omega))
      · have h552c : a2 ≥ 0 := by omega
        clear h552 hz551
        refine X.lload_n 7 i204_6 rfl rfl rfl ?_
        refine X.lload 9 i204_7 rfl rfl rfl ?_
        refine X.lcmp 10 i204_9 rfl rfl (fun z554 hz554 => ?_)
        refine X.ifgt 17 13 i204_10 rfl rfl rfl (fun h555 => ?_) (fun h555 => ?_)
        · have h555c : a2 > 60 := by omega
          clear h555 hz554
          refine X.cut [] i204_17 rfl ?_
          refine X.iconst 18 i204_17 rfl rfl (by decide) ?_
          refine X.retz i204_18 rfl t204 (by omega) ?_
          show X (EE s) d 280 210 [(0, zr 4 44), (2, zi a2)] [zi 0] m503 _
          refine X.ifne 215 213 i280_210 rfl rfl rfl (fun h556 => (by exfalso; omega)) (fun h556 => ?_)
          refine X.iconst 214 i280_213 rfl rfl (by decide) ?_
          refine X.retz i280_214 rfl t280 (by omega) ?_
          exact hQ 0 m503 (by first | trivial | omega) (hJ504.up (by omega)) (by first | omega | (have hc := cBi_0 (a := a1) (b := a2) (by unfold cB; omega); omega))
        · have h555c : a2 ≤ 60 := by omega
          clear h555 hz554
          refine X.iconst 14 i204_13 rfl rfl (by decide) ?_
          refine X.goto 18 i204_14 rfl rfl ?_
          refine X.cut [] i204_18 rfl ?_
          refine X.retz i204_18 rfl t204 (by omega) ?_
          show X (EE s) d 280 210 [(0, zr 4 44), (2, zi a2)] [zi 1] m503 _
          refine X.ifne 215 213 i280_210 rfl rfl rfl (fun h557 => ?_) (fun h557 => (by exfalso; omega))
          refine X.aload_n 216 i280_215 rfl rfl rfl ?_
          refine X.getF 219 i280_216 rfl rfl (by decide) rfl rfl ?_
          refine X.bipush 221 i280_219 rfl rfl (by decide) ?_
          refine X.iload_n 222 i280_221 rfl rfl rfl ?_
          refine X.i2l 223 i280_222 rfl rfl ?_
          refine X.last' 224 i280_223 rfl rfl (by decide) rfl (by omega) (fun hrm558 m558 hm558 => ?_)
          have hJ559 := w45_6 hJ504 hm558 (by omega) hrm558
          have wt560 : m558 4 45 1614 = (m 4 45 1614) := Eq.trans (by rw [hm558]; exact z_upd_i _ _ _ _ (by omega)) wt505
          have wt561 : m558 4 45 13 = (m 4 45 13) := Eq.trans (by rw [hm558]; exact z_upd_i _ _ _ _ (by omega)) wt506
          clear wt506
          refine X.iconst 225 i280_224 rfl rfl (by decide) ?_
          refine X.retz i280_225 rfl t280 (by omega) ?_
          exact hQ 1 m558 (by first | trivial | omega) (hJ559.up (by omega)) (by (have hc := cBi_1 (a := a1) (b := a2) (by unfold cB; first | exact (.inl ⟨by omega, by omega, by omega⟩) | exact (.inr (.inl ⟨by omega, by omega, by omega⟩)) | exact (.inr (.inr (.inl ⟨by omega, by omega, by omega⟩))) | exact (.inr (.inr (.inr (.inl ⟨by omega, by omega, by omega⟩)))) | exact (.inr (.inr (.inr (.inr (.inl ⟨by omega, by omega⟩))))) | exact (.inr (.inr (.inr (.inr (.inr (.inl ⟨by omega, by omega, by omega⟩)))))) | exact (.inr (.inr (.inr (.inr (.inr (.inr (.inl ⟨by omega, by omega, by omega, by omega⟩))))))) | exact (.inr (.inr (.inr (.inr (.inr (.inr (.inr (.inl ⟨by omega, by omega, by omega⟩)))))))) | exact (.inr (.inr (.inr (.inr (.inr (.inr (.inr (.inr (.inl ⟨by omega, by omega, by omega⟩))))))))) | exact (.inr (.inr (.inr (.inr (.inr (.inr (.inr (.inr (.inr ⟨by omega, by omega, by omega⟩)))))))))); omega))
    by_cases h562 : a1 = 4
    · refine X.tsIn 226 4 i280_10 rfl (by omega) rfl rfl ?_
      refine X.cut [(0, zr 4 44), (2, zi a2)] i280_226 rfl ?_
      refine X.iload_n 227 i280_226 rfl rfl rfl ?_
      refine X.bipush 229 i280_227 rfl rfl (by decide) ?_
      refine X.icmpeq 262 232 i280_229 rfl rfl rfl (fun h563 => ?_) (fun h563 => ?_)
      · refine X.aload_n 263 i280_262 rfl rfl rfl ?_
        refine X.ldc2 266 i280_263 rfl rfl (by decide) ?_
        refine X.callv 269 [zl 64] [] [(0, zr 4 44), (1, zl 64)] i280_266 rfl (by decide) rfl rfl (by omega) rfl rfl (by decide) rfl t232 (Nat.le_of_ble_eq_true rfl) (Nat.le_of_ble_eq_true rfl) rfl ?_
        refine c232_1 (S := zfr [] S) (m0 := m503) (B := B)  64 (by omega) (hJ504.ow.up (by omega)) (by omega) (by omega) (fun m564 hJ565 => ?_)
        have hJ567 := hJ504.trans hJ565 zi_n
        have wt568 : m564 4 45 1614 = (m 4 45 1614) := Eq.trans (hJ565.eq rfl rfl) wt505
        have wt569 : m564 4 45 13 = (m 4 45 13) := Eq.trans (hJ565.eq rfl rfl) wt506
        clear wt506
        show X (EE s) d 280 269 [(0, zr 4 44), (2, zi a2)] [] m564 _
        refine X.aload_n 270 i280_269 rfl rfl rfl ?_
        refine X.getF 273 i280_270 rfl rfl (by decide) rfl rfl ?_
        refine X.bipush 275 i280_273 rfl rfl (by decide) ?_
        refine X.iload_n 276 i280_275 rfl rfl rfl ?_
        refine X.i2l 277 i280_276 rfl rfl ?_
        refine X.last' 278 i280_277 rfl rfl (by decide) rfl (by omega) (fun hrm570 m570 hm570 => ?_)
        have hJ571 := w45_8 hJ567 hm570 (by omega)
        have wt572 : m570 4 45 1614 = (m 4 45 1614) := Eq.trans (by rw [hm570]; exact z_upd_o _ _ rfl) wt568
        have wt573 : m570 4 45 13 = (m 4 45 13) := Eq.trans (by rw [hm570]; exact z_upd_o _ _ rfl) wt569
        clear wt568 wt569
        refine X.aload_n 279 i280_278 rfl rfl rfl ?_
        refine X.callv 282 [] [] [(0, zr 4 44)] i280_279 rfl (by decide) rfl rfl (by omega) rfl rfl (by decide) rfl t233 (Nat.le_of_ble_eq_true rfl) (Nat.le_of_ble_eq_true rfl) rfl ?_
        refine c233_1 (S := zfr [] S) (m0 := m570) (B := B + 1)   (by omega) (hJ571.ow.up (by omega)) (by omega)  (fun m574 hJ575 => ?_)
        have hJ577 := hJ571.trans hJ575 zi_n
        have wt578 : m574 4 45 1614 = (m 4 45 1614) := Eq.trans (hJ575.eq rfl rfl) wt572
        have wt579 : m574 4 45 13 = (m 4 45 13) := Eq.trans (hJ575.eq rfl rfl) wt573
        clear wt572 wt573
        show X (EE s) d 280 282 [(0, zr 4 44), (2, zi a2)] [] m574 _
        refine X.iconst 283 i280_282 rfl rfl (by decide) ?_
        refine X.retz i280_283 rfl t280 (by omega) ?_
        exact hQ 1 m574 (by first | trivial | omega) (hJ577.up (by omega)) (by (have hc := cBi_1 (a := a1) (b := a2) (by unfold cB; first | exact (.inl ⟨by omega, by omega, by omega⟩) | exact (.inr (.inl ⟨by omega, by omega, by omega⟩)) | exact (.inr (.inr (.inl ⟨by omega, by omega, by omega⟩))) | exact (.inr (.inr (.inr (.inl ⟨by omega, by omega, by omega⟩)))) | exact (.inr (.inr (.inr (.inr (.inl ⟨by omega, by omega⟩))))) | exact (.inr (.inr (.inr (.inr (.inr (.inl ⟨by omega, by omega, by omega⟩)))))) | exact (.inr (.inr (.inr (.inr (.inr (.inr (.inl ⟨by omega, by omega, by omega, by omega⟩))))))) | exact (.inr (.inr (.inr (.inr (.inr (.inr (.inr (.inl ⟨by omega, by omega, by omega⟩)))))))) | exact (.inr (.inr (.inr (.inr (.inr (.inr (.inr (.inr (.inl ⟨by omega, by omega, by omega⟩))))))))) | exact (.inr (.inr (.inr (.inr (.inr (.inr (.inr (.inr (.inr ⟨by omega, by omega, by omega⟩)))))))))); omega))
      · refine X.iload_n 233 i280_232 rfl rfl rfl ?_
        refine X.sipush 236 i280_233 rfl rfl (by decide) ?_
        refine X.icmpeq 262 239 i280_236 rfl rfl rfl (fun h580 => ?_) (fun h580 => ?_)
        · refine X.aload_n 263 i280_262 rfl rfl rfl ?_
          refine X.ldc2 266 i280_263 rfl rfl (by decide) ?_
          refine X.callv 269 [zl 64] [] [(0, zr 4 44), (1, zl 64)] i280_266 rfl (by decide) rfl rfl (by omega) rfl rfl (by decide) rfl t232 (Nat.le_of_ble_eq_true rfl) (Nat.le_of_ble_eq_true rfl) rfl ?_
          refine c232_1 (S := zfr [] S) (m0 := m503) (B := B)  64 (by omega) (hJ504.ow.up (by omega)) (by omega) (by omega) (fun m581 hJ582 => ?_)
          have hJ584 := hJ504.trans hJ582 zi_n
          have wt585 : m581 4 45 1614 = (m 4 45 1614) := Eq.trans (hJ582.eq rfl rfl) wt505
          have wt586 : m581 4 45 13 = (m 4 45 13) := Eq.trans (hJ582.eq rfl rfl) wt506
          clear wt506
          show X (EE s) d 280 269 [(0, zr 4 44), (2, zi a2)] [] m581 _
          refine X.aload_n 270 i280_269 rfl rfl rfl ?_
          refine X.getF 273 i280_270 rfl rfl (by decide) rfl rfl ?_
          refine X.bipush 275 i280_273 rfl rfl (by decide) ?_
          refine X.iload_n 276 i280_275 rfl rfl rfl ?_
          refine X.i2l 277 i280_276 rfl rfl ?_
          refine X.last' 278 i280_277 rfl rfl (by decide) rfl (by omega) (fun hrm587 m587 hm587 => ?_)
          have hJ588 := w45_8 hJ584 hm587 (by omega)
          have wt589 : m587 4 45 1614 = (m 4 45 1614) := Eq.trans (by rw [hm587]; exact z_upd_o _ _ rfl) wt585
          have wt590 : m587 4 45 13 = (m 4 45 13) := Eq.trans (by rw [hm587]; exact z_upd_o _ _ rfl) wt586
          clear wt585 wt586
          refine X.aload_n 279 i280_278 rfl rfl rfl ?_
          refine X.callv 282 [] [] [(0, zr 4 44)] i280_279 rfl (by decide) rfl rfl (by omega) rfl rfl (by decide) rfl t233 (Nat.le_of_ble_eq_true rfl) (Nat.le_of_ble_eq_true rfl) rfl ?_
          refine c233_1 (S := zfr [] S) (m0 := m587) (B := B + 1)   (by omega) (hJ588.ow.up (by omega)) (by omega)  (fun m591 hJ592 => ?_)
          have hJ594 := hJ588.trans hJ592 zi_n
          have wt595 : m591 4 45 1614 = (m 4 45 1614) := Eq.trans (hJ592.eq rfl rfl) wt589
          have wt596 : m591 4 45 13 = (m 4 45 13) := Eq.trans (hJ592.eq rfl rfl) wt590
          clear wt589 wt590
          show X (EE s) d 280 282 [(0, zr 4 44), (2, zi a2)] [] m591 _
          refine X.iconst 283 i280_282 rfl rfl (by decide) ?_
          refine X.retz i280_283 rfl t280 (by omega) ?_
          exact hQ 1 m591 (by first | trivial | omega) (hJ594.up (by omega)) (by (have hc := cBi_1 (a := a1) (b := a2) (by unfold cB; first | exact (.inl ⟨by omega, by omega, by omega⟩) | exact (.inr (.inl ⟨by omega, by omega, by omega⟩)) | exact (.inr (.inr (.inl ⟨by omega, by omega, by omega⟩))) | exact (.inr (.inr (.inr (.inl ⟨by omega, by omega, by omega⟩)))) | exact (.inr (.inr (.inr (.inr (.inl ⟨by omega, by omega⟩))))) | exact (.inr (.inr (.inr (.inr (.inr (.inl ⟨by omega, by omega, by omega⟩)))))) | exact (.inr (.inr (.inr (.inr (.inr (.inr (.inl ⟨by omega, by omega, by omega, by omega⟩))))))) | exact (.inr (.inr (.inr (.inr (.inr (.inr (.inr (.inl ⟨by omega, by omega, by omega⟩)))))))) | exact (.inr (.inr (.inr (.inr (.inr (.inr (.inr (.inr (.inl ⟨by omega, by omega, by omega⟩))))))))) | exact (.inr (.inr (.inr (.inr (.inr (.inr (.inr (.inr (.inr ⟨by omega, by omega, by omega⟩)))))))))); omega))
        · refine X.iload_n 240 i280_239 rfl rfl rfl ?_
          refine X.sipush 243 i280_240 rfl rfl (by decide) ?_
          refine X.icmpeq 262 246 i280_243 rfl rfl rfl (fun h597 => ?_) (fun h597 => ?_)
          · refine X.aload_n 263 i280_262 rfl rfl rfl ?_
            refine X.ldc2 266 i280_263 rfl rfl (by decide) ?_
            refine X.callv 269 [zl 64] [] [(0, zr 4 44), (1, zl 64)] i280_266 rfl (by decide) rfl rfl (by omega) rfl rfl (by decide) rfl t232 (Nat.le_of_ble_eq_true rfl) (Nat.le_of_ble_eq_true rfl) rfl ?_
            refine c232_1 (S := zfr [] S) (m0 := m503) (B := B)  64 (by omega) (hJ504.ow.up (by omega)) (by omega) (by omega) (fun m598 hJ599 => ?_)
            have hJ601 := hJ504.trans hJ599 zi_n
            have wt602 : m598 4 45 1614 = (m 4 45 1614) := Eq.trans (hJ599.eq rfl rfl) wt505
            have wt603 : m598 4 45 13 = (m 4 45 13) := Eq.trans (hJ599.eq rfl rfl) wt506
            clear wt506
            show X (EE s) d 280 269 [(0, zr 4 44), (2, zi a2)] [] m598 _
            refine X.aload_n 270 i280_269 rfl rfl rfl ?_
            refine X.getF 273 i280_270 rfl rfl (by decide) rfl rfl ?_
            refine X.bipush 275 i280_273 rfl rfl (by decide) ?_
            refine X.iload_n 276 i280_275 rfl rfl rfl ?_
            refine X.i2l 277 i280_276 rfl rfl ?_
            refine X.last' 278 i280_277 rfl rfl (by decide) rfl (by omega) (fun hrm604 m604 hm604 => ?_)
            have hJ605 := w45_8 hJ601 hm604 (by omega)
            have wt606 : m604 4 45 1614 = (m 4 45 1614) := Eq.trans (by rw [hm604]; exact z_upd_o _ _ rfl) wt602
            have wt607 : m604 4 45 13 = (m 4 45 13) := Eq.trans (by rw [hm604]; exact z_upd_o _ _ rfl) wt603
            clear wt602 wt603
            refine X.aload_n 279 i280_278 rfl rfl rfl ?_
            refine X.callv 282 [] [] [(0, zr 4 44)] i280_279 rfl (by decide) rfl rfl (by omega) rfl rfl (by decide) rfl t233 (Nat.le_of_ble_eq_true rfl) (Nat.le_of_ble_eq_true rfl) rfl ?_
            refine c233_1 (S := zfr [] S) (m0 := m604) (B := B + 1)   (by omega) (hJ605.ow.up (by omega)) (by omega)  (fun m608 hJ609 => ?_)
            have hJ611 := hJ605.trans hJ609 zi_n
            have wt612 : m608 4 45 1614 = (m 4 45 1614) := Eq.trans (hJ609.eq rfl rfl) wt606
            have wt613 : m608 4 45 13 = (m 4 45 13) := Eq.trans (hJ609.eq rfl rfl) wt607
            clear wt606 wt607
            show X (EE s) d 280 282 [(0, zr 4 44), (2, zi a2)] [] m608 _
            refine X.iconst 283 i280_282 rfl rfl (by decide) ?_
            refine X.retz i280_283 rfl t280 (by omega) ?_
            exact hQ 1 m608 (by first | trivial | omega) (hJ611.up (by omega)) (by (have hc := cBi_1 (a := a1) (b := a2) (by unfold cB; first | exact (.inl ⟨by omega, by omega, by omega⟩) | exact (.inr (.inl ⟨by omega, by omega, by omega⟩)) | exact (.inr (.inr (.inl ⟨by omega, by omega, by omega⟩))) | exact (.inr (.inr (.inr (.inl ⟨by omega, by omega, by omega⟩)))) | exact (.inr (.inr (.inr (.inr (.inl ⟨by omega, by omega⟩))))) | exact (.inr (.inr (.inr (.inr (.inr (.inl ⟨by omega, by omega, by omega⟩)))))) | exact (.inr (.inr (.inr (.inr (.inr (.inr (.inl ⟨by omega, by omega, by omega, by omega⟩))))))) | exact (.inr (.inr (.inr (.inr (.inr (.inr (.inr (.inl ⟨by omega, by omega, by omega⟩)))))))) | exact (.inr (.inr (.inr (.inr (.inr (.inr (.inr (.inr (.inl ⟨by omega, by omega, by omega⟩))))))))) | exact (.inr (.inr (.inr (.inr (.inr (.inr (.inr (.inr (.inr ⟨by omega, by omega, by omega⟩)))))))))); omega))
          · refine X.iload_n 247 i280_246 rfl rfl rfl ?_
            refine X.sipush 250 i280_247 rfl rfl (by decide) ?_
            refine X.icmpeq 262 253 i280_250 rfl rfl rfl (fun h614 => ?_) (fun h614 => ?_)
            · refine X.aload_n 263 i280_262 rfl rfl rfl ?_
              refine X.ldc2 266 i280_263 rfl rfl (by decide) ?_
              refine X.callv 269 [zl 64] [] [(0, zr 4 44), (1, zl 64)] i280_266 rfl (by decide) rfl rfl (by omega) rfl rfl (by decide) rfl t232 (Nat.le_of_ble_eq_true rfl) (Nat.le_of_ble_eq_true rfl) rfl ?_
              refine c232_1 (S := zfr [] S) (m0 := m503) (B := B)  64 (by omega) (hJ504.ow.up (by omega)) (by omega) (by omega) (fun m615 hJ616 => ?_)
              have hJ618 := hJ504.trans hJ616 zi_n
              have wt619 : m615 4 45 1614 = (m 4 45 1614) := Eq.trans (hJ616.eq rfl rfl) wt505
              have wt620 : m615 4 45 13 = (m 4 45 13) := Eq.trans (hJ616.eq rfl rfl) wt506
              clear wt506
              show X (EE s) d 280 269 [(0, zr 4 44), (2, zi a2)] [] m615 _
              refine X.aload_n 270 i280_269 rfl rfl rfl ?_
              refine X.getF 273 i280_270 rfl rfl (by decide) rfl rfl ?_
              refine X.bipush 275 i280_273 rfl rfl (by decide) ?_
              refine X.iload_n 276 i280_275 rfl rfl rfl ?_
              refine X.i2l 277 i280_276 rfl rfl ?_
              refine X.last' 278 i280_277 rfl rfl (by decide) rfl (by omega) (fun hrm621 m621 hm621 => ?_)
              have hJ622 := w45_8 hJ618 hm621 (by omega)
              have wt623 : m621 4 45 1614 = (m 4 45 1614) := Eq.trans (by rw [hm621]; exact z_upd_o _ _ rfl) wt619
              have wt624 : m621 4 45 13 = (m 4 45 13) := Eq.trans (by rw [hm621]; exact z_upd_o _ _ rfl) wt620
              clear wt619 wt620
              refine X.aload_n 279 i280_278 rfl rfl rfl ?_
              refine X.callv 282 [] [] [(0, zr 4 44)] i280_279 rfl (by decide) rfl rfl (by omega) rfl rfl (by decide) rfl t233 (Nat.le_of_ble_eq_true rfl) (Nat.le_of_ble_eq_true rfl) rfl ?_
              refine c233_1 (S := zfr [] S) (m0 := m621) (B := B + 1)   (by omega) (hJ622.ow.up (by omega)) (by omega)  (fun m625 hJ626 => ?_)
              have hJ628 := hJ622.trans hJ626 zi_n
              have wt629 : m625 4 45 1614 = (m 4 45 1614) := Eq.trans (hJ626.eq rfl rfl) wt623
              have wt630 : m625 4 45 13 = (m 4 45 13) := Eq.trans (hJ626.eq rfl rfl) wt624
              clear wt623 wt624
              show X (EE s) d 280 282 [(0, zr 4 44), (2, zi a2)] [] m625 _
              refine X.iconst 283 i280_282 rfl rfl (by decide) ?_
              refine X.retz i280_283 rfl t280 (by omega) ?_
              exact hQ 1 m625 (by first | trivial | omega) (hJ628.up (by omega)) (by (have hc := cBi_1 (a := a1) (b := a2) (by unfold cB; first | exact (.inl ⟨by omega, by omega, by omega⟩) | exact (.inr (.inl ⟨by omega, by omega, by omega⟩)) | exact (.inr (.inr (.inl ⟨by omega, by omega, by omega⟩))) | exact (.inr (.inr (.inr (.inl ⟨by omega, by omega, by omega⟩)))) | exact (.inr (.inr (.inr (.inr (.inl ⟨by omega, by omega⟩))))) | exact (.inr (.inr (.inr (.inr (.inr (.inl ⟨by omega, by omega, by omega⟩)))))) | exact (.inr (.inr (.inr (.inr (.inr (.inr (.inl ⟨by omega, by omega, by omega, by omega⟩))))))) | exact (.inr (.inr (.inr (.inr (.inr (.inr (.inr (.inl ⟨by omega, by omega, by omega⟩)))))))) | exact (.inr (.inr (.inr (.inr (.inr (.inr (.inr (.inr (.inl ⟨by omega, by omega, by omega⟩))))))))) | exact (.inr (.inr (.inr (.inr (.inr (.inr (.inr (.inr (.inr ⟨by omega, by omega, by omega⟩)))))))))); omega))
            · refine X.iload_n 254 i280_253 rfl rfl rfl ?_
              refine X.sipush 257 i280_254 rfl rfl (by decide) ?_
              refine X.icmpeq 262 260 i280_257 rfl rfl rfl (fun h631 => ?_) (fun h631 => ?_)
              · refine X.aload_n 263 i280_262 rfl rfl rfl ?_
                refine X.ldc2 266 i280_263 rfl rfl (by decide) ?_
                refine X.callv 269 [zl 64] [] [(0, zr 4 44), (1, zl 64)] i280_266 rfl (by decide) rfl rfl (by omega) rfl rfl (by decide) rfl t232 (Nat.le_of_ble_eq_true rfl) (Nat.le_of_ble_eq_true rfl) rfl ?_
                refine c232_1 (S := zfr [] S) (m0 := m503) (B := B)  64 (by omega) (hJ504.ow.up (by omega)) (by omega) (by omega) (fun m632 hJ633 => ?_)
                have hJ635 := hJ504.trans hJ633 zi_n
                have wt636 : m632 4 45 1614 = (m 4 45 1614) := Eq.trans (hJ633.eq rfl rfl) wt505
                have wt637 : m632 4 45 13 = (m 4 45 13) := Eq.trans (hJ633.eq rfl rfl) wt506
                clear wt506
                show X (EE s) d 280 269 [(0, zr 4 44), (2, zi a2)] [] m632 _
                refine X.aload_n 270 i280_269 rfl rfl rfl ?_
                refine X.getF 273 i280_270 rfl rfl (by decide) rfl rfl ?_
                refine X.bipush 275 i280_273 rfl rfl (by decide) ?_
                refine X.iload_n 276 i280_275 rfl rfl rfl ?_
                refine X.i2l 277 i280_276 rfl rfl ?_
                refine X.last' 278 i280_277 rfl rfl (by decide) rfl (by omega) (fun hrm638 m638 hm638 => ?_)
                have hJ639 := w45_8 hJ635 hm638 (by omega)
                have wt640 : m638 4 45 1614 = (m 4 45 1614) := Eq.trans (by rw [hm638]; exact z_upd_o _ _ rfl) wt636
                have wt641 : m638 4 45 13 = (m 4 45 13) := Eq.trans (by rw [hm638]; exact z_upd_o _ _ rfl) wt637
                clear wt636 wt637
                refine X.aload_n 279 i280_278 rfl rfl rfl ?_
                refine X.callv 282 [] [] [(0, zr 4 44)] i280_279 rfl (by decide) rfl rfl (by omega) rfl rfl (by decide) rfl t233 (Nat.le_of_ble_eq_true rfl) (Nat.le_of_ble_eq_true rfl) rfl ?_
                refine c233_1 (S := zfr [] S) (m0 := m638) (B := B + 1)   (by omega) (hJ639.ow.up (by omega)) (by omega)  (fun m642 hJ643 => ?_)
                have hJ645 := hJ639.trans hJ643 zi_n
                have wt646 : m642 4 45 1614 = (m 4 45 1614) := Eq.trans (hJ643.eq rfl rfl) wt640
                have wt647 : m642 4 45 13 = (m 4 45 13) := Eq.trans (hJ643.eq rfl rfl) wt641
                clear wt640 wt641
                show X (EE s) d 280 282 [(0, zr 4 44), (2, zi a2)] [] m642 _
                refine X.iconst 283 i280_282 rfl rfl (by decide) ?_
                refine X.retz i280_283 rfl t280 (by omega) ?_
                exact hQ 1 m642 (by first | trivial | omega) (hJ645.up (by omega)) (by (have hc := cBi_1 (a := a1) (b := a2) (by unfold cB; first | exact (.inl ⟨by omega, by omega, by omega⟩) | exact (.inr (.inl ⟨by omega, by omega, by omega⟩)) | exact (.inr (.inr (.inl ⟨by omega, by omega, by omega⟩))) | exact (.inr (.inr (.inr (.inl ⟨by omega, by omega, by omega⟩)))) | exact (.inr (.inr (.inr (.inr (.inl ⟨by omega, by omega⟩))))) | exact (.inr (.inr (.inr (.inr (.inr (.inl ⟨by omega, by omega, by omega⟩)))))) | exact (.inr (.inr (.inr (.inr (.inr (.inr (.inl ⟨by omega, by omega, by omega, by omega⟩))))))) | exact (.inr (.inr (.inr (.inr (.inr (.inr (.inr (.inl ⟨by omega, by omega, by omega⟩)))))))) | exact (.inr (.inr (.inr (.inr (.inr (.inr (.inr (.inr (.inl ⟨by omega, by omega, by omega⟩))))))))) | exact (.inr (.inr (.inr (.inr (.inr (.inr (.inr (.inr (.inr ⟨by omega, by omega, by omega⟩)))))))))); omega))
              · refine X.iconst 261 i280_260 rfl rfl (by decide) ?_
                refine X.retz i280_261 rfl t280 (by omega) ?_
                exact hQ 0 m503 (by first | trivial | omega) (hJ504.up (by omega)) (by first | omega | (have hc := cBi_0 (a := a1) (b := a2) (by unfold cB; omega); omega))
    by_cases h648 : a1 = 5
    · refine X.tsIn 284 5 i280_10 rfl (by omega) rfl rfl ?_
      refine X.cut [(0, zr 4 44), (2, zi a2)] i280_284 rfl ?_
      refine X.iload_n 285 i280_284 rfl rfl rfl ?_
      refine X.i2l 286 i280_285 rfl rfl ?_
      refine X.lconst (y := 1) 287 i280_286 rfl rfl rfl ?_
      refine X.ldc2 290 i280_287 rfl rfl (by decide) ?_
      refine X.calls 293 [zl a2, zl 1, zl 6] [] [(0, zl a2), (2, zl 1), (4, zl 6)] i280_290 (by decide) rfl rfl (by omega) rfl rfl t204 (Nat.le_of_ble_eq_true rfl) (Nat.le_of_ble_eq_true rfl) rfl ?_
      refine X.lload_n 1 i204_0 rfl rfl rfl ?_
      refine X.lload_n 2 i204_1 rfl rfl rfl ?_
      refine X.lcmp 3 i204_2 rfl rfl (fun z649 hz649 => ?_)
      refine X.iflt 17 6 i204_3 rfl rfl rfl (fun h650 => ?_) (fun h650 => ?_)
      · have h650c : a2 < 1 := by omega
        clear h650 hz649
        refine X.cut [] i204_17 rfl ?_
        refine X.iconst 18 i204_17 rfl rfl (by decide) ?_
        refine X.retz i204_18 rfl t204 (by omega) ?_
        show X (EE s) d 280 293 [(0, zr 4 44), (2, zi a2)] [zi 0] m503 _
        refine X.ifne 298 296 i280_293 rfl rfl rfl (fun h651 => (by exfalso; omega)) (fun h651 => ?_)
        refine X.iconst 297 i280_296 rfl rfl (by decide) ?_
        refine X.retz i280_297 rfl t280 (by omega) ?_
        exact hQ 0 m503 (by first | trivial | omega) (hJ504.up (by omega)) (by first | omega | (have hc := cBi_0 (a := a1) (b := a2) (by unfold cB; omega); omega))
      · have h650c : a2 ≥ 1 := by omega
        clear h650 hz649
        refine X.lload_n 7 i204_6 rfl rfl rfl ?_
        refine X.lload 9 i204_7 rfl rfl rfl ?_
        refine X.lcmp 10 i204_9 rfl rfl (fun z652 hz652 => ?_)
        refine X.ifgt 17 13 i204_10 rfl rfl rfl (fun h653 => ?_) (fun h653 => ?_)
        · have h653c : a2 > 6 := by omega
          clear h653 hz652
          refine X.cut [] i204_17 rfl ?_
          refine X.iconst 18 i204_17 rfl rfl (by decide) ?_
          refine X.retz i204_18 rfl t204 (by omega) ?_
          show X (EE s) d 280 293 [(0, zr 4 44), (2, zi a2)] [zi 0] m503 _
          refine X.ifne 298 296 i280_293 rfl rfl rfl (fun h654 => (by exfalso; omega)) (fun h654 => ?_)
          refine X.iconst 297 i280_296 rfl rfl (by decide) ?_
          refine X.retz i280_297 rfl t280 (by omega) ?_
          exact hQ 0 m503 (by first | trivial | omega) (hJ504.up (by omega)) (by first | omega | (have hc := cBi_0 (a := a1) (b := a2) (by unfold cB; omega); omega))
        · have h653c : a2 ≤ 6 := by omega
          clear h653 hz652
          refine X.iconst 14 i204_13 rfl rfl (by decide) ?_
          refine X.goto 18 i204_14 rfl rfl ?_
          refine X.cut [] i204_18 rfl ?_
          refine X.retz i204_18 rfl t204 (by omega) ?_
          show X (EE s) d 280 293 [(0, zr 4 44), (2, zi a2)] [zi 1] m503 _
          refine X.ifne 298 296 i280_293 rfl rfl rfl (fun h655 => ?_) (fun h655 => (by exfalso; omega))
          refine X.aload_n 299 i280_298 rfl rfl rfl ?_
          refine X.getF 302 i280_299 rfl rfl (by decide) rfl rfl ?_
          refine X.bipush 304 i280_302 rfl rfl (by decide) ?_
          refine X.iload_n 305 i280_304 rfl rfl rfl ?_
          refine X.i2l 306 i280_305 rfl rfl ?_
          refine X.last' 307 i280_306 rfl rfl (by decide) rfl (by omega) (fun hrm656 m656 hm656 => ?_)
          have hJ657 := w45_9 hJ504 hm656 (by omega)
          have wt658 : m656 4 45 1614 = (m 4 45 1614) := Eq.trans (by rw [hm656]; exact z_upd_o _ _ rfl) wt505
          have wt659 : m656 4 45 13 = (m 4 45 13) := Eq.trans (by rw [hm656]; exact z_upd_o _ _ rfl) wt506
          clear wt506
          refine X.iconst 308 i280_307 rfl rfl (by decide) ?_
          refine X.retz i280_308 rfl t280 (by omega) ?_
          exact hQ 1 m656 (by first | trivial | omega) (hJ657.up (by omega)) (by (have hc := cBi_1 (a := a1) (b := a2) (by unfold cB; first | exact (.inl ⟨by omega, by omega, by omega⟩) | exact (.inr (.inl ⟨by omega, by omega, by omega⟩)) | exact (.inr (.inr (.inl ⟨by omega, by omega, by omega⟩))) | exact (.inr (.inr (.inr (.inl ⟨by omega, by omega, by omega⟩)))) | exact (.inr (.inr (.inr (.inr (.inl ⟨by omega, by omega⟩))))) | exact (.inr (.inr (.inr (.inr (.inr (.inl ⟨by omega, by omega, by omega⟩)))))) | exact (.inr (.inr (.inr (.inr (.inr (.inr (.inl ⟨by omega, by omega, by omega, by omega⟩))))))) | exact (.inr (.inr (.inr (.inr (.inr (.inr (.inr (.inl ⟨by omega, by omega, by omega⟩)))))))) | exact (.inr (.inr (.inr (.inr (.inr (.inr (.inr (.inr (.inl ⟨by omega, by omega, by omega⟩))))))))) | exact (.inr (.inr (.inr (.inr (.inr (.inr (.inr (.inr (.inr ⟨by omega, by omega, by omega⟩)))))))))); omega))
    by_cases h660 : a1 = 6
    · refine X.tsIn 352 6 i280_10 rfl (by omega) rfl rfl ?_
      refine X.iload_n 353 i280_352 rfl rfl rfl ?_
      refine X.i2l 354 i280_353 rfl rfl ?_
      refine X.ldc2 357 i280_354 rfl rfl (by decide) ?_
      refine X.ldc2 360 i280_357 rfl rfl (by decide) ?_
      refine X.calls 363 [zl a1, zl 10, zl 13] [] [(0, zl a1), (2, zl 10), (4, zl 13)] i280_360 (by decide) rfl rfl (by omega) rfl rfl t204 (Nat.le_of_ble_eq_true rfl) (Nat.le_of_ble_eq_true rfl) rfl ?_
      refine X.lload_n 1 i204_0 rfl rfl rfl ?_
      refine X.lload_n 2 i204_1 rfl rfl rfl ?_
      refine X.lcmp 3 i204_2 rfl rfl (fun z661 hz661 => ?_)
      refine X.iflt 17 6 i204_3 rfl rfl rfl (fun h662 => ?_) (fun h662 => (by exfalso; omega))
      have h662c : a1 < 10 := by omega
      clear h662 hz661
      refine X.cut [] i204_17 rfl ?_
      refine X.iconst 18 i204_17 rfl rfl (by decide) ?_
      refine X.retz i204_18 rfl t204 (by omega) ?_
      show X (EE s) d 280 363 [(0, zr 4 44), (1, zi a1), (2, zi a2)] [zi 0] m503 _
      refine X.ifeq 378 366 i280_363 rfl rfl rfl (fun h663 => ?_) (fun h663 => (by exfalso; omega))
      refine X.cut [] i280_378 rfl ?_
      refine X.iconst 379 i280_378 rfl rfl (by decide) ?_
      refine X.retz i280_379 rfl t280 (by omega) ?_
      exact hQ 0 m503 (by first | trivial | omega) (hJ504.up (by omega)) (by first | omega | (have hc := cBi_0 (a := a1) (b := a2) (by unfold cB; omega); omega))
    by_cases h664 : a1 = 7
    · refine X.tsIn 352 7 i280_10 rfl (by omega) rfl rfl ?_
      refine X.iload_n 353 i280_352 rfl rfl rfl ?_
      refine X.i2l 354 i280_353 rfl rfl ?_
      refine X.ldc2 357 i280_354 rfl rfl (by decide) ?_
      refine X.ldc2 360 i280_357 rfl rfl (by decide) ?_
      refine X.calls 363 [zl a1, zl 10, zl 13] [] [(0, zl a1), (2, zl 10), (4, zl 13)] i280_360 (by decide) rfl rfl (by omega) rfl rfl t204 (Nat.le_of_ble_eq_true rfl) (Nat.le_of_ble_eq_true rfl) rfl ?_
      refine X.lload_n 1 i204_0 rfl rfl rfl ?_
      refine X.lload_n 2 i204_1 rfl rfl rfl ?_
      refine X.lcmp 3 i204_2 rfl rfl (fun z665 hz665 => ?_)
      refine X.iflt 17 6 i204_3 rfl rfl rfl (fun h666 => ?_) (fun h666 => (by exfalso; omega))
      have h666c : a1 < 10 := by omega
      clear h666 hz665
      refine X.cut [] i204_17 rfl ?_
      refine X.iconst 18 i204_17 rfl rfl (by decide) ?_
      refine X.retz i204_18 rfl t204 (by omega) ?_
      show X (EE s) d 280 363 [(0, zr 4 44), (1, zi a1), (2, zi a2)] [zi 0] m503 _
      refine X.ifeq 378 366 i280_363 rfl rfl rfl (fun h667 => ?_) (fun h667 => (by exfalso; omega))
      refine X.cut [] i280_378 rfl ?_
      refine X.iconst 379 i280_378 rfl rfl (by decide) ?_
      refine X.retz i280_379 rfl t280 (by omega) ?_
      exact hQ 0 m503 (by first | trivial | omega) (hJ504.up (by omega)) (by first | omega | (have hc := cBi_0 (a := a1) (b := a2) (by unfold cB; omega); omega))
    by_cases h668 : a1 = 8
    · refine X.tsIn 352 8 i280_10 rfl (by omega) rfl rfl ?_
      refine X.iload_n 353 i280_352 rfl rfl rfl ?_
      refine X.i2l 354 i280_353 rfl rfl ?_
      refine X.ldc2 357 i280_354 rfl rfl (by decide) ?_
      refine X.ldc2 360 i280_357 rfl rfl (by decide) ?_
      refine X.calls 363 [zl a1, zl 10, zl 13] [] [(0, zl a1), (2, zl 10), (4, zl 13)] i280_360 (by decide) rfl rfl (by omega) rfl rfl t204 (Nat.le_of_ble_eq_true rfl) (Nat.le_of_ble_eq_true rfl) rfl ?_
      refine X.lload_n 1 i204_0 rfl rfl rfl ?_
      refine X.lload_n 2 i204_1 rfl rfl rfl ?_
      refine X.lcmp 3 i204_2 rfl rfl (fun z669 hz669 => ?_)
      refine X.iflt 17 6 i204_3 rfl rfl rfl (fun h670 => ?_) (fun h670 => (by exfalso; omega))
      have h670c : a1 < 10 := by omega
      clear h670 hz669
      refine X.cut [] i204_17 rfl ?_
      refine X.iconst 18 i204_17 rfl rfl (by decide) ?_
      refine X.retz i204_18 rfl t204 (by omega) ?_
      show X (EE s) d 280 363 [(0, zr 4 44), (1, zi a1), (2, zi a2)] [zi 0] m503 _
      refine X.ifeq 378 366 i280_363 rfl rfl rfl (fun h671 => ?_) (fun h671 => (by exfalso; omega))
      refine X.cut [] i280_378 rfl ?_
      refine X.iconst 379 i280_378 rfl rfl (by decide) ?_
      refine X.retz i280_379 rfl t280 (by omega) ?_
      exact hQ 0 m503 (by first | trivial | omega) (hJ504.up (by omega)) (by first | omega | (have hc := cBi_0 (a := a1) (b := a2) (by unfold cB; omega); omega))
    by_cases h672 : a1 = 9
    · refine X.tsIn 352 9 i280_10 rfl (by omega) rfl rfl ?_
      refine X.iload_n 353 i280_352 rfl rfl rfl ?_
      refine X.i2l 354 i280_353 rfl rfl ?_
      refine X.ldc2 357 i280_354 rfl rfl (by decide) ?_
      refine X.ldc2 360 i280_357 rfl rfl (by decide) ?_
      refine X.calls 363 [zl a1, zl 10, zl 13] [] [(0, zl a1), (2, zl 10), (4, zl 13)] i280_360 (by decide) rfl rfl (by omega) rfl rfl t204 (Nat.le_of_ble_eq_true rfl) (Nat.le_of_ble_eq_true rfl) rfl ?_
      refine X.lload_n 1 i204_0 rfl rfl rfl ?_
      refine X.lload_n 2 i204_1 rfl rfl rfl ?_
      refine X.lcmp 3 i204_2 rfl rfl (fun z673 hz673 => ?_)
      refine X.iflt 17 6 i204_3 rfl rfl rfl (fun h674 => ?_) (fun h674 => (by exfalso; omega))
      have h674c : a1 < 10 := by omega
      clear h674 hz673
      refine X.cut [] i204_17 rfl ?_
      refine X.iconst 18 i204_17 rfl rfl (by decide) ?_
      refine X.retz i204_18 rfl t204 (by omega) ?_
      show X (EE s) d 280 363 [(0, zr 4 44), (1, zi a1), (2, zi a2)] [zi 0] m503 _
      refine X.ifeq 378 366 i280_363 rfl rfl rfl (fun h675 => ?_) (fun h675 => (by exfalso; omega))
      refine X.cut [] i280_378 rfl ?_
      refine X.iconst 379 i280_378 rfl rfl (by decide) ?_
      refine X.retz i280_379 rfl t280 (by omega) ?_
      exact hQ 0 m503 (by first | trivial | omega) (hJ504.up (by omega)) (by first | omega | (have hc := cBi_0 (a := a1) (b := a2) (by unfold cB; omega); omega))
    by_cases h676 : a1 = 10
    · refine X.tsIn 352 10 i280_10 rfl (by omega) rfl rfl ?_
      refine X.iload_n 353 i280_352 rfl rfl rfl ?_
      refine X.i2l 354 i280_353 rfl rfl ?_
      refine X.ldc2 357 i280_354 rfl rfl (by decide) ?_
      refine X.ldc2 360 i280_357 rfl rfl (by decide) ?_
      refine X.calls 363 [zl a1, zl 10, zl 13] [] [(0, zl a1), (2, zl 10), (4, zl 13)] i280_360 (by decide) rfl rfl (by omega) rfl rfl t204 (Nat.le_of_ble_eq_true rfl) (Nat.le_of_ble_eq_true rfl) rfl ?_
      refine X.lload_n 1 i204_0 rfl rfl rfl ?_
      refine X.lload_n 2 i204_1 rfl rfl rfl ?_
      refine X.lcmp 3 i204_2 rfl rfl (fun z677 hz677 => ?_)
      refine X.iflt 17 6 i204_3 rfl rfl rfl (fun h678 => (by exfalso; omega)) (fun h678 => ?_)
      have h678c : a1 ≥ 10 := by omega
      clear h678 hz677
      refine X.lload_n 7 i204_6 rfl rfl rfl ?_
      refine X.lload 9 i204_7 rfl rfl rfl ?_
      refine X.lcmp 10 i204_9 rfl rfl (fun z679 hz679 => ?_)
      refine X.ifgt 17 13 i204_10 rfl rfl rfl (fun h680 => (by exfalso; omega)) (fun h680 => ?_)
      have h680c : a1 ≤ 13 := by omega
      clear h680 hz679
      refine X.iconst 14 i204_13 rfl rfl (by decide) ?_
      refine X.goto 18 i204_14 rfl rfl ?_
      refine X.cut [] i204_18 rfl ?_
      refine X.retz i204_18 rfl t204 (by omega) ?_
      show X (EE s) d 280 363 [(0, zr 4 44), (1, zi a1), (2, zi a2)] [zi 1] m503 _
      refine X.ifeq 378 366 i280_363 rfl rfl rfl (fun h681 => (by exfalso; omega)) (fun h681 => ?_)
      refine X.iload_n 367 i280_366 rfl rfl rfl ?_
      refine X.i2l 368 i280_367 rfl rfl ?_
      refine X.lconst (y := 0) 369 i280_368 rfl rfl rfl ?_
      refine X.ldc2 372 i280_369 rfl rfl (by decide) ?_
      refine X.calls 375 [zl a2, zl 0, zl 100] [] [(0, zl a2), (2, zl 0), (4, zl 100)] i280_372 (by decide) rfl rfl (by omega) rfl rfl t204 (Nat.le_of_ble_eq_true rfl) (Nat.le_of_ble_eq_true rfl) rfl ?_
      refine X.lload_n 1 i204_0 rfl rfl rfl ?_
      refine X.lload_n 2 i204_1 rfl rfl rfl ?_
      refine X.lcmp 3 i204_2 rfl rfl (fun z682 hz682 => ?_)
      refine X.iflt 17 6 i204_3 rfl rfl rfl (fun h683 => ?_) (fun h683 => ?_)
      · have h683c : a2 < 0 := by omega
        clear h683 hz682
        refine X.cut [] i204_17 rfl ?_
        refine X.iconst 18 i204_17 rfl rfl (by decide) ?_
        refine X.retz i204_18 rfl t204 (by omega) ?_
        show X (EE s) d 280 375 [(0, zr 4 44), (1, zi a1), (2, zi a2)] [zi 0] m503 _
        refine X.ifne 380 378 i280_375 rfl rfl rfl (fun h684 => (by exfalso; omega)) (fun h684 => ?_)
        refine X.cut [] i280_378 rfl ?_
        refine X.iconst 379 i280_378 rfl rfl (by decide) ?_
        refine X.retz i280_379 rfl t280 (by omega) ?_
        exact hQ 0 m503 (by first | trivial | omega) (hJ504.up (by omega)) (by first | omega | (have hc := cBi_0 (a := a1) (b := a2) (by unfold cB; omega); omega))
      · have h683c : a2 ≥ 0 := by omega
        clear h683 hz682
        refine X.lload_n 7 i204_6 rfl rfl rfl ?_
        refine X.lload 9 i204_7 rfl rfl rfl ?_
        refine X.lcmp 10 i204_9 rfl rfl (fun z685 hz685 => ?_)
        refine X.ifgt 17 13 i204_10 rfl rfl rfl (fun h686 => ?_) (fun h686 => ?_)
        · have h686c : a2 > 100 := by omega
          clear h686 hz685
          refine X.cut [] i204_17 rfl ?_
          refine X.iconst 18 i204_17 rfl rfl (by decide) ?_
          refine X.retz i204_18 rfl t204 (by omega) ?_
          show X (EE s) d 280 375 [(0, zr 4 44), (1, zi a1), (2, zi a2)] [zi 0] m503 _
          refine X.ifne 380 378 i280_375 rfl rfl rfl (fun h687 => (by exfalso; omega)) (fun h687 => ?_)
          refine X.cut [] i280_378 rfl ?_
          refine X.iconst 379 i280_378 rfl rfl (by decide) ?_
          refine X.retz i280_379 rfl t280 (by omega) ?_
          exact hQ 0 m503 (by first | trivial | omega) (hJ504.up (by omega)) (by first | omega | (have hc := cBi_0 (a := a1) (b := a2) (by unfold cB; omega); omega))
        · have h686c : a2 ≤ 100 := by omega
          clear h686 hz685
          refine X.iconst 14 i204_13 rfl rfl (by decide) ?_
          refine X.goto 18 i204_14 rfl rfl ?_
          refine X.cut [] i204_18 rfl ?_
          refine X.retz i204_18 rfl t204 (by omega) ?_
          show X (EE s) d 280 375 [(0, zr 4 44), (1, zi a1), (2, zi a2)] [zi 1] m503 _
          refine X.ifne 380 378 i280_375 rfl rfl rfl (fun h688 => ?_) (fun h688 => (by exfalso; omega))
          refine X.aload_n 381 i280_380 rfl rfl rfl ?_
          refine X.getF 384 i280_381 rfl rfl (by decide) rfl rfl ?_
          refine X.bipush 386 i280_384 rfl rfl (by decide) ?_
          refine X.iload_n 387 i280_386 rfl rfl rfl ?_
          refine X.iadd 388 i280_387 rfl rfl (by omega) ?_
          refine X.bipush 390 i280_388 rfl rfl (by decide) ?_
          refine X.isub 391 i280_390 rfl rfl (by omega) ?_
          refine X.iload_n 392 i280_391 rfl rfl rfl ?_
          refine X.i2l 393 i280_392 rfl rfl ?_
          refine X.last' 394 i280_393 rfl rfl (by decide) rfl (by omega) (fun hrm689 m689 hm689 => ?_)
          have hJ690 := w45_19 hJ504 hm689 (by omega) hrm689
          have wt691 : m689 4 45 1614 = (m 4 45 1614) := Eq.trans (by rw [hm689]; exact z_upd_i _ _ _ _ (by omega)) wt505
          have wt692 : m689 4 45 13 = (m 4 45 13) := Eq.trans (by rw [hm689]; exact z_upd_i _ _ _ _ (by omega)) wt506
          clear wt506
          refine X.iconst 395 i280_394 rfl rfl (by decide) ?_
          refine X.retz i280_395 rfl t280 (by omega) ?_
          exact hQ 1 m689 (by first | trivial | omega) (hJ690.up (by omega)) (by (have hc := cBi_1 (a := a1) (b := a2) (by unfold cB; first | exact (.inl ⟨by omega, by omega, by omega⟩) | exact (.inr (.inl ⟨by omega, by omega, by omega⟩)) | exact (.inr (.inr (.inl ⟨by omega, by omega, by omega⟩))) | exact (.inr (.inr (.inr (.inl ⟨by omega, by omega, by omega⟩)))) | exact (.inr (.inr (.inr (.inr (.inl ⟨by omega, by omega⟩))))) | exact (.inr (.inr (.inr (.inr (.inr (.inl ⟨by omega, by omega, by omega⟩)))))) | exact (.inr (.inr (.inr (.inr (.inr (.inr (.inl ⟨by omega, by omega, by omega, by omega⟩))))))) | exact (.inr (.inr (.inr (.inr (.inr (.inr (.inr (.inl ⟨by omega, by omega, by omega⟩)))))))) | exact (.inr (.inr (.inr (.inr (.inr (.inr (.inr (.inr (.inl ⟨by omega, by omega, by omega⟩))))))))) | exact (.inr (.inr (.inr (.inr (.inr (.inr (.inr (.inr (.inr ⟨by omega, by omega, by omega⟩)))))))))); omega))
    by_cases h693 : a1 = 11
    · refine X.tsIn 352 11 i280_10 rfl (by omega) rfl rfl ?_
      refine X.iload_n 353 i280_352 rfl rfl rfl ?_
      refine X.i2l 354 i280_353 rfl rfl ?_
      refine X.ldc2 357 i280_354 rfl rfl (by decide) ?_
      refine X.ldc2 360 i280_357 rfl rfl (by decide) ?_
      refine X.calls 363 [zl a1, zl 10, zl 13] [] [(0, zl a1), (2, zl 10), (4, zl 13)] i280_360 (by decide) rfl rfl (by omega) rfl rfl t204 (Nat.le_of_ble_eq_true rfl) (Nat.le_of_ble_eq_true rfl) rfl ?_
      refine X.lload_n 1 i204_0 rfl rfl rfl ?_
      refine X.lload_n 2 i204_1 rfl rfl rfl ?_
      refine X.lcmp 3 i204_2 rfl rfl (fun z694 hz694 => ?_)
      refine X.iflt 17 6 i204_3 rfl rfl rfl (fun h695 => (by exfalso; omega)) (fun h695 => ?_)
      have h695c : a1 ≥ 10 := by omega
      clear h695 hz694
      refine X.lload_n 7 i204_6 rfl rfl rfl ?_
      refine X.lload 9 i204_7 rfl rfl rfl ?_
      refine X.lcmp 10 i204_9 rfl rfl (fun z696 hz696 => ?_)
      refine X.ifgt 17 13 i204_10 rfl rfl rfl (fun h697 => (by exfalso; omega)) (fun h697 => ?_)
      have h697c : a1 ≤ 13 := by omega
      clear h697 hz696
      refine X.iconst 14 i204_13 rfl rfl (by decide) ?_
      refine X.goto 18 i204_14 rfl rfl ?_
      refine X.cut [] i204_18 rfl ?_
      refine X.retz i204_18 rfl t204 (by omega) ?_
      show X (EE s) d 280 363 [(0, zr 4 44), (1, zi a1), (2, zi a2)] [zi 1] m503 _
      refine X.ifeq 378 366 i280_363 rfl rfl rfl (fun h698 => (by exfalso; omega)) (fun h698 => ?_)
      refine X.iload_n 367 i280_366 rfl rfl rfl ?_
      refine X.i2l 368 i280_367 rfl rfl ?_
      refine X.lconst (y := 0) 369 i280_368 rfl rfl rfl ?_
      refine X.ldc2 372 i280_369 rfl rfl (by decide) ?_
      refine X.calls 375 [zl a2, zl 0, zl 100] [] [(0, zl a2), (2, zl 0), (4, zl 100)] i280_372 (by decide) rfl rfl (by omega) rfl rfl t204 (Nat.le_of_ble_eq_true rfl) (Nat.le_of_ble_eq_true rfl) rfl ?_
      refine X.lload_n 1 i204_0 rfl rfl rfl ?_
      refine X.lload_n 2 i204_1 rfl rfl rfl ?_
      refine X.lcmp 3 i204_2 rfl rfl (fun z699 hz699 => ?_)
      refine X.iflt 17 6 i204_3 rfl rfl rfl (fun h700 => ?_) (fun h700 => ?_)
      · have h700c : a2 < 0 := by omega
        clear h700 hz699
        refine X.cut [] i204_17 rfl ?_
        refine X.iconst 18 i204_17 rfl rfl (by decide) ?_
        refine X.retz i204_18 rfl t204 (by omega) ?_
        show X (EE s) d 280 375 [(0, zr 4 44), (1, zi a1), (2, zi a2)] [zi 0] m503 _
        refine X.ifne 380 378 i280_375 rfl rfl rfl (fun h701 => (by exfalso; omega)) (fun h701 => ?_)
        refine X.cut [] i280_378 rfl ?_
        refine X.iconst 379 i280_378 rfl rfl (by decide) ?_
        refine X.retz i280_379 rfl t280 (by omega) ?_
        exact hQ 0 m503 (by first | trivial | omega) (hJ504.up (by omega)) (by first | omega | (have hc := cBi_0 (a := a1) (b := a2) (by unfold cB; omega); omega))
      · have h700c : a2 ≥ 0 := by omega
        clear h700 hz699
        refine X.lload_n 7 i204_6 rfl rfl rfl ?_
        refine X.lload 9 i204_7 rfl rfl rfl ?_
        refine X.lcmp 10 i204_9 rfl rfl (fun z702 hz702 => ?_)
        refine X.ifgt 17 13 i204_10 rfl rfl rfl (fun h703 => ?_) (fun h703 => ?_)
        · have h703c : a2 > 100 := by omega
          clear h703 hz702
          refine X.cut [] i204_17 rfl ?_
          refine X.iconst 18 i204_17 rfl rfl (by decide) ?_
          refine X.retz i204_18 rfl t204 (by omega) ?_
          show X (EE s) d 280 375 [(0, zr 4 44), (1, zi a1), (2, zi a2)] [zi 0] m503 _
          refine X.ifne 380 378 i280_375 rfl rfl rfl (fun h704 => (by exfalso; omega)) (fun h704 => ?_)
          refine X.cut [] i280_378 rfl ?_
          refine X.iconst 379 i280_378 rfl rfl (by decide) ?_
          refine X.retz i280_379 rfl t280 (by omega) ?_
          exact hQ 0 m503 (by first | trivial | omega) (hJ504.up (by omega)) (by first | omega | (have hc := cBi_0 (a := a1) (b := a2) (by unfold cB; omega); omega))
        · have h703c : a2 ≤ 100 := by omega
          clear h703 hz702
          refine X.iconst 14 i204_13 rfl rfl (by decide) ?_
          refine X.goto 18 i204_14 rfl rfl ?_
          refine X.cut [] i204_18 rfl ?_
          refine X.retz i204_18 rfl t204 (by omega) ?_
          show X (EE s) d 280 375 [(0, zr 4 44), (1, zi a1), (2, zi a2)] [zi 1] m503 _
          refine X.ifne 380 378 i280_375 rfl rfl rfl (fun h705 => ?_) (fun h705 => (by exfalso; omega))
          refine X.aload_n 381 i280_380 rfl rfl rfl ?_
          refine X.getF 384 i280_381 rfl rfl (by decide) rfl rfl ?_
          refine X.bipush 386 i280_384 rfl rfl (by decide) ?_
          refine X.iload_n 387 i280_386 rfl rfl rfl ?_
          refine X.iadd 388 i280_387 rfl rfl (by omega) ?_
          refine X.bipush 390 i280_388 rfl rfl (by decide) ?_
          refine X.isub 391 i280_390 rfl rfl (by omega) ?_
          refine X.iload_n 392 i280_391 rfl rfl rfl ?_
          refine X.i2l 393 i280_392 rfl rfl ?_
          refine X.last' 394 i280_393 rfl rfl (by decide) rfl (by omega) (fun hrm706 m706 hm706 => ?_)
          have hJ707 := w45_19 hJ504 hm706 (by omega) hrm706
          have wt708 : m706 4 45 1614 = (m 4 45 1614) := Eq.trans (by rw [hm706]; exact z_upd_i _ _ _ _ (by omega)) wt505
          have wt709 : m706 4 45 13 = (m 4 45 13) := Eq.trans (by rw [hm706]; exact z_upd_i _ _ _ _ (by omega)) wt506
          clear wt506
          refine X.iconst 395 i280_394 rfl rfl (by decide) ?_
          refine X.retz i280_395 rfl t280 (by omega) ?_
          exact hQ 1 m706 (by first | trivial | omega) (hJ707.up (by omega)) (by (have hc := cBi_1 (a := a1) (b := a2) (by unfold cB; first | exact (.inl ⟨by omega, by omega, by omega⟩) | exact (.inr (.inl ⟨by omega, by omega, by omega⟩)) | exact (.inr (.inr (.inl ⟨by omega, by omega, by omega⟩))) | exact (.inr (.inr (.inr (.inl ⟨by omega, by omega, by omega⟩)))) | exact (.inr (.inr (.inr (.inr (.inl ⟨by omega, by omega⟩))))) | exact (.inr (.inr (.inr (.inr (.inr (.inl ⟨by omega, by omega, by omega⟩)))))) | exact (.inr (.inr (.inr (.inr (.inr (.inr (.inl ⟨by omega, by omega, by omega, by omega⟩))))))) | exact (.inr (.inr (.inr (.inr (.inr (.inr (.inr (.inl ⟨by omega, by omega, by omega⟩)))))))) | exact (.inr (.inr (.inr (.inr (.inr (.inr (.inr (.inr (.inl ⟨by omega, by omega, by omega⟩))))))))) | exact (.inr (.inr (.inr (.inr (.inr (.inr (.inr (.inr (.inr ⟨by omega, by omega, by omega⟩)))))))))); omega))
    by_cases h710 : a1 = 12
    · refine X.tsIn 352 12 i280_10 rfl (by omega) rfl rfl ?_
      refine X.iload_n 353 i280_352 rfl rfl rfl ?_
      refine X.i2l 354 i280_353 rfl rfl ?_
      refine X.ldc2 357 i280_354 rfl rfl (by decide) ?_
      refine X.ldc2 360 i280_357 rfl rfl (by decide) ?_
      refine X.calls 363 [zl a1, zl 10, zl 13] [] [(0, zl a1), (2, zl 10), (4, zl 13)] i280_360 (by decide) rfl rfl (by omega) rfl rfl t204 (Nat.le_of_ble_eq_true rfl) (Nat.le_of_ble_eq_true rfl) rfl ?_
      refine X.lload_n 1 i204_0 rfl rfl rfl ?_
      refine X.lload_n 2 i204_1 rfl rfl rfl ?_
      refine X.lcmp 3 i204_2 rfl rfl (fun z711 hz711 => ?_)
      refine X.iflt 17 6 i204_3 rfl rfl rfl (fun h712 => (by exfalso; omega)) (fun h712 => ?_)
      have h712c : a1 ≥ 10 := by omega
      clear h712 hz711
      refine X.lload_n 7 i204_6 rfl rfl rfl ?_
      refine X.lload 9 i204_7 rfl rfl rfl ?_
      refine X.lcmp 10 i204_9 rfl rfl (fun z713 hz713 => ?_)
      refine X.ifgt 17 13 i204_10 rfl rfl rfl (fun h714 => (by exfalso; omega)) (fun h714 => ?_)
      have h714c : a1 ≤ 13 := by omega
      clear h714 hz713
      refine X.iconst 14 i204_13 rfl rfl (by decide) ?_
      refine X.goto 18 i204_14 rfl rfl ?_
      refine X.cut [] i204_18 rfl ?_
      refine X.retz i204_18 rfl t204 (by omega) ?_
      show X (EE s) d 280 363 [(0, zr 4 44), (1, zi a1), (2, zi a2)] [zi 1] m503 _
      refine X.ifeq 378 366 i280_363 rfl rfl rfl (fun h715 => (by exfalso; omega)) (fun h715 => ?_)
      refine X.iload_n 367 i280_366 rfl rfl rfl ?_
      refine X.i2l 368 i280_367 rfl rfl ?_
      refine X.lconst (y := 0) 369 i280_368 rfl rfl rfl ?_
      refine X.ldc2 372 i280_369 rfl rfl (by decide) ?_
      refine X.calls 375 [zl a2, zl 0, zl 100] [] [(0, zl a2), (2, zl 0), (4, zl 100)] i280_372 (by decide) rfl rfl (by omega) rfl rfl t204 (Nat.le_of_ble_eq_true rfl) (Nat.le_of_ble_eq_true rfl) rfl ?_
      refine X.lload_n 1 i204_0 rfl rfl rfl ?_
      refine X.lload_n 2 i204_1 rfl rfl rfl ?_
      refine X.lcmp 3 i204_2 rfl rfl (fun z716 hz716 => ?_)
      refine X.iflt 17 6 i204_3 rfl rfl rfl (fun h717 => ?_) (fun h717 => ?_)
      · have h717c : a2 < 0 := by omega
        clear h717 hz716
        refine X.cut [] i204_17 rfl ?_
        refine X.iconst 18 i204_17 rfl rfl (by decide) ?_
        refine X.retz i204_18 rfl t204 (by omega) ?_
        show X (EE s) d 280 375 [(0, zr 4 44), (1, zi a1), (2, zi a2)] [zi 0] m503 _
        refine X.ifne 380 378 i280_375 rfl rfl rfl (fun h718 => (by exfalso; omega)) (fun h718 => ?_)
        refine X.cut [] i280_378 rfl ?_
        refine X.iconst 379 i280_378 rfl rfl (by decide) ?_
        refine X.retz i280_379 rfl t280 (by omega) ?_
        exact hQ 0 m503 (by first | trivial | omega) (hJ504.up (by omega)) (by first | omega | (have hc := cBi_0 (a := a1) (b := a2) (by unfold cB; omega); omega))
      · have h717c : a2 ≥ 0 := by omega
        clear h717 hz716
        refine X.lload_n 7 i204_6 rfl rfl rfl ?_
        refine X.lload 9 i204_7 rfl rfl rfl ?_
        refine X.lcmp 10 i204_9 rfl rfl (fun z719 hz719 => ?_)
        refine X.ifgt 17 13 i204_10 rfl rfl rfl (fun h720 => ?_) (fun h720 => ?_)
        · have h720c : a2 > 100 := by omega
          clear h720 hz719
          refine X.cut [] i204_17 rfl ?_
          refine X.iconst 18 i204_17 rfl rfl (by decide) ?_
          refine X.retz i204_18 rfl t204 (by omega) ?_
          show X (EE s) d 280 375 [(0, zr 4 44), (1, zi a1), (2, zi a2)] [zi 0] m503 _
          refine X.ifne 380 378 i280_375 rfl rfl rfl (fun h721 => (by exfalso; omega)) (fun h721 => ?_)
          refine X.cut [] i280_378 rfl ?_
          refine X.iconst 379 i280_378 rfl rfl (by decide) ?_
          refine X.retz i280_379 rfl t280 (by omega) ?_
          exact hQ 0 m503 (by first | trivial | omega) (hJ504.up (by omega)) (by first | omega | (have hc := cBi_0 (a := a1) (b := a2) (by unfold cB; omega); omega))
        · have h720c : a2 ≤ 100 := by omega
          clear h720 hz719
          refine X.iconst 14 i204_13 rfl rfl (by decide) ?_
          refine X.goto 18 i204_14 rfl rfl ?_
          refine X.cut [] i204_18 rfl ?_
          refine X.retz i204_18 rfl t204 (by omega) ?_
          show X (EE s) d 280 375 [(0, zr 4 44), (1, zi a1), (2, zi a2)] [zi 1] m503 _
          refine X.ifne 380 378 i280_375 rfl rfl rfl (fun h722 => ?_) (fun h722 => (by exfalso; omega))
          refine X.aload_n 381 i280_380 rfl rfl rfl ?_
          refine X.getF 384 i280_381 rfl rfl (by decide) rfl rfl ?_
          refine X.bipush 386 i280_384 rfl rfl (by decide) ?_
          refine X.iload_n 387 i280_386 rfl rfl rfl ?_
          refine X.iadd 388 i280_387 rfl rfl (by omega) ?_
          refine X.bipush 390 i280_388 rfl rfl (by decide) ?_
          refine X.isub 391 i280_390 rfl rfl (by omega) ?_
          refine X.iload_n 392 i280_391 rfl rfl rfl ?_
          refine X.i2l 393 i280_392 rfl rfl ?_
          refine X.last' 394 i280_393 rfl rfl (by decide) rfl (by omega) (fun hrm723 m723 hm723 => ?_)
          have hJ724 := w45_19 hJ504 hm723 (by omega) hrm723
          have wt725 : m723 4 45 1614 = (m 4 45 1614) := Eq.trans (by rw [hm723]; exact z_upd_i _ _ _ _ (by omega)) wt505
          have wt726 : m723 4 45 13 = (m 4 45 13) := Eq.trans (by rw [hm723]; exact z_upd_i _ _ _ _ (by omega)) wt506
          clear wt506
          refine X.iconst 395 i280_394 rfl rfl (by decide) ?_
          refine X.retz i280_395 rfl t280 (by omega) ?_
          exact hQ 1 m723 (by first | trivial | omega) (hJ724.up (by omega)) (by (have hc := cBi_1 (a := a1) (b := a2) (by unfold cB; first | exact (.inl ⟨by omega, by omega, by omega⟩) | exact (.inr (.inl ⟨by omega, by omega, by omega⟩)) | exact (.inr (.inr (.inl ⟨by omega, by omega, by omega⟩))) | exact (.inr (.inr (.inr (.inl ⟨by omega, by omega, by omega⟩)))) | exact (.inr (.inr (.inr (.inr (.inl ⟨by omega, by omega⟩))))) | exact (.inr (.inr (.inr (.inr (.inr (.inl ⟨by omega, by omega, by omega⟩)))))) | exact (.inr (.inr (.inr (.inr (.inr (.inr (.inl ⟨by omega, by omega, by omega, by omega⟩))))))) | exact (.inr (.inr (.inr (.inr (.inr (.inr (.inr (.inl ⟨by omega, by omega, by omega⟩)))))))) | exact (.inr (.inr (.inr (.inr (.inr (.inr (.inr (.inr (.inl ⟨by omega, by omega, by omega⟩))))))))) | exact (.inr (.inr (.inr (.inr (.inr (.inr (.inr (.inr (.inr ⟨by omega, by omega, by omega⟩)))))))))); omega))
    by_cases h727 : a1 = 13
    · refine X.tsIn 352 13 i280_10 rfl (by omega) rfl rfl ?_
      refine X.iload_n 353 i280_352 rfl rfl rfl ?_
      refine X.i2l 354 i280_353 rfl rfl ?_
      refine X.ldc2 357 i280_354 rfl rfl (by decide) ?_
      refine X.ldc2 360 i280_357 rfl rfl (by decide) ?_
      refine X.calls 363 [zl a1, zl 10, zl 13] [] [(0, zl a1), (2, zl 10), (4, zl 13)] i280_360 (by decide) rfl rfl (by omega) rfl rfl t204 (Nat.le_of_ble_eq_true rfl) (Nat.le_of_ble_eq_true rfl) rfl ?_
      refine X.lload_n 1 i204_0 rfl rfl rfl ?_
      refine X.lload_n 2 i204_1 rfl rfl rfl ?_
      refine X.lcmp 3 i204_2 rfl rfl (fun z728 hz728 => ?_)
      refine X.iflt 17 6 i204_3 rfl rfl rfl (fun h729 => (by exfalso; omega)) (fun h729 => ?_)
      have h729c : a1 ≥ 10 := by omega
      clear h729 hz728
      refine X.lload_n 7 i204_6 rfl rfl rfl ?_
      refine X.lload 9 i204_7 rfl rfl rfl ?_
      refine X.lcmp 10 i204_9 rfl rfl (fun z730 hz730 => ?_)
      refine X.ifgt 17 13 i204_10 rfl rfl rfl (fun h731 => (by exfalso; omega)) (fun h731 => ?_)
      have h731c : a1 ≤ 13 := by omega
      clear h731 hz730
      refine X.iconst 14 i204_13 rfl rfl (by decide) ?_
      refine X.goto 18 i204_14 rfl rfl ?_
      refine X.cut [] i204_18 rfl ?_
      refine X.retz i204_18 rfl t204 (by omega) ?_
      show X (EE s) d 280 363 [(0, zr 4 44), (1, zi a1), (2, zi a2)] [zi 1] m503 _
      refine X.ifeq 378 366 i280_363 rfl rfl rfl (fun h732 => (by exfalso; omega)) (fun h732 => ?_)
      refine X.iload_n 367 i280_366 rfl rfl rfl ?_
      refine X.i2l 368 i280_367 rfl rfl ?_
      refine X.lconst (y := 0) 369 i280_368 rfl rfl rfl ?_
      refine X.ldc2 372 i280_369 rfl rfl (by decide) ?_
      refine X.calls 375 [zl a2, zl 0, zl 100] [] [(0, zl a2), (2, zl 0), (4, zl 100)] i280_372 (by decide) rfl rfl (by omega) rfl rfl t204 (Nat.le_of_ble_eq_true rfl) (Nat.le_of_ble_eq_true rfl) rfl ?_
      refine X.lload_n 1 i204_0 rfl rfl rfl ?_
      refine X.lload_n 2 i204_1 rfl rfl rfl ?_
      refine X.lcmp 3 i204_2 rfl rfl (fun z733 hz733 => ?_)
      refine X.iflt 17 6 i204_3 rfl rfl rfl (fun h734 => ?_) (fun h734 => ?_)
      · have h734c : a2 < 0 := by omega
        clear h734 hz733
        refine X.cut [] i204_17 rfl ?_
        refine X.iconst 18 i204_17 rfl rfl (by decide) ?_
        refine X.retz i204_18 rfl t204 (by omega) ?_
        show X (EE s) d 280 375 [(0, zr 4 44), (1, zi a1), (2, zi a2)] [zi 0] m503 _
        refine X.ifne 380 378 i280_375 rfl rfl rfl (fun h735 => (by exfalso; omega)) (fun h735 => ?_)
        refine X.cut [] i280_378 rfl ?_
        refine X.iconst 379 i280_378 rfl rfl (by decide) ?_
        refine X.retz i280_379 rfl t280 (by omega) ?_
        exact hQ 0 m503 (by first | trivial | omega) (hJ504.up (by omega)) (by first | omega | (have hc := cBi_0 (a := a1) (b := a2) (by unfold cB; omega); omega))
      · have h734c : a2 ≥ 0 := by omega
        clear h734 hz733
        refine X.lload_n 7 i204_6 rfl rfl rfl ?_
        refine X.lload 9 i204_7 rfl rfl rfl ?_
        refine X.lcmp 10 i204_9 rfl rfl (fun z736 hz736 => ?_)
        refine X.ifgt 17 13 i204_10 rfl rfl rfl (fun h737 => ?_) (fun h737 => ?_)
        · have h737c : a2 > 100 := by omega
          clear h737 hz736
          refine X.cut [] i204_17 rfl ?_
          refine X.iconst 18 i204_17 rfl rfl (by decide) ?_
          refine X.retz i204_18 rfl t204 (by omega) ?_
          show X (EE s) d 280 375 [(0, zr 4 44), (1, zi a1), (2, zi a2)] [zi 0] m503 _
          refine X.ifne 380 378 i280_375 rfl rfl rfl (fun h738 => (by exfalso; omega)) (fun h738 => ?_)
          refine X.cut [] i280_378 rfl ?_
          refine X.iconst 379 i280_378 rfl rfl (by decide) ?_
          refine X.retz i280_379 rfl t280 (by omega) ?_
          exact hQ 0 m503 (by first | trivial | omega) (hJ504.up (by omega)) (by first | omega | (have hc := cBi_0 (a := a1) (b := a2) (by unfold cB; omega); omega))
        · have h737c : a2 ≤ 100 := by omega
          clear h737 hz736
          refine X.iconst 14 i204_13 rfl rfl (by decide) ?_
          refine X.goto 18 i204_14 rfl rfl ?_
          refine X.cut [] i204_18 rfl ?_
          refine X.retz i204_18 rfl t204 (by omega) ?_
          show X (EE s) d 280 375 [(0, zr 4 44), (1, zi a1), (2, zi a2)] [zi 1] m503 _
          refine X.ifne 380 378 i280_375 rfl rfl rfl (fun h739 => ?_) (fun h739 => (by exfalso; omega))
          refine X.aload_n 381 i280_380 rfl rfl rfl ?_
          refine X.getF 384 i280_381 rfl rfl (by decide) rfl rfl ?_
          refine X.bipush 386 i280_384 rfl rfl (by decide) ?_
          refine X.iload_n 387 i280_386 rfl rfl rfl ?_
          refine X.iadd 388 i280_387 rfl rfl (by omega) ?_
          refine X.bipush 390 i280_388 rfl rfl (by decide) ?_
          refine X.isub 391 i280_390 rfl rfl (by omega) ?_
          refine X.iload_n 392 i280_391 rfl rfl rfl ?_
          refine X.i2l 393 i280_392 rfl rfl ?_
          refine X.last' 394 i280_393 rfl rfl (by decide) rfl (by omega) (fun hrm740 m740 hm740 => ?_)
          have hJ741 := w45_19 hJ504 hm740 (by omega) hrm740
          have wt742 : m740 4 45 1614 = (m 4 45 1614) := Eq.trans (by rw [hm740]; exact z_upd_i _ _ _ _ (by omega)) wt505
          have wt743 : m740 4 45 13 = (m 4 45 13) := Eq.trans (by rw [hm740]; exact z_upd_i _ _ _ _ (by omega)) wt506
          clear wt506
          refine X.iconst 395 i280_394 rfl rfl (by decide) ?_
          refine X.retz i280_395 rfl t280 (by omega) ?_
          exact hQ 1 m740 (by first | trivial | omega) (hJ741.up (by omega)) (by (have hc := cBi_1 (a := a1) (b := a2) (by unfold cB; first | exact (.inl ⟨by omega, by omega, by omega⟩) | exact (.inr (.inl ⟨by omega, by omega, by omega⟩)) | exact (.inr (.inr (.inl ⟨by omega, by omega, by omega⟩))) | exact (.inr (.inr (.inr (.inl ⟨by omega, by omega, by omega⟩)))) | exact (.inr (.inr (.inr (.inr (.inl ⟨by omega, by omega⟩))))) | exact (.inr (.inr (.inr (.inr (.inr (.inl ⟨by omega, by omega, by omega⟩)))))) | exact (.inr (.inr (.inr (.inr (.inr (.inr (.inl ⟨by omega, by omega, by omega, by omega⟩))))))) | exact (.inr (.inr (.inr (.inr (.inr (.inr (.inr (.inl ⟨by omega, by omega, by omega⟩)))))))) | exact (.inr (.inr (.inr (.inr (.inr (.inr (.inr (.inr (.inl ⟨by omega, by omega, by omega⟩))))))))) | exact (.inr (.inr (.inr (.inr (.inr (.inr (.inr (.inr (.inr ⟨by omega, by omega, by omega⟩)))))))))); omega))
    by_cases h744 : a1 = 14
    · refine X.tsIn 352 14 i280_10 rfl (by omega) rfl rfl ?_
      refine X.iload_n 353 i280_352 rfl rfl rfl ?_
      refine X.i2l 354 i280_353 rfl rfl ?_
      refine X.ldc2 357 i280_354 rfl rfl (by decide) ?_
      refine X.ldc2 360 i280_357 rfl rfl (by decide) ?_
      refine X.calls 363 [zl a1, zl 10, zl 13] [] [(0, zl a1), (2, zl 10), (4, zl 13)] i280_360 (by decide) rfl rfl (by omega) rfl rfl t204 (Nat.le_of_ble_eq_true rfl) (Nat.le_of_ble_eq_true rfl) rfl ?_
      refine X.lload_n 1 i204_0 rfl rfl rfl ?_
      refine X.lload_n 2 i204_1 rfl rfl rfl ?_
      refine X.lcmp 3 i204_2 rfl rfl (fun z745 hz745 => ?_)
      refine X.iflt 17 6 i204_3 rfl rfl rfl (fun h746 => (by exfalso; omega)) (fun h746 => ?_)
      have h746c : a1 ≥ 10 := by omega
      clear h746 hz745
      refine X.lload_n 7 i204_6 rfl rfl rfl ?_
      refine X.lload 9 i204_7 rfl rfl rfl ?_
      refine X.lcmp 10 i204_9 rfl rfl (fun z747 hz747 => ?_)
      refine X.ifgt 17 13 i204_10 rfl rfl rfl (fun h748 => ?_) (fun h748 => (by exfalso; omega))
      have h748c : a1 > 13 := by omega
      clear h748 hz747
      refine X.cut [] i204_17 rfl ?_
      refine X.iconst 18 i204_17 rfl rfl (by decide) ?_
      refine X.retz i204_18 rfl t204 (by omega) ?_
      show X (EE s) d 280 363 [(0, zr 4 44), (1, zi a1), (2, zi a2)] [zi 0] m503 _
      refine X.ifeq 378 366 i280_363 rfl rfl rfl (fun h749 => ?_) (fun h749 => (by exfalso; omega))
      refine X.cut [] i280_378 rfl ?_
      refine X.iconst 379 i280_378 rfl rfl (by decide) ?_
      refine X.retz i280_379 rfl t280 (by omega) ?_
      exact hQ 0 m503 (by first | trivial | omega) (hJ504.up (by omega)) (by first | omega | (have hc := cBi_0 (a := a1) (b := a2) (by unfold cB; omega); omega))
    by_cases h750 : a1 = 15
    · refine X.tsIn 352 15 i280_10 rfl (by omega) rfl rfl ?_
      refine X.iload_n 353 i280_352 rfl rfl rfl ?_
      refine X.i2l 354 i280_353 rfl rfl ?_
      refine X.ldc2 357 i280_354 rfl rfl (by decide) ?_
      refine X.ldc2 360 i280_357 rfl rfl (by decide) ?_
      refine X.calls 363 [zl a1, zl 10, zl 13] [] [(0, zl a1), (2, zl 10), (4, zl 13)] i280_360 (by decide) rfl rfl (by omega) rfl rfl t204 (Nat.le_of_ble_eq_true rfl) (Nat.le_of_ble_eq_true rfl) rfl ?_
      refine X.lload_n 1 i204_0 rfl rfl rfl ?_
      refine X.lload_n 2 i204_1 rfl rfl rfl ?_
      refine X.lcmp 3 i204_2 rfl rfl (fun z751 hz751 => ?_)
      refine X.iflt 17 6 i204_3 rfl rfl rfl (fun h752 => (by exfalso; omega)) (fun h752 => ?_)
      have h752c : a1 ≥ 10 := by omega
      clear h752 hz751
      refine X.lload_n 7 i204_6 rfl rfl rfl ?_
      refine X.lload 9 i204_7 rfl rfl rfl ?_
      refine X.lcmp 10 i204_9 rfl rfl (fun z753 hz753 => ?_)
      refine X.ifgt 17 13 i204_10 rfl rfl rfl (fun h754 => ?_) (fun h754 => (by exfalso; omega))
      have h754c : a1 > 13 := by omega
      clear h754 hz753
      refine X.cut [] i204_17 rfl ?_
      refine X.iconst 18 i204_17 rfl rfl (by decide) ?_
      refine X.retz i204_18 rfl t204 (by omega) ?_
      show X (EE s) d 280 363 [(0, zr 4 44), (1, zi a1), (2, zi a2)] [zi 0] m503 _
      refine X.ifeq 378 366 i280_363 rfl rfl rfl (fun h755 => ?_) (fun h755 => (by exfalso; omega))
      refine X.cut [] i280_378 rfl ?_
      refine X.iconst 379 i280_378 rfl rfl (by decide) ?_
      refine X.retz i280_379 rfl t280 (by omega) ?_
      exact hQ 0 m503 (by first | trivial | omega) (hJ504.up (by omega)) (by first | omega | (have hc := cBi_0 (a := a1) (b := a2) (by unfold cB; omega); omega))
    by_cases h756 : a1 = 16
    · refine X.tsIn 352 16 i280_10 rfl (by omega) rfl rfl ?_
      refine X.iload_n 353 i280_352 rfl rfl rfl ?_
      refine X.i2l 354 i280_353 rfl rfl ?_
      refine X.ldc2 357 i280_354 rfl rfl (by decide) ?_
      refine X.ldc2 360 i280_357 rfl rfl (by decide) ?_
      refine X.calls 363 [zl a1, zl 10, zl 13] [] [(0, zl a1), (2, zl 10), (4, zl 13)] i280_360 (by decide) rfl rfl (by omega) rfl rfl t204 (Nat.le_of_ble_eq_true rfl) (Nat.le_of_ble_eq_true rfl) rfl ?_
      refine X.lload_n 1 i204_0 rfl rfl rfl ?_
      refine X.lload_n 2 i204_1 rfl rfl rfl ?_
      refine X.lcmp 3 i204_2 rfl rfl (fun z757 hz757 => ?_)
      refine X.iflt 17 6 i204_3 rfl rfl rfl (fun h758 => (by exfalso; omega)) (fun h758 => ?_)
      have h758c : a1 ≥ 10 := by omega
      clear h758 hz757
      refine X.lload_n 7 i204_6 rfl rfl rfl ?_
      refine X.lload 9 i204_7 rfl rfl rfl ?_
      refine X.lcmp 10 i204_9 rfl rfl (fun z759 hz759 => ?_)
      refine X.ifgt 17 13 i204_10 rfl rfl rfl (fun h760 => ?_) (fun h760 => (by exfalso; omega))
      have h760c : a1 > 13 := by omega
      clear h760 hz759
      refine X.cut [] i204_17 rfl ?_
      refine X.iconst 18 i204_17 rfl rfl (by decide) ?_
      refine X.retz i204_18 rfl t204 (by omega) ?_
      show X (EE s) d 280 363 [(0, zr 4 44), (1, zi a1), (2, zi a2)] [zi 0] m503 _
      refine X.ifeq 378 366 i280_363 rfl rfl rfl (fun h761 => ?_) (fun h761 => (by exfalso; omega))
      refine X.cut [] i280_378 rfl ?_
      refine X.iconst 379 i280_378 rfl rfl (by decide) ?_
      refine X.retz i280_379 rfl t280 (by omega) ?_
      exact hQ 0 m503 (by first | trivial | omega) (hJ504.up (by omega)) (by first | omega | (have hc := cBi_0 (a := a1) (b := a2) (by unfold cB; omega); omega))
    by_cases h762 : a1 = 17
    · refine X.tsIn 352 17 i280_10 rfl (by omega) rfl rfl ?_
      refine X.iload_n 353 i280_352 rfl rfl rfl ?_
      refine X.i2l 354 i280_353 rfl rfl ?_
      refine X.ldc2 357 i280_354 rfl rfl (by decide) ?_
      refine X.ldc2 360 i280_357 rfl rfl (by decide) ?_
      refine X.calls 363 [zl a1, zl 10, zl 13] [] [(0, zl a1), (2, zl 10), (4, zl 13)] i280_360 (by decide) rfl rfl (by omega) rfl rfl t204 (Nat.le_of_ble_eq_true rfl) (Nat.le_of_ble_eq_true rfl) rfl ?_
      refine X.lload_n 1 i204_0 rfl rfl rfl ?_
      refine X.lload_n 2 i204_1 rfl rfl rfl ?_
      refine X.lcmp 3 i204_2 rfl rfl (fun z763 hz763 => ?_)
      refine X.iflt 17 6 i204_3 rfl rfl rfl (fun h764 => (by exfalso; omega)) (fun h764 => ?_)
      have h764c : a1 ≥ 10 := by omega
      clear h764 hz763
      refine X.lload_n 7 i204_6 rfl rfl rfl ?_
      refine X.lload 9 i204_7 rfl rfl rfl ?_
      refine X.lcmp 10 i204_9 rfl rfl (fun z765 hz765 => ?_)
      refine X.ifgt 17 13 i204_10 rfl rfl rfl (fun h766 => ?_) (fun h766 => (by exfalso; omega))
      have h766c : a1 > 13 := by omega
      clear h766 hz765
      refine X.cut [] i204_17 rfl ?_
      refine X.iconst 18 i204_17 rfl rfl (by decide) ?_
      refine X.retz i204_18 rfl t204 (by omega) ?_
      show X (EE s) d 280 363 [(0, zr 4 44), (1, zi a1), (2, zi a2)] [zi 0] m503 _
      refine X.ifeq 378 366 i280_363 rfl rfl rfl (fun h767 => ?_) (fun h767 => (by exfalso; omega))
      refine X.cut [] i280_378 rfl ?_
      refine X.iconst 379 i280_378 rfl rfl (by decide) ?_
      refine X.retz i280_379 rfl t280 (by omega) ?_
      exact hQ 0 m503 (by first | trivial | omega) (hJ504.up (by omega)) (by first | omega | (have hc := cBi_0 (a := a1) (b := a2) (by unfold cB; omega); omega))
    by_cases h768 : a1 = 18
    · refine X.tsIn 352 18 i280_10 rfl (by omega) rfl rfl ?_
      refine X.iload_n 353 i280_352 rfl rfl rfl ?_
      refine X.i2l 354 i280_353 rfl rfl ?_
      refine X.ldc2 357 i280_354 rfl rfl (by decide) ?_
      refine X.ldc2 360 i280_357 rfl rfl (by decide) ?_
      refine X.calls 363 [zl a1, zl 10, zl 13] [] [(0, zl a1), (2, zl 10), (4, zl 13)] i280_360 (by decide) rfl rfl (by omega) rfl rfl t204 (Nat.le_of_ble_eq_true rfl) (Nat.le_of_ble_eq_true rfl) rfl ?_
      refine X.lload_n 1 i204_0 rfl rfl rfl ?_
      refine X.lload_n 2 i204_1 rfl rfl rfl ?_
      refine X.lcmp 3 i204_2 rfl rfl (fun z769 hz769 => ?_)
      refine X.iflt 17 6 i204_3 rfl rfl rfl (fun h770 => (by exfalso; omega)) (fun h770 => ?_)
      have h770c : a1 ≥ 10 := by omega
      clear h770 hz769
      refine X.lload_n 7 i204_6 rfl rfl rfl ?_
      refine X.lload 9 i204_7 rfl rfl rfl ?_
      refine X.lcmp 10 i204_9 rfl rfl (fun z771 hz771 => ?_)
      refine X.ifgt 17 13 i204_10 rfl rfl rfl (fun h772 => ?_) (fun h772 => (by exfalso; omega))
      have h772c : a1 > 13 := by omega
      clear h772 hz771
      refine X.cut [] i204_17 rfl ?_
      refine X.iconst 18 i204_17 rfl rfl (by decide) ?_
      refine X.retz i204_18 rfl t204 (by omega) ?_
      show X (EE s) d 280 363 [(0, zr 4 44), (1, zi a1), (2, zi a2)] [zi 0] m503 _
      refine X.ifeq 378 366 i280_363 rfl rfl rfl (fun h773 => ?_) (fun h773 => (by exfalso; omega))
      refine X.cut [] i280_378 rfl ?_
      refine X.iconst 379 i280_378 rfl rfl (by decide) ?_
      refine X.retz i280_379 rfl t280 (by omega) ?_
      exact hQ 0 m503 (by first | trivial | omega) (hJ504.up (by omega)) (by first | omega | (have hc := cBi_0 (a := a1) (b := a2) (by unfold cB; omega); omega))
    by_cases h774 : a1 = 19
    · refine X.tsIn 352 19 i280_10 rfl (by omega) rfl rfl ?_
      refine X.iload_n 353 i280_352 rfl rfl rfl ?_
      refine X.i2l 354 i280_353 rfl rfl ?_
      refine X.ldc2 357 i280_354 rfl rfl (by decide) ?_
      refine X.ldc2 360 i280_357 rfl rfl (by decide) ?_
      refine X.calls 363 [zl a1, zl 10, zl 13] [] [(0, zl a1), (2, zl 10), (4, zl 13)] i280_360 (by decide) rfl rfl (by omega) rfl rfl t204 (Nat.le_of_ble_eq_true rfl) (Nat.le_of_ble_eq_true rfl) rfl ?_
      refine X.lload_n 1 i204_0 rfl rfl rfl ?_
      refine X.lload_n 2 i204_1 rfl rfl rfl ?_
      refine X.lcmp 3 i204_2 rfl rfl (fun z775 hz775 => ?_)
      refine X.iflt 17 6 i204_3 rfl rfl rfl (fun h776 => (by exfalso; omega)) (fun h776 => ?_)
      have h776c : a1 ≥ 10 := by omega
      clear h776 hz775
      refine X.lload_n 7 i204_6 rfl rfl rfl ?_
      refine X.lload 9 i204_7 rfl rfl rfl ?_
      refine X.lcmp 10 i204_9 rfl rfl (fun z777 hz777 => ?_)
      refine X.ifgt 17 13 i204_10 rfl rfl rfl (fun h778 => ?_) (fun h778 => (by exfalso; omega))
      have h778c : a1 > 13 := by omega
      clear h778 hz777
      refine X.cut [] i204_17 rfl ?_
      refine X.iconst 18 i204_17 rfl rfl (by decide) ?_
      refine X.retz i204_18 rfl t204 (by omega) ?_
      show X (EE s) d 280 363 [(0, zr 4 44), (1, zi a1), (2, zi a2)] [zi 0] m503 _
      refine X.ifeq 378 366 i280_363 rfl rfl rfl (fun h779 => ?_) (fun h779 => (by exfalso; omega))
      refine X.cut [] i280_378 rfl ?_
      refine X.iconst 379 i280_378 rfl rfl (by decide) ?_
      refine X.retz i280_379 rfl t280 (by omega) ?_
      exact hQ 0 m503 (by first | trivial | omega) (hJ504.up (by omega)) (by first | omega | (have hc := cBi_0 (a := a1) (b := a2) (by unfold cB; omega); omega))
    by_cases h780 : a1 = 20
    · refine X.tsIn 309 20 i280_10 rfl (by omega) rfl rfl ?_
      refine X.iload_n 310 i280_309 rfl rfl rfl ?_
      refine X.i2l 311 i280_310 rfl rfl ?_
      refine X.lconst (y := 0) 312 i280_311 rfl rfl rfl ?_
      refine X.iload_n 313 i280_312 rfl rfl rfl ?_
      refine X.bipush 315 i280_313 rfl rfl (by decide) ?_
      refine X.icmpne 324 318 i280_315 rfl rfl rfl (fun h781 => ?_) (fun h781 => (by exfalso; omega))
      refine X.ldc2 327 i280_324 rfl rfl (by decide) ?_
      refine X.calls 330 [zl a2, zl 0, zl 100] [] [(0, zl a2), (2, zl 0), (4, zl 100)] i280_327 (by decide) rfl rfl (by omega) rfl rfl t204 (Nat.le_of_ble_eq_true rfl) (Nat.le_of_ble_eq_true rfl) rfl ?_
      refine X.lload_n 1 i204_0 rfl rfl rfl ?_
      refine X.lload_n 2 i204_1 rfl rfl rfl ?_
      refine X.lcmp 3 i204_2 rfl rfl (fun z782 hz782 => ?_)
      refine X.iflt 17 6 i204_3 rfl rfl rfl (fun h783 => ?_) (fun h783 => ?_)
      · have h783c : a2 < 0 := by omega
        clear h783 hz782
        refine X.cut [] i204_17 rfl ?_
        refine X.iconst 18 i204_17 rfl rfl (by decide) ?_
        refine X.retz i204_18 rfl t204 (by omega) ?_
        show X (EE s) d 280 330 [(0, zr 4 44), (1, zi a1), (2, zi a2)] [zi 0] m503 _
        refine X.ifne 335 333 i280_330 rfl rfl rfl (fun h784 => (by exfalso; omega)) (fun h784 => ?_)
        refine X.iconst 334 i280_333 rfl rfl (by decide) ?_
        refine X.retz i280_334 rfl t280 (by omega) ?_
        exact hQ 0 m503 (by first | trivial | omega) (hJ504.up (by omega)) (by first | omega | (have hc := cBi_0 (a := a1) (b := a2) (by unfold cB; omega); omega))
      · have h783c : a2 ≥ 0 := by omega
        clear h783 hz782
        refine X.lload_n 7 i204_6 rfl rfl rfl ?_
        refine X.lload 9 i204_7 rfl rfl rfl ?_
        refine X.lcmp 10 i204_9 rfl rfl (fun z785 hz785 => ?_)
        refine X.ifgt 17 13 i204_10 rfl rfl rfl (fun h786 => ?_) (fun h786 => ?_)
        · have h786c : a2 > 100 := by omega
          clear h786 hz785
          refine X.cut [] i204_17 rfl ?_
          refine X.iconst 18 i204_17 rfl rfl (by decide) ?_
          refine X.retz i204_18 rfl t204 (by omega) ?_
          show X (EE s) d 280 330 [(0, zr 4 44), (1, zi a1), (2, zi a2)] [zi 0] m503 _
          refine X.ifne 335 333 i280_330 rfl rfl rfl (fun h787 => (by exfalso; omega)) (fun h787 => ?_)
          refine X.iconst 334 i280_333 rfl rfl (by decide) ?_
          refine X.retz i280_334 rfl t280 (by omega) ?_
          exact hQ 0 m503 (by first | trivial | omega) (hJ504.up (by omega)) (by first | omega | (have hc := cBi_0 (a := a1) (b := a2) (by unfold cB; omega); omega))
        · have h786c : a2 ≤ 100 := by omega
          clear h786 hz785
          refine X.iconst 14 i204_13 rfl rfl (by decide) ?_
          refine X.goto 18 i204_14 rfl rfl ?_
          refine X.cut [] i204_18 rfl ?_
          refine X.retz i204_18 rfl t204 (by omega) ?_
          show X (EE s) d 280 330 [(0, zr 4 44), (1, zi a1), (2, zi a2)] [zi 1] m503 _
          refine X.ifne 335 333 i280_330 rfl rfl rfl (fun h788 => ?_) (fun h788 => (by exfalso; omega))
          refine X.aload_n 336 i280_335 rfl rfl rfl ?_
          refine X.getF 339 i280_336 rfl rfl (by decide) rfl rfl ?_
          refine X.sipush 342 i280_339 rfl rfl (by decide) ?_
          refine X.iload_n 343 i280_342 rfl rfl rfl ?_
          refine X.iadd 344 i280_343 rfl rfl (by omega) ?_
          refine X.bipush 346 i280_344 rfl rfl (by decide) ?_
          refine X.isub 347 i280_346 rfl rfl (by omega) ?_
          refine X.iload_n 348 i280_347 rfl rfl rfl ?_
          refine X.i2l 349 i280_348 rfl rfl ?_
          refine X.last' 350 i280_349 rfl rfl (by decide) rfl (by omega) (fun hrm789 m789 hm789 => ?_)
          have hJ790 := w45_788 hJ504 hm789 (by omega) hrm789
          have wt791 : m789 4 45 1614 = (m 4 45 1614) := Eq.trans (by rw [hm789]; exact z_upd_i _ _ _ _ (by omega)) wt505
          have wt792 : m789 4 45 13 = (m 4 45 13) := Eq.trans (by rw [hm789]; exact z_upd_i _ _ _ _ (by omega)) wt506
          clear wt506
          refine X.iconst 351 i280_350 rfl rfl (by decide) ?_
          refine X.retz i280_351 rfl t280 (by omega) ?_
          exact hQ 1 m789 (by first | trivial | omega) (hJ790.up (by omega)) (by (have hc := cBi_1 (a := a1) (b := a2) (by unfold cB; first | exact (.inl ⟨by omega, by omega, by omega⟩) | exact (.inr (.inl ⟨by omega, by omega, by omega⟩)) | exact (.inr (.inr (.inl ⟨by omega, by omega, by omega⟩))) | exact (.inr (.inr (.inr (.inl ⟨by omega, by omega, by omega⟩)))) | exact (.inr (.inr (.inr (.inr (.inl ⟨by omega, by omega⟩))))) | exact (.inr (.inr (.inr (.inr (.inr (.inl ⟨by omega, by omega, by omega⟩)))))) | exact (.inr (.inr (.inr (.inr (.inr (.inr (.inl ⟨by omega, by omega, by omega, by omega⟩))))))) | exact (.inr (.inr (.inr (.inr (.inr (.inr (.inr (.inl ⟨by omega, by omega, by omega⟩)))))))) | exact (.inr (.inr (.inr (.inr (.inr (.inr (.inr (.inr (.inl ⟨by omega, by omega, by omega⟩))))))))) | exact (.inr (.inr (.inr (.inr (.inr (.inr (.inr (.inr (.inr ⟨by omega, by omega, by omega⟩)))))))))); omega))
    by_cases h793 : a1 = 21
    · refine X.tsIn 309 21 i280_10 rfl (by omega) rfl rfl ?_
      refine X.iload_n 310 i280_309 rfl rfl rfl ?_
      refine X.i2l 311 i280_310 rfl rfl ?_
      refine X.lconst (y := 0) 312 i280_311 rfl rfl rfl ?_
      refine X.iload_n 313 i280_312 rfl rfl rfl ?_
      refine X.bipush 315 i280_313 rfl rfl (by decide) ?_
      refine X.icmpne 324 318 i280_315 rfl rfl rfl (fun h794 => (by exfalso; omega)) (fun h794 => ?_)
      refine X.ldc2 321 i280_318 rfl rfl (by decide) ?_
      refine X.goto 327 i280_321 rfl rfl ?_
      refine X.calls 330 [zl a2, zl 0, zl 200] [] [(0, zl a2), (2, zl 0), (4, zl 200)] i280_327 (by decide) rfl rfl (by omega) rfl rfl t204 (Nat.le_of_ble_eq_true rfl) (Nat.le_of_ble_eq_true rfl) rfl ?_
      refine X.lload_n 1 i204_0 rfl rfl rfl ?_
      refine X.lload_n 2 i204_1 rfl rfl rfl ?_
      refine X.lcmp 3 i204_2 rfl rfl (fun z795 hz795 => ?_)
      refine X.iflt 17 6 i204_3 rfl rfl rfl (fun h796 => ?_) (fun h796 => ?_)
      · have h796c : a2 < 0 := by omega
        clear h796 hz795
        refine X.cut [] i204_17 rfl ?_
        refine X.iconst 18 i204_17 rfl rfl (by decide) ?_
        refine X.retz i204_18 rfl t204 (by omega) ?_
        show X (EE s) d 280 330 [(0, zr 4 44), (1, zi a1), (2, zi a2)] [zi 0] m503 _
        refine X.ifne 335 333 i280_330 rfl rfl rfl (fun h797 => (by exfalso; omega)) (fun h797 => ?_)
        refine X.iconst 334 i280_333 rfl rfl (by decide) ?_
        refine X.retz i280_334 rfl t280 (by omega) ?_
        exact hQ 0 m503 (by first | trivial | omega) (hJ504.up (by omega)) (by first | omega | (have hc := cBi_0 (a := a1) (b := a2) (by unfold cB; omega); omega))
      · have h796c : a2 ≥ 0 := by omega
        clear h796 hz795
        refine X.lload_n 7 i204_6 rfl rfl rfl ?_
        refine X.lload 9 i204_7 rfl rfl rfl ?_
        refine X.lcmp 10 i204_9 rfl rfl (fun z798 hz798 => ?_)
        refine X.ifgt 17 13 i204_10 rfl rfl rfl (fun h799 => ?_) (fun h799 => ?_)
        · have h799c : a2 > 200 := by omega
          clear h799 hz798
          refine X.cut [] i204_17 rfl ?_
          refine X.iconst 18 i204_17 rfl rfl (by decide) ?_
          refine X.retz i204_18 rfl t204 (by omega) ?_
          show X (EE s) d 280 330 [(0, zr 4 44), (1, zi a1), (2, zi a2)] [zi 0] m503 _
          refine X.ifne 335 333 i280_330 rfl rfl rfl (fun h800 => (by exfalso; omega)) (fun h800 => ?_)
          refine X.iconst 334 i280_333 rfl rfl (by decide) ?_
          refine X.retz i280_334 rfl t280 (by omega) ?_
          exact hQ 0 m503 (by first | trivial | omega) (hJ504.up (by omega)) (by first | omega | (have hc := cBi_0 (a := a1) (b := a2) (by unfold cB; omega); omega))
        · have h799c : a2 ≤ 200 := by omega
          clear h799 hz798
          refine X.iconst 14 i204_13 rfl rfl (by decide) ?_
          refine X.goto 18 i204_14 rfl rfl ?_
          refine X.cut [] i204_18 rfl ?_
          refine X.retz i204_18 rfl t204 (by omega) ?_
          show X (EE s) d 280 330 [(0, zr 4 44), (1, zi a1), (2, zi a2)] [zi 1] m503 _
          refine X.ifne 335 333 i280_330 rfl rfl rfl (fun h801 => ?_) (fun h801 => (by exfalso; omega))
          refine X.aload_n 336 i280_335 rfl rfl rfl ?_
          refine X.getF 339 i280_336 rfl rfl (by decide) rfl rfl ?_
          refine X.sipush 342 i280_339 rfl rfl (by decide) ?_
          refine X.iload_n 343 i280_342 rfl rfl rfl ?_
          refine X.iadd 344 i280_343 rfl rfl (by omega) ?_
          refine X.bipush 346 i280_344 rfl rfl (by decide) ?_
          refine X.isub 347 i280_346 rfl rfl (by omega) ?_
          refine X.iload_n 348 i280_347 rfl rfl rfl ?_
          refine X.i2l 349 i280_348 rfl rfl ?_
          refine X.last' 350 i280_349 rfl rfl (by decide) rfl (by omega) (fun hrm802 m802 hm802 => ?_)
          have hJ803 := w45_788 hJ504 hm802 (by omega) hrm802
          have wt804 : m802 4 45 1614 = (m 4 45 1614) := Eq.trans (by rw [hm802]; exact z_upd_i _ _ _ _ (by omega)) wt505
          have wt805 : m802 4 45 13 = (m 4 45 13) := Eq.trans (by rw [hm802]; exact z_upd_i _ _ _ _ (by omega)) wt506
          clear wt506
          refine X.iconst 351 i280_350 rfl rfl (by decide) ?_
          refine X.retz i280_351 rfl t280 (by omega) ?_
          exact hQ 1 m802 (by first | trivial | omega) (hJ803.up (by omega)) (by (have hc := cBi_1 (a := a1) (b := a2) (by unfold cB; first | exact (.inl ⟨by omega, by omega, by omega⟩) | exact (.inr (.inl ⟨by omega, by omega, by omega⟩)) | exact (.inr (.inr (.inl ⟨by omega, by omega, by omega⟩))) | exact (.inr (.inr (.inr (.inl ⟨by omega, by omega, by omega⟩)))) | exact (.inr (.inr (.inr (.inr (.inl ⟨by omega, by omega⟩))))) | exact (.inr (.inr (.inr (.inr (.inr (.inl ⟨by omega, by omega, by omega⟩)))))) | exact (.inr (.inr (.inr (.inr (.inr (.inr (.inl ⟨by omega, by omega, by omega, by omega⟩))))))) | exact (.inr (.inr (.inr (.inr (.inr (.inr (.inr (.inl ⟨by omega, by omega, by omega⟩)))))))) | exact (.inr (.inr (.inr (.inr (.inr (.inr (.inr (.inr (.inl ⟨by omega, by omega, by omega⟩))))))))) | exact (.inr (.inr (.inr (.inr (.inr (.inr (.inr (.inr (.inr ⟨by omega, by omega, by omega⟩)))))))))); omega))
    by_cases h806 : a1 = 22
    · refine X.tsIn 309 22 i280_10 rfl (by omega) rfl rfl ?_
      refine X.iload_n 310 i280_309 rfl rfl rfl ?_
      refine X.i2l 311 i280_310 rfl rfl ?_
      refine X.lconst (y := 0) 312 i280_311 rfl rfl rfl ?_
      refine X.iload_n 313 i280_312 rfl rfl rfl ?_
      refine X.bipush 315 i280_313 rfl rfl (by decide) ?_
      refine X.icmpne 324 318 i280_315 rfl rfl rfl (fun h807 => ?_) (fun h807 => (by exfalso; omega))
      refine X.ldc2 327 i280_324 rfl rfl (by decide) ?_
      refine X.calls 330 [zl a2, zl 0, zl 100] [] [(0, zl a2), (2, zl 0), (4, zl 100)] i280_327 (by decide) rfl rfl (by omega) rfl rfl t204 (Nat.le_of_ble_eq_true rfl) (Nat.le_of_ble_eq_true rfl) rfl ?_
      refine X.lload_n 1 i204_0 rfl rfl rfl ?_
      refine X.lload_n 2 i204_1 rfl rfl rfl ?_
      refine X.lcmp 3 i204_2 rfl rfl (fun z808 hz808 => ?_)
      refine X.iflt 17 6 i204_3 rfl rfl rfl (fun h809 => ?_) (fun h809 => ?_)
      · have h809c : a2 < 0 := by omega
        clear h809 hz808
        refine X.cut [] i204_17 rfl ?_
        refine X.iconst 18 i204_17 rfl rfl (by decide) ?_
        refine X.retz i204_18 rfl t204 (by omega) ?_
        show X (EE s) d 280 330 [(0, zr 4 44), (1, zi a1), (2, zi a2)] [zi 0] m503 _
        refine X.ifne 335 333 i280_330 rfl rfl rfl (fun h810 => (by exfalso; omega)) (fun h810 => ?_)
        refine X.iconst 334 i280_333 rfl rfl (by decide) ?_
        refine X.retz i280_334 rfl t280 (by omega) ?_
        exact hQ 0 m503 (by first | trivial | omega) (hJ504.up (by omega)) (by first | omega | (have hc := cBi_0 (a := a1) (b := a2) (by unfold cB; omega); omega))
      · have h809c : a2 ≥ 0 := by omega
        clear h809 hz808
        refine X.lload_n 7 i204_6 rfl rfl rfl ?_
        refine X.lload 9 i204_7 rfl rfl rfl ?_
        refine X.lcmp 10 i204_9 rfl rfl (fun z811 hz811 => ?_)
        refine X.ifgt 17 13 i204_10 rfl rfl rfl (fun h812 => ?_) (fun h812 => ?_)
        · have h812c : a2 > 100 := by omega
          clear h812 hz811
          refine X.cut [] i204_17 rfl ?_
          refine X.iconst 18 i204_17 rfl rfl (by decide) ?_
          refine X.retz i204_18 rfl t204 (by omega) ?_
          show X (EE s) d 280 330 [(0, zr 4 44), (1, zi a1), (2, zi a2)] [zi 0] m503 _
          refine X.ifne 335 333 i280_330 rfl rfl rfl (fun h813 => (by exfalso; omega)) (fun h813 => ?_)
          refine X.iconst 334 i280_333 rfl rfl (by decide) ?_
          refine X.retz i280_334 rfl t280 (by omega) ?_
          exact hQ 0 m503 (by first | trivial | omega) (hJ504.up (by omega)) (by first | omega | (have hc := cBi_0 (a := a1) (b := a2) (by unfold cB; omega); omega))
        · have h812c : a2 ≤ 100 := by omega
          clear h812 hz811
          refine X.iconst 14 i204_13 rfl rfl (by decide) ?_
          refine X.goto 18 i204_14 rfl rfl ?_
          refine X.cut [] i204_18 rfl ?_
          refine X.retz i204_18 rfl t204 (by omega) ?_
          show X (EE s) d 280 330 [(0, zr 4 44), (1, zi a1), (2, zi a2)] [zi 1] m503 _
          refine X.ifne 335 333 i280_330 rfl rfl rfl (fun h814 => ?_) (fun h814 => (by exfalso; omega))
          refine X.aload_n 336 i280_335 rfl rfl rfl ?_
          refine X.getF 339 i280_336 rfl rfl (by decide) rfl rfl ?_
          refine X.sipush 342 i280_339 rfl rfl (by decide) ?_
          refine X.iload_n 343 i280_342 rfl rfl rfl ?_
          refine X.iadd 344 i280_343 rfl rfl (by omega) ?_
          refine X.bipush 346 i280_344 rfl rfl (by decide) ?_
          refine X.isub 347 i280_346 rfl rfl (by omega) ?_
          refine X.iload_n 348 i280_347 rfl rfl rfl ?_
          refine X.i2l 349 i280_348 rfl rfl ?_
          refine X.last' 350 i280_349 rfl rfl (by decide) rfl (by omega) (fun hrm815 m815 hm815 => ?_)
          have hJ816 := w45_788 hJ504 hm815 (by omega) hrm815
          have wt817 : m815 4 45 1614 = (m 4 45 1614) := Eq.trans (by rw [hm815]; exact z_upd_i _ _ _ _ (by omega)) wt505
          have wt818 : m815 4 45 13 = (m 4 45 13) := Eq.trans (by rw [hm815]; exact z_upd_i _ _ _ _ (by omega)) wt506
          clear wt506
          refine X.iconst 351 i280_350 rfl rfl (by decide) ?_
          refine X.retz i280_351 rfl t280 (by omega) ?_
          exact hQ 1 m815 (by first | trivial | omega) (hJ816.up (by omega)) (by (have hc := cBi_1 (a := a1) (b := a2) (by unfold cB; first | exact (.inl ⟨by omega, by omega, by omega⟩) | exact (.inr (.inl ⟨by omega, by omega, by omega⟩)) | exact (.inr (.inr (.inl ⟨by omega, by omega, by omega⟩))) | exact (.inr (.inr (.inr (.inl ⟨by omega, by omega, by omega⟩)))) | exact (.inr (.inr (.inr (.inr (.inl ⟨by omega, by omega⟩))))) | exact (.inr (.inr (.inr (.inr (.inr (.inl ⟨by omega, by omega, by omega⟩)))))) | exact (.inr (.inr (.inr (.inr (.inr (.inr (.inl ⟨by omega, by omega, by omega, by omega⟩))))))) | exact (.inr (.inr (.inr (.inr (.inr (.inr (.inr (.inl ⟨by omega, by omega, by omega⟩)))))))) | exact (.inr (.inr (.inr (.inr (.inr (.inr (.inr (.inr (.inl ⟨by omega, by omega, by omega⟩))))))))) | exact (.inr (.inr (.inr (.inr (.inr (.inr (.inr (.inr (.inr ⟨by omega, by omega, by omega⟩)))))))))); omega))
    refine X.tsOut 352 i280_10 rfl (by omega) rfl ?_
    refine X.iload_n 353 i280_352 rfl rfl rfl ?_
    refine X.i2l 354 i280_353 rfl rfl ?_
    refine X.ldc2 357 i280_354 rfl rfl (by decide) ?_
    refine X.ldc2 360 i280_357 rfl rfl (by decide) ?_
    refine X.calls 363 [zl a1, zl 10, zl 13] [] [(0, zl a1), (2, zl 10), (4, zl 13)] i280_360 (by decide) rfl rfl (by omega) rfl rfl t204 (Nat.le_of_ble_eq_true rfl) (Nat.le_of_ble_eq_true rfl) rfl ?_
    refine X.lload_n 1 i204_0 rfl rfl rfl ?_
    refine X.lload_n 2 i204_1 rfl rfl rfl ?_
    refine X.lcmp 3 i204_2 rfl rfl (fun z819 hz819 => ?_)
    refine X.iflt 17 6 i204_3 rfl rfl rfl (fun h820 => ?_) (fun h820 => ?_)
    · have h820c : a1 < 10 := by omega
      clear h820 hz819
      refine X.cut [] i204_17 rfl ?_
      refine X.iconst 18 i204_17 rfl rfl (by decide) ?_
      refine X.retz i204_18 rfl t204 (by omega) ?_
      show X (EE s) d 280 363 [(0, zr 4 44), (1, zi a1), (2, zi a2)] [zi 0] m503 _
      refine X.ifeq 378 366 i280_363 rfl rfl rfl (fun h821 => ?_) (fun h821 => (by exfalso; omega))
      refine X.cut [] i280_378 rfl ?_
      refine X.iconst 379 i280_378 rfl rfl (by decide) ?_
      refine X.retz i280_379 rfl t280 (by omega) ?_
      exact hQ 0 m503 (by first | trivial | omega) (hJ504.up (by omega)) (by first | omega | (have hc := cBi_0 (a := a1) (b := a2) (by unfold cB; omega); omega))
    · have h820c : a1 ≥ 10 := by omega
      clear h820 hz819
      refine X.lload_n 7 i204_6 rfl rfl rfl ?_
      refine X.lload 9 i204_7 rfl rfl rfl ?_
      refine X.lcmp 10 i204_9 rfl rfl (fun z822 hz822 => ?_)
      refine X.ifgt 17 13 i204_10 rfl rfl rfl (fun h823 => ?_) (fun h823 => ?_)
      · have h823c : a1 > 13 := by omega
        clear h823 hz822
        refine X.cut [] i204_17 rfl ?_
        refine X.iconst 18 i204_17 rfl rfl (by decide) ?_
        refine X.retz i204_18 rfl t204 (by omega) ?_
        show X (EE s) d 280 363 [(0, zr 4 44), (1, zi a1), (2, zi a2)] [zi 0] m503 _
        refine X.ifeq 378 366 i280_363 rfl rfl rfl (fun h824 => ?_) (fun h824 => (by exfalso; omega))
        refine X.cut [] i280_378 rfl ?_
        refine X.iconst 379 i280_378 rfl rfl (by decide) ?_
        refine X.retz i280_379 rfl t280 (by omega) ?_
        exact hQ 0 m503 (by first | trivial | omega) (hJ504.up (by omega)) (by first | omega | (have hc := cBi_0 (a := a1) (b := a2) (by unfold cB; omega); omega))
      · have h823c : a1 ≤ 13 := by omega
        clear h823 hz822
        refine X.iconst 14 i204_13 rfl rfl (by decide) ?_
        refine X.goto 18 i204_14 rfl rfl ?_
        refine X.cut [] i204_18 rfl ?_
        refine X.retz i204_18 rfl t204 (by omega) ?_
        show X (EE s) d 280 363 [(0, zr 4 44), (1, zi a1), (2, zi a2)] [zi 1] m503 _
        refine X.ifeq 378 366 i280_363 rfl rfl rfl (fun h825 => (by exfalso; omega)) (fun h825 => ?_)
        refine X.iload_n 367 i280_366 rfl rfl rfl ?_
        refine X.i2l 368 i280_367 rfl rfl ?_
        refine X.lconst (y := 0) 369 i280_368 rfl rfl rfl ?_
        refine X.ldc2 372 i280_369 rfl rfl (by decide) ?_
        refine X.calls 375 [zl a2, zl 0, zl 100] [] [(0, zl a2), (2, zl 0), (4, zl 100)] i280_372 (by decide) rfl rfl (by omega) rfl rfl t204 (Nat.le_of_ble_eq_true rfl) (Nat.le_of_ble_eq_true rfl) rfl ?_
        refine X.lload_n 1 i204_0 rfl rfl rfl ?_
        refine X.lload_n 2 i204_1 rfl rfl rfl ?_
        refine X.lcmp 3 i204_2 rfl rfl (fun z826 hz826 => ?_)
        refine X.iflt 17 6 i204_3 rfl rfl rfl (fun h827 => ?_) (fun h827 => ?_)
        · have h827c : a2 < 0 := by omega
          clear h827 hz826
          refine X.cut [] i204_17 rfl ?_
          refine X.iconst 18 i204_17 rfl rfl (by decide) ?_
          refine X.retz i204_18 rfl t204 (by omega) ?_
          show X (EE s) d 280 375 [(0, zr 4 44), (1, zi a1), (2, zi a2)] [zi 0] m503 _
          refine X.ifne 380 378 i280_375 rfl rfl rfl (fun h828 => (by exfalso; omega)) (fun h828 => ?_)
          refine X.cut [] i280_378 rfl ?_
          refine X.iconst 379 i280_378 rfl rfl (by decide) ?_
          refine X.retz i280_379 rfl t280 (by omega) ?_
          exact hQ 0 m503 (by first | trivial | omega) (hJ504.up (by omega)) (by first | omega | (have hc := cBi_0 (a := a1) (b := a2) (by unfold cB; omega); omega))
        · have h827c : a2 ≥ 0 := by omega
          clear h827 hz826
          refine X.lload_n 7 i204_6 rfl rfl rfl ?_
          refine X.lload 9 i204_7 rfl rfl rfl ?_
          refine X.lcmp 10 i204_9 rfl rfl (fun z829 hz829 => ?_)
          refine X.ifgt 17 13 i204_10 rfl rfl rfl (fun h830 => ?_) (fun h830 => ?_)
          · have h830c : a2 > 100 := by omega
            clear h830 hz829
            refine X.cut [] i204_17 rfl ?_
            refine X.iconst 18 i204_17 rfl rfl (by decide) ?_
            refine X.retz i204_18 rfl t204 (by omega) ?_
            show X (EE s) d 280 375 [(0, zr 4 44), (1, zi a1), (2, zi a2)] [zi 0] m503 _
            refine X.ifne 380 378 i280_375 rfl rfl rfl (fun h831 => (by exfalso; omega)) (fun h831 => ?_)
            refine X.cut [] i280_378 rfl ?_
            refine X.iconst 379 i280_378 rfl rfl (by decide) ?_
            refine X.retz i280_379 rfl t280 (by omega) ?_
            exact hQ 0 m503 (by first | trivial | omega) (hJ504.up (by omega)) (by first | omega | (have hc := cBi_0 (a := a1) (b := a2) (by unfold cB; omega); omega))
          · have h830c : a2 ≤ 100 := by omega
            clear h830 hz829
            refine X.iconst 14 i204_13 rfl rfl (by decide) ?_
            refine X.goto 18 i204_14 rfl rfl ?_
            refine X.cut [] i204_18 rfl ?_
            refine X.retz i204_18 rfl t204 (by omega) ?_
            show X (EE s) d 280 375 [(0, zr 4 44), (1, zi a1), (2, zi a2)] [zi 1] m503 _
            refine X.ifne 380 378 i280_375 rfl rfl rfl (fun h832 => ?_) (fun h832 => (by exfalso; omega))
            refine X.aload_n 381 i280_380 rfl rfl rfl ?_
            refine X.getF 384 i280_381 rfl rfl (by decide) rfl rfl ?_
            refine X.bipush 386 i280_384 rfl rfl (by decide) ?_
            refine X.iload_n 387 i280_386 rfl rfl rfl ?_
            refine X.iadd 388 i280_387 rfl rfl (by omega) ?_
            refine X.bipush 390 i280_388 rfl rfl (by decide) ?_
            refine X.isub 391 i280_390 rfl rfl (by omega) ?_
            refine X.iload_n 392 i280_391 rfl rfl rfl ?_
            refine X.i2l 393 i280_392 rfl rfl ?_
            refine X.last' 394 i280_393 rfl rfl (by decide) rfl (by omega) (fun hrm833 m833 hm833 => ?_)
            have hJ834 := w45_19 hJ504 hm833 (by omega) hrm833
            have wt835 : m833 4 45 1614 = (m 4 45 1614) := Eq.trans (by rw [hm833]; exact z_upd_i _ _ _ _ (by omega)) wt505
            have wt836 : m833 4 45 13 = (m 4 45 13) := Eq.trans (by rw [hm833]; exact z_upd_i _ _ _ _ (by omega)) wt506
            clear wt506
            refine X.iconst 395 i280_394 rfl rfl (by decide) ?_
            refine X.retz i280_395 rfl t280 (by omega) ?_
            exact hQ 1 m833 (by first | trivial | omega) (hJ834.up (by omega)) (by (have hc := cBi_1 (a := a1) (b := a2) (by unfold cB; first | exact (.inl ⟨by omega, by omega, by omega⟩) | exact (.inr (.inl ⟨by omega, by omega, by omega⟩)) | exact (.inr (.inr (.inl ⟨by omega, by omega, by omega⟩))) | exact (.inr (.inr (.inr (.inl ⟨by omega, by omega, by omega⟩)))) | exact (.inr (.inr (.inr (.inr (.inl ⟨by omega, by omega⟩))))) | exact (.inr (.inr (.inr (.inr (.inr (.inl ⟨by omega, by omega, by omega⟩)))))) | exact (.inr (.inr (.inr (.inr (.inr (.inr (.inl ⟨by omega, by omega, by omega, by omega⟩))))))) | exact (.inr (.inr (.inr (.inr (.inr (.inr (.inr (.inl ⟨by omega, by omega, by omega⟩)))))))) | exact (.inr (.inr (.inr (.inr (.inr (.inr (.inr (.inr (.inl ⟨by omega, by omega, by omega⟩))))))))) | exact (.inr (.inr (.inr (.inr (.inr (.inr (.inr (.inr (.inr ⟨by omega, by omega, by omega⟩)))))))))); omega))
  · have h509c : (m503 4 45 1614) = 1 := by omega
    clear h509 hz508
    refine X.iconst 33 i203_32 rfl rfl (by decide) ?_
    refine X.goto 37 i203_33 rfl rfl ?_
    refine X.cut [] i203_37 rfl ?_
    refine X.retz i203_37 rfl t203 (by omega) ?_
    show X (EE s) d 280 4 [(0, zr 4 44), (1, zi a1), (2, zi a2)] [zi 1] m503 _
    refine X.ifeq 9 7 i280_4 rfl rfl rfl (fun h837 => (by exfalso; omega)) (fun h837 => ?_)
    refine X.iconst 8 i280_7 rfl rfl (by decide) ?_
    refine X.retz i280_8 rfl t280 (by omega) ?_
    exact hQ 0 m503 (by first | trivial | omega) (hJ504.up (by omega)) (by first | omega | (have hc := cBi_0 (a := a1) (b := a2) (by unfold cB; omega); omega))
-- WorkMeter$Calendar.hasSwitch
theorem c82_1 {s : Nat × (Nat → Int32)} {S : zS} {m0 m : zM} {B : Int} {d : Nat} {Q : Option zV → zM → Prop} (g0 : Nat) (a1 a2 : Int) (hd : 14 ≤ d) (hJ : J S m0 B m) (hB : B + 0 ≤ 1000000000) (ha1 : 0 ≤ a1 ∧ a1 ≤ 7) (ha2 : 0 ≤ a2 ∧ a2 ≤ 86399) (hQ : ∀ (v : Int), (0 ≤ v ∧ v ≤ 1) → (v = 1 → zsb m g0 a1 a2 < m g0 12 a1) → Q (some (zi v)) m) : X (EE s) d 82 0 [(0, zr g0 11), (1, zi a1), (2, zi a2)] [] m Q := by
  refine X.iload_n 1 i82_0 rfl rfl rfl ?_
  refine X.bipush 3 i82_1 rfl rfl (by decide) ?_
  refine X.imul 4 i82_3 rfl rfl (by omega) ?_
  refine X.aload_n 5 i82_4 rfl rfl rfl ?_
  refine X.iload_n 6 i82_5 rfl rfl rfl ?_
  refine X.iload_n 7 i82_6 rfl rfl rfl ?_
  refine X.callv 10 [zi a1, zi a2] [zi (a1 * 6)] [(0, zr g0 11), (1, zi a1), (2, zi a2)] i82_7 rfl (by decide) rfl rfl (by omega) rfl rfl (by decide) rfl t32 (Nat.le_of_ble_eq_true rfl) (Nat.le_of_ble_eq_true rfl) rfl ?_
  refine c_sb (B := B) g0 a1 a2 (by omega) (hJ.up (by omega)) (by omega) (by omega) (fun v503 hv503 hqv5030 hqv5031 hqv5032 => ?_)
  show X (EE s) d 82 10 [(0, zr g0 11), (1, zi a1), (2, zi a2)] [zi v503, zi (a1 * 6)] m _
  refine X.iadd 11 i82_10 rfl rfl (by omega) ?_
  refine X.istore_n 12 [(0, zr g0 11), (1, zi a1), (2, zi a2), (3, zi ((a1 * 6) + v503))] i82_11 rfl rfl rfl ?_
  refine X.iload_n 13 i82_12 rfl rfl rfl ?_
  refine X.bipush 15 i82_13 rfl rfl (by decide) ?_
  refine X.imul 16 i82_15 rfl rfl (by omega) ?_
  refine X.aload_n 17 i82_16 rfl rfl rfl ?_
  refine X.getR 20 i82_17 rfl rfl (by decide) rfl rfl ?_
  refine X.iload_n 21 i82_20 rfl rfl rfl ?_
  refine X.iald 22 i82_21 rfl rfl (by decide) rfl (by omega) ?_
  have h504 := r12_0 hJ g0 (i := a1) (by omega)
  refine X.iadd 23 i82_22 rfl rfl (by omega) ?_
  refine X.istore 25 [(0, zr g0 11), (1, zi a1), (2, zi a2), (3, zi ((a1 * 6) + v503)), (4, zi ((a1 * 6) + (m g0 12 a1)))] i82_23 rfl rfl rfl ?_
  refine X.iload_n 26 i82_25 rfl rfl rfl ?_
  refine X.iload 28 i82_26 rfl rfl rfl ?_
  refine X.icmpge 45 31 i82_28 rfl rfl rfl (fun h505 => ?_) (fun h505 => ?_)
  · refine X.cut [] i82_45 rfl ?_
    refine X.iconst 46 i82_45 rfl rfl (by decide) ?_
    refine X.retz i82_46 rfl t82 (by omega) ?_
    exact hQ 0 (by first | trivial | omega) (by omega)
  · refine X.aload_n 32 i82_31 rfl rfl rfl ?_
    refine X.getR 35 i82_32 rfl rfl (by decide) rfl rfl ?_
    refine X.iload_n 36 i82_35 rfl rfl rfl ?_
    refine X.iald 37 i82_36 rfl rfl (by decide) rfl (by omega) ?_
    have h506 := r13_0 hJ g0 (i := ((a1 * 6) + v503)) (by omega)
    refine X.iload_n 38 i82_37 rfl rfl rfl ?_
    refine X.icmpne 45 41 i82_38 rfl rfl rfl (fun h507 => ?_) (fun h507 => ?_)
    · refine X.cut [] i82_45 rfl ?_
      refine X.iconst 46 i82_45 rfl rfl (by decide) ?_
      refine X.retz i82_46 rfl t82 (by omega) ?_
      exact hQ 0 (by first | trivial | omega) (by omega)
    · refine X.iconst 42 i82_41 rfl rfl (by decide) ?_
      refine X.goto 46 i82_42 rfl rfl ?_
      refine X.cut [] i82_46 rfl ?_
      refine X.retz i82_46 rfl t82 (by omega) ?_
      exact hQ 1 (by first | trivial | omega) (by omega)
theorem l81_65_1 {s : Nat × (Nat → Int32)} {S : zS} {m0 : zM} {d : Nat} {Q : Option zV → zM → Prop} (g0 : Nat) (y1 y2 y3 y5 : Int) (BE : Int) (hE : BE ≤ 1000000000) (hd : 13 ≤ d) (hy1 : 0 ≤ y1 ∧ y1 ≤ 7) (hy2 : 0 ≤ y2 ∧ y2 ≤ 86399) (hy3 : 0 ≤ y3 ∧ y3 ≤ 3) (hy5 : 0 ≤ y5 ∧ y5 ≤ 48)
    (K110 : ∀ (m' : zM) (B' : Int), J S m0 B' m' → B' ≤ BE → (m' g0 12 y1 ≤ 5) → X (EE s) d 81 110 [(0, zr g0 11), (1, zi y1), (2, zi y2), (3, zi y3), (5, zi y5)] [] m' Q) :
    ∀ (n : Nat) (y6 : Int) (m : zM) (B : Int), J S m0 B m → B + 0 * (n : Int) ≤ BE → (0 ≤ y6 ∧ y6 ≤ 47) → (m g0 12 y1 ≤ 5) → y6 - 0 < (n : Int) → X (EE s) d 81 65 [(0, zr g0 11), (1, zi y1), (2, zi y2), (3, zi y3), (5, zi y5), (6, zi y6)] [] m Q := by
  intro n
  induction n with
  | zero =>
    intro y6 m B hJ hB  hy6 hr0 hn
    exfalso
    omega
  | succ n ih =>
    intro y6 m B hJ hB  hy6 hr0 hn
    refine X.iload 67 i81_65 rfl rfl rfl ?_
    refine X.iload 69 i81_67 rfl rfl rfl ?_
    refine X.icmple 110 72 i81_69 rfl rfl rfl (fun h508 => ?_) (fun h508 => ?_)
    · refine X.cut [(0, zr g0 11), (1, zi y1), (2, zi y2), (3, zi y3), (5, zi y5)] i81_110 rfl ?_
      exact K110  m (B) (hJ.up (by omega)) (by omega)  (by omega)
    · refine X.aload_n 73 i81_72 rfl rfl rfl ?_
      refine X.getR 76 i81_73 rfl rfl (by decide) rfl rfl ?_
      refine X.iload 78 i81_76 rfl rfl rfl ?_
      refine X.aload_n 79 i81_78 rfl rfl rfl ?_
      refine X.getR 82 i81_79 rfl rfl (by decide) rfl rfl ?_
      refine X.iload 84 i81_82 rfl rfl rfl ?_
      refine X.iconst 85 i81_84 rfl rfl (by decide) ?_
      refine X.isub 86 i81_85 rfl rfl (by omega) ?_
      refine X.iald 87 i81_86 rfl rfl (by decide) rfl (by omega) ?_
      have h509 := r13_0 hJ g0 (i := (y6 - 1)) (by omega)
      refine X.iast' 88 i81_87 rfl rfl (by decide) rfl (by omega) (fun hrm510 m510 hm510 => ?_)
      have hJ511 := w13_0 hJ hm510 (by omega) (by omega)
      have wtm510_0 : m510 g0 12 y1 = m g0 12 y1 := by rw [hm510]; exact z_upd_o _ _ rfl
      refine X.aload_n 89 i81_88 rfl rfl rfl ?_
      refine X.getR 92 i81_89 rfl rfl (by decide) rfl rfl ?_
      refine X.iload 94 i81_92 rfl rfl rfl ?_
      refine X.aload_n 95 i81_94 rfl rfl rfl ?_
      refine X.getR 98 i81_95 rfl rfl (by decide) rfl rfl ?_
      refine X.iload 100 i81_98 rfl rfl rfl ?_
      refine X.iconst 101 i81_100 rfl rfl (by decide) ?_
      refine X.isub 102 i81_101 rfl rfl (by omega) ?_
      refine X.iald 103 i81_102 rfl rfl (by decide) rfl (by omega) ?_
      have h512 := r14_0 hJ511 g0 (i := (y6 - 1)) (by omega)
      refine X.iast' 104 i81_103 rfl rfl (by decide) rfl (by omega) (fun hrm513 m513 hm513 => ?_)
      have hJ514 := w14_0 hJ511 hm513 (by omega) (by omega)
      have wtm513_0 : m513 g0 12 y1 = m510 g0 12 y1 := by rw [hm513]; exact z_upd_o _ _ rfl
      refine X.iinc 107 [(0, zr g0 11), (1, zi y1), (2, zi y2), (3, zi y3), (5, zi y5), (6, zi (y6 + (-1)))] i81_104 rfl rfl rfl (by omega) rfl ?_
      refine X.goto 65 i81_107 rfl rfl ?_
      exact ih (y6 + (-1)) m513 (B) (hJ514.up (by omega)) (by omega)  (by omega) (by omega) (by omega)
-- WorkMeter$Calendar.putSwitch
theorem c81_1 {s : Nat × (Nat → Int32)} {S : zS} {m0 m : zM} {B : Int} {d : Nat} {Q : Option zV → zM → Prop} (g0 : Nat) (a1 a2 a3 : Int) (hd : 15 ≤ d) (hJ : J S m0 B m) (hB : B + 0 ≤ 1000000000) (ha1 : 0 ≤ a1 ∧ a1 ≤ 7) (ha2 : 0 ≤ a2 ∧ a2 ≤ 86399) (ha3 : 0 ≤ a3 ∧ a3 ≤ 3) (hQ : ∀ (v : Int) m', ((-1) ≤ v ∧ v ≤ 6) → J S m0 (B) m' → Q (some (zi v)) m') : X (EE s) d 81 0 [(0, zr g0 11), (1, zi a1), (2, zi a2), (3, zi a3)] [] m Q := by
  have f0 := r12_0 hJ g0 (i := a1) (by omega)
  refine X.iload_n 1 i81_0 rfl rfl rfl ?_
  refine X.bipush 3 i81_1 rfl rfl (by decide) ?_
  refine X.imul 4 i81_3 rfl rfl (by omega) ?_
  refine X.istore 6 [(0, zr g0 11), (1, zi a1), (2, zi a2), (3, zi a3), (4, zi (a1 * 6))] i81_4 rfl rfl rfl ?_
  refine X.iload 8 i81_6 rfl rfl rfl ?_
  refine X.aload_n 9 i81_8 rfl rfl rfl ?_
  refine X.iload_n 10 i81_9 rfl rfl rfl ?_
  refine X.iload_n 11 i81_10 rfl rfl rfl ?_
  refine X.callv 14 [zi a1, zi a2] [zi (a1 * 6)] [(0, zr g0 11), (1, zi a1), (2, zi a2)] i81_11 rfl (by decide) rfl rfl (by omega) rfl rfl (by decide) rfl t32 (Nat.le_of_ble_eq_true rfl) (Nat.le_of_ble_eq_true rfl) rfl ?_
  refine c_sb (B := B) g0 a1 a2 (by omega) (hJ.up (by omega)) (by omega) (by omega) (fun v503 hv503 hqv5030 hqv5031 hqv5032 => ?_)
  show X (EE s) d 81 14 [(0, zr g0 11), (1, zi a1), (2, zi a2), (3, zi a3), (4, zi (a1 * 6))] [zi v503, zi (a1 * 6)] m _
  refine X.iadd 15 i81_14 rfl rfl (by omega) ?_
  refine X.istore 17 [(0, zr g0 11), (1, zi a1), (2, zi a2), (3, zi a3), (4, zi (a1 * 6)), (5, zi ((a1 * 6) + v503))] i81_15 rfl rfl rfl ?_
  refine X.aload_n 18 i81_17 rfl rfl rfl ?_
  refine X.iload_n 19 i81_18 rfl rfl rfl ?_
  refine X.iload_n 20 i81_19 rfl rfl rfl ?_
  refine X.callv 23 [zi a1, zi a2] [] [(0, zr g0 11), (1, zi a1), (2, zi a2)] i81_20 rfl (by decide) rfl rfl (by omega) rfl rfl (by decide) rfl t82 (Nat.le_of_ble_eq_true rfl) (Nat.le_of_ble_eq_true rfl) rfl ?_
  refine c82_1 (B := B) g0 a1 a2 (by omega) (hJ.up (by omega)) (by omega) (by omega) (by omega) (fun v506 hv506 hqv5060 => ?_)
  show X (EE s) d 81 23 [(0, zr g0 11), (1, zi a1), (2, zi a2), (3, zi a3), (4, zi (a1 * 6)), (5, zi ((a1 * 6) + v503))] [zi v506] m _
  refine X.ifeq 41 26 i81_23 rfl rfl rfl (fun h507 => ?_) (fun h507 => ?_)
  · refine X.aload_n 42 i81_41 rfl rfl rfl ?_
    refine X.getR 45 i81_42 rfl rfl (by decide) rfl rfl ?_
    refine X.iload_n 46 i81_45 rfl rfl rfl ?_
    refine X.iald 47 i81_46 rfl rfl (by decide) rfl (by omega) ?_
    have h508 := r12_0 hJ g0 (i := a1) (by omega)
    refine X.bipush 49 i81_47 rfl rfl (by decide) ?_
    refine X.icmplt 54 52 i81_49 rfl rfl rfl (fun h509 => ?_) (fun h509 => ?_)
    · refine X.iload 56 i81_54 rfl rfl rfl ?_
      refine X.aload_n 57 i81_56 rfl rfl rfl ?_
      refine X.getR 60 i81_57 rfl rfl (by decide) rfl rfl ?_
      refine X.iload_n 61 i81_60 rfl rfl rfl ?_
      refine X.iald 62 i81_61 rfl rfl (by decide) rfl (by omega) ?_
      refine X.iadd 63 i81_62 rfl rfl (by omega) ?_
      refine X.istore 65 [(0, zr g0 11), (1, zi a1), (2, zi a2), (3, zi a3), (4, zi (a1 * 6)), (5, zi ((a1 * 6) + v503)), (6, zi ((a1 * 6) + (m g0 12 a1)))] i81_63 rfl rfl rfl ?_
      refine X.cut [(0, zr g0 11), (1, zi a1), (2, zi a2), (3, zi a3), (5, zi ((a1 * 6) + v503)), (6, zi ((a1 * 6) + (m g0 12 a1)))] i81_65 rfl ?_
      refine l81_65_1 (s := s) (S := S) (m0 := m0) (d := d) g0 a1 a2 a3 ((a1 * 6) + v503) (BE := B + 0) (by omega) (by omega) (by omega) (by omega) (by omega) (by omega) (fun  m510 B511 hJ512 hBB511 hrlm5100 => ?_) ((((a1 * 6) + (m g0 12 a1)) - 0 : Int).toNat + 1) ((a1 * 6) + (m g0 12 a1)) m (B) (hJ.up (by omega)) (by omega)  (by omega) (by omega) (by omega)
      refine X.aload_n 111 i81_110 rfl rfl rfl ?_
      refine X.getR 114 i81_111 rfl rfl (by decide) rfl rfl ?_
      refine X.iload 116 i81_114 rfl rfl rfl ?_
      refine X.iload_n 117 i81_116 rfl rfl rfl ?_
      refine X.iast' 118 i81_117 rfl rfl (by decide) rfl (by omega) (fun hrm513 m513 hm513 => ?_)
      have hJ514 := w13_0 hJ512 hm513 (by omega) (by omega)
      have wtm513_0 : m513 g0 12 a1 = m510 g0 12 a1 := by rw [hm513]; exact z_upd_o _ _ rfl
      refine X.aload_n 119 i81_118 rfl rfl rfl ?_
      refine X.getR 122 i81_119 rfl rfl (by decide) rfl rfl ?_
      refine X.iload 124 i81_122 rfl rfl rfl ?_
      refine X.iload_n 125 i81_124 rfl rfl rfl ?_
      refine X.iast' 126 i81_125 rfl rfl (by decide) rfl (by omega) (fun hrm515 m515 hm515 => ?_)
      have hJ516 := w14_0 hJ514 hm515 (by omega) (by omega)
      have wtm515_0 : m515 g0 12 a1 = m513 g0 12 a1 := by rw [hm515]; exact z_upd_o _ _ rfl
      refine X.aload_n 127 i81_126 rfl rfl rfl ?_
      refine X.getR 130 i81_127 rfl rfl (by decide) rfl rfl ?_
      refine X.iload_n 131 i81_130 rfl rfl rfl ?_
      refine X.dup2 132 i81_131 rfl rfl ?_
      refine X.iald 133 i81_132 rfl rfl (by decide) rfl (by omega) ?_
      have h517 := r12_0 hJ516 g0 (i := a1) (by omega)
      refine X.iconst 134 i81_133 rfl rfl (by decide) ?_
      refine X.iadd 135 i81_134 rfl rfl (by omega) ?_
      refine X.iast' 136 i81_135 rfl rfl (by decide) rfl (by omega) (fun hrm518 m518 hm518 => ?_)
      have hJ519 := w12_0 hJ516 hm518 (by omega) (by omega)
      refine X.aload_n 137 i81_136 rfl rfl rfl ?_
      refine X.getR 140 i81_137 rfl rfl (by decide) rfl rfl ?_
      refine X.iload_n 141 i81_140 rfl rfl rfl ?_
      refine X.iald 142 i81_141 rfl rfl (by decide) rfl (by omega) ?_
      have h520 := r12_0 hJ519 g0 (i := a1) (by omega)
      refine X.reti i81_142 rfl t81 ?_
      exact hQ (m518 g0 12 a1) m518 (by first | trivial | omega) (hJ519.up (by omega)) 
    · refine X.iconst 53 i81_52 rfl rfl (by decide) ?_
      refine X.reti i81_53 rfl t81 ?_
      exact hQ (-1) m (by first | trivial | omega) (hJ.up (by omega)) 
  · refine X.aload_n 27 i81_26 rfl rfl rfl ?_
    refine X.getR 30 i81_27 rfl rfl (by decide) rfl rfl ?_
    refine X.iload 32 i81_30 rfl rfl rfl ?_
    refine X.iload_n 33 i81_32 rfl rfl rfl ?_
    refine X.iast' 34 i81_33 rfl rfl (by decide) rfl (by omega) (fun hrm521 m521 hm521 => ?_)
    have hJ522 := w14_0 hJ hm521 (by omega) (by omega)
    have wtm521_0 : m521 g0 12 a1 = m g0 12 a1 := by rw [hm521]; exact z_upd_o _ _ rfl
    refine X.aload_n 35 i81_34 rfl rfl rfl ?_
    refine X.getR 38 i81_35 rfl rfl (by decide) rfl rfl ?_
    refine X.iload_n 39 i81_38 rfl rfl rfl ?_
    refine X.iald 40 i81_39 rfl rfl (by decide) rfl (by omega) ?_
    have h523 := r12_0 hJ522 g0 (i := a1) (by omega)
    refine X.reti i81_40 rfl t81 ?_
    exact hQ (m521 g0 12 a1) m521 (by first | trivial | omega) (hJ522.up (by omega)) 
-- WorkMeter.table
theorem c78_1 {s : Nat × (Nat → Int32)} {S : zS} {m0 m : zM} {B : Int} {d : Nat} {Q : Option zV → zM → Prop} (a1 a2 a3 : Int) (hd : 16 ≤ d) (hJ : J S m0 B m) (hB : B + 0 ≤ 1000000000) (ha1 : (-2147483648) ≤ a1 ∧ a1 ≤ 2147483647) (ha2 : (-2147483648) ≤ a2 ∧ a2 ≤ 2147483647) (ha3 : (-2147483648) ≤ a3 ∧ a3 ≤ 2147483647) (hQ : ∀ (v : Int) m', ((-1) ≤ v ∧ v ≤ 6) → J S m0 (B) m' → Q (some (zi v)) m') : X (EE s) d 78 0 [(0, zr 4 40), (1, zi a1), (2, zi a2), (3, zi a3)] [] m Q := by
  refine X.aload_n 1 i78_0 rfl rfl rfl ?_
  refine X.getF 4 i78_1 rfl rfl (by decide) rfl rfl ?_
  refine X.getR 7 i78_4 rfl rfl (by decide) rfl rfl ?_
  refine X.callv 10 [] [] [(0, zr 0 39)] i78_7 rfl (by decide) rfl rfl (by omega) rfl rfl (by decide) rfl t17 (Nat.le_of_ble_eq_true rfl) (Nat.le_of_ble_eq_true rfl) rfl ?_
  refine X.aload_n 1 i17_0 rfl rfl rfl ?_
  refine X.getZ 4 0 i17_1 rfl rfl (by decide) rfl rfl rfl (fun h501 => ?_)
  refine X.ifeq 17 7 i17_4 rfl rfl rfl (fun h502 => ?_) (fun h502 => ?_)
  · refine X.aload_n 18 i17_17 rfl rfl rfl ?_
    refine X.getZ 21 0 i17_18 rfl rfl (by decide) rfl rfl rfl (fun h503 => ?_)
    refine X.retz i17_21 rfl t17 (by omega) ?_
    show X (EE s) d 78 10 [(0, zr 4 40), (1, zi a1), (2, zi a2), (3, zi a3)] [zi (m 0 39 0)] m _
    refine X.ifeq 15 13 i78_10 rfl rfl rfl (fun h504 => ?_) (fun h504 => ?_)
    · refine X.iload_n 16 i78_15 rfl rfl rfl ?_
      refine X.calls 19 [zi a1] [] [(0, zi a1)] i78_16 (by decide) rfl rfl (by omega) rfl rfl t79 (Nat.le_of_ble_eq_true rfl) (Nat.le_of_ble_eq_true rfl) rfl ?_
      refine X.iload_n 1 i79_0 rfl rfl rfl ?_
      refine X.iflt 14 4 i79_1 rfl rfl rfl (fun h505 => ?_) (fun h505 => ?_)
      · refine X.cut [] i79_14 rfl ?_
        refine X.iconst 15 i79_14 rfl rfl (by decide) ?_
        refine X.retz i79_15 rfl t79 (by omega) ?_
        show X (EE s) d 78 19 [(0, zr 4 40), (1, zi a1), (2, zi a2), (3, zi a3)] [zi 0] m _
        refine X.ifeq 39 22 i78_19 rfl rfl rfl (fun h506 => ?_) (fun h506 => (by exfalso; omega))
        refine X.cut [] i78_39 rfl ?_
        refine X.iconst 40 i78_39 rfl rfl (by decide) ?_
        refine X.reti i78_40 rfl t78 ?_
        exact hQ (-1) m (by first | trivial | omega) (hJ.up (by omega)) 
      · refine X.iload_n 5 i79_4 rfl rfl rfl ?_
        refine X.bipush 7 i79_5 rfl rfl (by decide) ?_
        refine X.icmpge 14 10 i79_7 rfl rfl rfl (fun h507 => ?_) (fun h507 => ?_)
        · refine X.cut [] i79_14 rfl ?_
          refine X.iconst 15 i79_14 rfl rfl (by decide) ?_
          refine X.retz i79_15 rfl t79 (by omega) ?_
          show X (EE s) d 78 19 [(0, zr 4 40), (1, zi a1), (2, zi a2), (3, zi a3)] [zi 0] m _
          refine X.ifeq 39 22 i78_19 rfl rfl rfl (fun h508 => ?_) (fun h508 => (by exfalso; omega))
          refine X.cut [] i78_39 rfl ?_
          refine X.iconst 40 i78_39 rfl rfl (by decide) ?_
          refine X.reti i78_40 rfl t78 ?_
          exact hQ (-1) m (by first | trivial | omega) (hJ.up (by omega)) 
        · refine X.iconst 11 i79_10 rfl rfl (by decide) ?_
          refine X.goto 15 i79_11 rfl rfl ?_
          refine X.cut [] i79_15 rfl ?_
          refine X.retz i79_15 rfl t79 (by omega) ?_
          show X (EE s) d 78 19 [(0, zr 4 40), (1, zi a1), (2, zi a2), (3, zi a3)] [zi 1] m _
          refine X.ifeq 39 22 i78_19 rfl rfl rfl (fun h509 => (by exfalso; omega)) (fun h509 => ?_)
          refine X.iload_n 23 i78_22 rfl rfl rfl ?_
          refine X.calls 26 [zi a3] [] [(0, zi a3)] i78_23 (by decide) rfl rfl (by omega) rfl rfl t80 (Nat.le_of_ble_eq_true rfl) (Nat.le_of_ble_eq_true rfl) rfl ?_
          refine X.iload_n 1 i80_0 rfl rfl rfl ?_
          refine X.iflt 13 4 i80_1 rfl rfl rfl (fun h510 => ?_) (fun h510 => ?_)
          · refine X.cut [] i80_13 rfl ?_
            refine X.iconst 14 i80_13 rfl rfl (by decide) ?_
            refine X.retz i80_14 rfl t80 (by omega) ?_
            show X (EE s) d 78 26 [(0, zr 4 40), (1, zi a1), (2, zi a2), (3, zi a3)] [zi 0] m _
            refine X.ifeq 39 29 i78_26 rfl rfl rfl (fun h511 => ?_) (fun h511 => (by exfalso; omega))
            refine X.cut [] i78_39 rfl ?_
            refine X.iconst 40 i78_39 rfl rfl (by decide) ?_
            refine X.reti i78_40 rfl t78 ?_
            exact hQ (-1) m (by first | trivial | omega) (hJ.up (by omega)) 
          · refine X.iload_n 5 i80_4 rfl rfl rfl ?_
            refine X.iconst 6 i80_5 rfl rfl (by decide) ?_
            refine X.icmpge 13 9 i80_6 rfl rfl rfl (fun h512 => ?_) (fun h512 => ?_)
            · refine X.cut [] i80_13 rfl ?_
              refine X.iconst 14 i80_13 rfl rfl (by decide) ?_
              refine X.retz i80_14 rfl t80 (by omega) ?_
              show X (EE s) d 78 26 [(0, zr 4 40), (1, zi a1), (2, zi a2), (3, zi a3)] [zi 0] m _
              refine X.ifeq 39 29 i78_26 rfl rfl rfl (fun h513 => ?_) (fun h513 => (by exfalso; omega))
              refine X.cut [] i78_39 rfl ?_
              refine X.iconst 40 i78_39 rfl rfl (by decide) ?_
              refine X.reti i78_40 rfl t78 ?_
              exact hQ (-1) m (by first | trivial | omega) (hJ.up (by omega)) 
            · refine X.iconst 10 i80_9 rfl rfl (by decide) ?_
              refine X.goto 14 i80_10 rfl rfl ?_
              refine X.cut [] i80_14 rfl ?_
              refine X.retz i80_14 rfl t80 (by omega) ?_
              show X (EE s) d 78 26 [(0, zr 4 40), (1, zi a1), (2, zi a2), (3, zi a3)] [zi 1] m _
              refine X.ifeq 39 29 i78_26 rfl rfl rfl (fun h514 => (by exfalso; omega)) (fun h514 => ?_)
              refine X.iload_n 30 i78_29 rfl rfl rfl ?_
              refine X.iflt 39 33 i78_30 rfl rfl rfl (fun h515 => ?_) (fun h515 => ?_)
              · refine X.cut [] i78_39 rfl ?_
                refine X.iconst 40 i78_39 rfl rfl (by decide) ?_
                refine X.reti i78_40 rfl t78 ?_
                exact hQ (-1) m (by first | trivial | omega) (hJ.up (by omega)) 
              · refine X.iload_n 34 i78_33 rfl rfl rfl ?_
                refine X.ldc 36 i78_34 rfl rfl (by decide) ?_
                refine X.icmplt 41 39 i78_36 rfl rfl rfl (fun h516 => ?_) (fun h516 => ?_)
                · refine X.aload_n 42 i78_41 rfl rfl rfl ?_
                  refine X.getF 45 i78_42 rfl rfl (by decide) rfl rfl ?_
                  refine X.getR 48 i78_45 rfl rfl (by decide) rfl rfl ?_
                  refine X.iload_n 49 i78_48 rfl rfl rfl ?_
                  refine X.iload_n 50 i78_49 rfl rfl rfl ?_
                  refine X.iload_n 51 i78_50 rfl rfl rfl ?_
                  refine X.callv 54 [zi a1, zi a2, zi a3] [] [(0, zr 0 11), (1, zi a1), (2, zi a2), (3, zi a3)] i78_51 rfl (by decide) rfl rfl (by omega) rfl rfl (by decide) rfl t81 (Nat.le_of_ble_eq_true rfl) (Nat.le_of_ble_eq_true rfl) rfl ?_
                  refine c81_1 (B := B) 0 a1 a2 a3 (by omega) (hJ.up (by omega)) (by omega) (by omega) (by omega) (by omega) (fun v519 m517 hv519 hJ518 => ?_)
                  show X (EE s) d 78 54 [(0, zr 4 40), (1, zi a1), (2, zi a2), (3, zi a3)] [zi v519] m517 _
                  refine X.reti i78_54 rfl t78 ?_
                  exact hQ v519 m517 (by first | trivial | omega) (hJ518.up (by omega)) 
                · refine X.cut [] i78_39 rfl ?_
                  refine X.iconst 40 i78_39 rfl rfl (by decide) ?_
                  refine X.reti i78_40 rfl t78 ?_
                  exact hQ (-1) m (by first | trivial | omega) (hJ.up (by omega)) 
    · refine X.iconst 14 i78_13 rfl rfl (by decide) ?_
      refine X.reti i78_14 rfl t78 ?_
      exact hQ (-1) m (by first | trivial | omega) (hJ.up (by omega)) 
  · refine X.aload_n 8 i17_7 rfl rfl rfl ?_
    refine X.dup 9 i17_8 rfl rfl rfl ?_
    refine X.getIr 12 3 i17_9 rfl rfl (by decide) rfl rfl rfl (fun h520 => ?_)
    refine X.iconst 13 i17_12 rfl rfl (by decide) ?_
    refine X.iiF 14 .iadd (fun x y => x + y) i17_13 rfl rfl rfl (fun _ _ => rfl) (fun z521 hz521 => ?_)
    refine X.putI' 17 3 i17_14 rfl rfl (by decide) rfl rfl rfl (fun hrm522 m522 hm522 => ?_)
    have hJ523 := w39_3 hJ hm522 hrm522
    refine X.aload_n 18 i17_17 rfl rfl rfl ?_
    refine X.getZ 21 0 i17_18 rfl rfl (by decide) rfl rfl rfl (fun h524 => ?_)
    refine X.retz i17_21 rfl t17 (by omega) ?_
    show X (EE s) d 78 10 [(0, zr 4 40), (1, zi a1), (2, zi a2), (3, zi a3)] [zi (m522 0 39 0)] m522 _
    refine X.ifeq 15 13 i78_10 rfl rfl rfl (fun h525 => ?_) (fun h525 => ?_)
    · refine X.iload_n 16 i78_15 rfl rfl rfl ?_
      refine X.calls 19 [zi a1] [] [(0, zi a1)] i78_16 (by decide) rfl rfl (by omega) rfl rfl t79 (Nat.le_of_ble_eq_true rfl) (Nat.le_of_ble_eq_true rfl) rfl ?_
      refine X.iload_n 1 i79_0 rfl rfl rfl ?_
      refine X.iflt 14 4 i79_1 rfl rfl rfl (fun h526 => ?_) (fun h526 => ?_)
      · refine X.cut [] i79_14 rfl ?_
        refine X.iconst 15 i79_14 rfl rfl (by decide) ?_
        refine X.retz i79_15 rfl t79 (by omega) ?_
        show X (EE s) d 78 19 [(0, zr 4 40), (1, zi a1), (2, zi a2), (3, zi a3)] [zi 0] m522 _
        refine X.ifeq 39 22 i78_19 rfl rfl rfl (fun h527 => ?_) (fun h527 => (by exfalso; omega))
        refine X.cut [] i78_39 rfl ?_
        refine X.iconst 40 i78_39 rfl rfl (by decide) ?_
        refine X.reti i78_40 rfl t78 ?_
        exact hQ (-1) m522 (by first | trivial | omega) (hJ523.up (by omega)) 
      · refine X.iload_n 5 i79_4 rfl rfl rfl ?_
        refine X.bipush 7 i79_5 rfl rfl (by decide) ?_
        refine X.icmpge 14 10 i79_7 rfl rfl rfl (fun h528 => ?_) (fun h528 => ?_)
        · refine X.cut [] i79_14 rfl ?_
          refine X.iconst 15 i79_14 rfl rfl (by decide) ?_
          refine X.retz i79_15 rfl t79 (by omega) ?_
          show X (EE s) d 78 19 [(0, zr 4 40), (1, zi a1), (2, zi a2), (3, zi a3)] [zi 0] m522 _
          refine X.ifeq 39 22 i78_19 rfl rfl rfl (fun h529 => ?_) (fun h529 => (by exfalso; omega))
          refine X.cut [] i78_39 rfl ?_
          refine X.iconst 40 i78_39 rfl rfl (by decide) ?_
          refine X.reti i78_40 rfl t78 ?_
          exact hQ (-1) m522 (by first | trivial | omega) (hJ523.up (by omega)) 
        · refine X.iconst 11 i79_10 rfl rfl (by decide) ?_
          refine X.goto 15 i79_11 rfl rfl ?_
          refine X.cut [] i79_15 rfl ?_
          refine X.retz i79_15 rfl t79 (by omega) ?_
          show X (EE s) d 78 19 [(0, zr 4 40), (1, zi a1), (2, zi a2), (3, zi a3)] [zi 1] m522 _
          refine X.ifeq 39 22 i78_19 rfl rfl rfl (fun h530 => (by exfalso; omega)) (fun h530 => ?_)
          refine X.iload_n 23 i78_22 rfl rfl rfl ?_
          refine X.calls 26 [zi a3] [] [(0, zi a3)] i78_23 (by decide) rfl rfl (by omega) rfl rfl t80 (Nat.le_of_ble_eq_true rfl) (Nat.le_of_ble_eq_true rfl) rfl ?_
          refine X.iload_n 1 i80_0 rfl rfl rfl ?_
          refine X.iflt 13 4 i80_1 rfl rfl rfl (fun h531 => ?_) (fun h531 => ?_)
          · refine X.cut [] i80_13 rfl ?_
            refine X.iconst 14 i80_13 rfl rfl (by decide) ?_
            refine X.retz i80_14 rfl t80 (by omega) ?_
            show X (EE s) d 78 26 [(0, zr 4 40), (1, zi a1), (2, zi a2), (3, zi a3)] [zi 0] m522 _
            refine X.ifeq 39 29 i78_26 rfl rfl rfl (fun h532 => ?_) (fun h532 => (by exfalso; omega))
            refine X.cut [] i78_39 rfl ?_
            refine X.iconst 40 i78_39 rfl rfl (by decide) ?_
            refine X.reti i78_40 rfl t78 ?_
            exact hQ (-1) m522 (by first | trivial | omega) (hJ523.up (by omega)) 
          · refine X.iload_n 5 i80_4 rfl rfl rfl ?_
            refine X.iconst 6 i80_5 rfl rfl (by decide) ?_
            refine X.icmpge 13 9 i80_6 rfl rfl rfl (fun h533 => ?_) (fun h533 => ?_)
            · refine X.cut [] i80_13 rfl ?_
              refine X.iconst 14 i80_13 rfl rfl (by decide) ?_
              refine X.retz i80_14 rfl t80 (by omega) ?_
              show X (EE s) d 78 26 [(0, zr 4 40), (1, zi a1), (2, zi a2), (3, zi a3)] [zi 0] m522 _
              refine X.ifeq 39 29 i78_26 rfl rfl rfl (fun h534 => ?_) (fun h534 => (by exfalso; omega))
              refine X.cut [] i78_39 rfl ?_
              refine X.iconst 40 i78_39 rfl rfl (by decide) ?_
              refine X.reti i78_40 rfl t78 ?_
              exact hQ (-1) m522 (by first | trivial | omega) (hJ523.up (by omega)) 
            · refine X.iconst 10 i80_9 rfl rfl (by decide) ?_
              refine X.goto 14 i80_10 rfl rfl ?_
              refine X.cut [] i80_14 rfl ?_
              refine X.retz i80_14 rfl t80 (by omega) ?_
              show X (EE s) d 78 26 [(0, zr 4 40), (1, zi a1), (2, zi a2), (3, zi a3)] [zi 1] m522 _
              refine X.ifeq 39 29 i78_26 rfl rfl rfl (fun h535 => (by exfalso; omega)) (fun h535 => ?_)
              refine X.iload_n 30 i78_29 rfl rfl rfl ?_
              refine X.iflt 39 33 i78_30 rfl rfl rfl (fun h536 => ?_) (fun h536 => ?_)
              · refine X.cut [] i78_39 rfl ?_
                refine X.iconst 40 i78_39 rfl rfl (by decide) ?_
                refine X.reti i78_40 rfl t78 ?_
                exact hQ (-1) m522 (by first | trivial | omega) (hJ523.up (by omega)) 
              · refine X.iload_n 34 i78_33 rfl rfl rfl ?_
                refine X.ldc 36 i78_34 rfl rfl (by decide) ?_
                refine X.icmplt 41 39 i78_36 rfl rfl rfl (fun h537 => ?_) (fun h537 => ?_)
                · refine X.aload_n 42 i78_41 rfl rfl rfl ?_
                  refine X.getF 45 i78_42 rfl rfl (by decide) rfl rfl ?_
                  refine X.getR 48 i78_45 rfl rfl (by decide) rfl rfl ?_
                  refine X.iload_n 49 i78_48 rfl rfl rfl ?_
                  refine X.iload_n 50 i78_49 rfl rfl rfl ?_
                  refine X.iload_n 51 i78_50 rfl rfl rfl ?_
                  refine X.callv 54 [zi a1, zi a2, zi a3] [] [(0, zr 0 11), (1, zi a1), (2, zi a2), (3, zi a3)] i78_51 rfl (by decide) rfl rfl (by omega) rfl rfl (by decide) rfl t81 (Nat.le_of_ble_eq_true rfl) (Nat.le_of_ble_eq_true rfl) rfl ?_
                  refine c81_1 (B := B) 0 a1 a2 a3 (by omega) (hJ523.up (by omega)) (by omega) (by omega) (by omega) (by omega) (fun v540 m538 hv540 hJ539 => ?_)
                  show X (EE s) d 78 54 [(0, zr 4 40), (1, zi a1), (2, zi a2), (3, zi a3)] [zi v540] m538 _
                  refine X.reti i78_54 rfl t78 ?_
                  exact hQ v540 m538 (by first | trivial | omega) (hJ539.up (by omega)) 
                · refine X.cut [] i78_39 rfl ?_
                  refine X.iconst 40 i78_39 rfl rfl (by decide) ?_
                  refine X.reti i78_40 rfl t78 ?_
                  exact hQ (-1) m522 (by first | trivial | omega) (hJ523.up (by omega)) 
    · refine X.iconst 14 i78_13 rfl rfl (by decide) ?_
      refine X.reti i78_14 rfl t78 ?_
      exact hQ (-1) m522 (by first | trivial | omega) (hJ523.up (by omega)) 
theorem l243_22_1 {s : Nat × (Nat → Int32)} {S : zS} {m0 m : zM} {B : Int} {d : Nat} {Q : Option zV → zM → Prop} (y1 y2 y3 y4 y5 : Int) (hd : 13 ≤ d) (hJ : J S m0 B m) (hB9 : B ≤ 1000000000) (hy1 : 0 ≤ y1 ∧ y1 ≤ 7) (hy2 : 0 ≤ y2 ∧ y2 ≤ 86399) (hy3 : 0 ≤ y3 ∧ y3 ≤ 3) (hy4 : 0 ≤ y4 ∧ y4 ≤ 42) (hy5 : 0 ≤ y5 ∧ y5 ≤ 6)
    (K55 : ∀ (x6 : Int) , (0 ≤ x6 ∧ x6 ≤ 6) → (x6 ≤ y5) → X (EE s) d 243 55 [(0, zr 4 44), (1, zi y1), (2, zi y2), (3, zi y3), (4, zi y4), (5, zi y5), (6, zi x6)] [] m Q) :
    ∀ (n : Nat) (y6 : Int) , (0 ≤ y6 ∧ y6 ≤ 6) → (y6 ≤ y5) → 6 - y6 < (n : Int) → X (EE s) d 243 22 [(0, zr 4 44), (1, zi y1), (2, zi y2), (3, zi y3), (4, zi y4), (5, zi y5), (6, zi y6)] [] m Q := by
  intro n
  induction n with
  | zero =>
    intro y6 hy6 hr0 hn
    exfalso
    omega
  | succ n ih =>
    intro y6 hy6 hr0 hn
    refine X.iload 24 i243_22 rfl rfl rfl ?_
    refine X.iload 26 i243_24 rfl rfl rfl ?_
    refine X.icmpge 55 29 i243_26 rfl rfl rfl (fun h505 => ?_) (fun h505 => ?_)
    · exact K55 y6 (by first | trivial | omega) (by omega)
    · refine X.aload_n 30 i243_29 rfl rfl rfl ?_
      refine X.getF 33 i243_30 rfl rfl (by decide) rfl rfl ?_
      refine X.sipush 36 i243_33 rfl rfl (by decide) ?_
      refine X.iload 38 i243_36 rfl rfl rfl ?_
      refine X.iadd 39 i243_38 rfl rfl (by omega) ?_
      refine X.iload 41 i243_39 rfl rfl rfl ?_
      refine X.iadd 42 i243_41 rfl rfl (by omega) ?_
      refine X.lald 43 i243_42 rfl rfl (by decide) rfl (by omega) ?_
      have h506 := r45_295 hJ 4 (i := ((295 + y4) + y6)) (by omega)
      refine X.iload_n 44 i243_43 rfl rfl rfl ?_
      refine X.i2l 45 i243_44 rfl rfl ?_
      refine X.lcmp 46 i243_45 rfl rfl (fun z507 hz507 => ?_)
      refine X.ifge 55 49 i243_46 rfl rfl rfl (fun h508 => ?_) (fun h508 => ?_)
      · have h508c : (m 4 45 ((295 + y4) + y6)) ≥ y2 := by omega
        clear h508 hz507
        exact K55 y6 (by first | trivial | omega) (by omega)
      · have h508c : (m 4 45 ((295 + y4) + y6)) < y2 := by omega
        clear h508 hz507
        refine X.iinc 52 [(0, zr 4 44), (1, zi y1), (2, zi y2), (3, zi y3), (4, zi y4), (5, zi y5), (6, zi (y6 + 1))] i243_49 rfl rfl rfl (by omega) rfl ?_
        refine X.goto 22 i243_52 rfl rfl ?_
        exact ih (y6 + 1) (by omega) (by omega) (by omega)
theorem l243_107_1 {s : Nat × (Nat → Int32)} {S : zS} {m0 : zM} {d : Nat} {Q : Option zV → zM → Prop} (y1 y2 y3 y4 y6 y7 : Int) (BE : Int) (hE : BE ≤ 1000000000) (hd : 13 ≤ d) (hy1 : 0 ≤ y1 ∧ y1 ≤ 7) (hy2 : 0 ≤ y2 ∧ y2 ≤ 86399) (hy3 : 0 ≤ y3 ∧ y3 ≤ 3) (hy4 : 0 ≤ y4 ∧ y4 ≤ 42) (hy6 : 0 ≤ y6 ∧ y6 ≤ 6) (hy7 : 0 ≤ y7 ∧ y7 ≤ 0)
    (K185 : ∀ (m' : zM) (B' : Int), J S m0 B' m' → B' ≤ BE → (m' 4 45 (287 + y1) ≤ 5 + y7) → X (EE s) d 243 185 [(0, zr 4 44), (1, zi y1), (2, zi y2), (3, zi y3), (4, zi y4), (6, zi y6), (7, zi y7)] [] m' Q) :
    ∀ (n : Nat) (y8 : Int) (m : zM) (B : Int), J S m0 B m → B + 0 * (n : Int) ≤ BE → (0 ≤ y8 ∧ y8 ≤ 5) → (m 4 45 (287 + y1) ≤ 5 + y7) → y8 - 0 < (n : Int) → X (EE s) d 243 107 [(0, zr 4 44), (1, zi y1), (2, zi y2), (3, zi y3), (4, zi y4), (6, zi y6), (7, zi y7), (8, zi y8)] [] m Q := by
  intro n
  induction n with
  | zero =>
    intro y8 m B hJ hB  hy8 hr0 hn
    exfalso
    omega
  | succ n ih =>
    intro y8 m B hJ hB  hy8 hr0 hn
    refine X.iload 109 i243_107 rfl rfl rfl ?_
    refine X.iload 111 i243_109 rfl rfl rfl ?_
    refine X.icmple 185 114 i243_111 rfl rfl rfl (fun h509 => ?_) (fun h509 => ?_)
    · refine X.cut [(0, zr 4 44), (1, zi y1), (2, zi y2), (3, zi y3), (4, zi y4), (6, zi y6), (7, zi y7)] i243_185 rfl ?_
      exact K185  m (B) (hJ.up (by omega)) (by omega)  (by omega)
    · refine X.iload 116 i243_114 rfl rfl rfl ?_
      refine X.ifne 185 119 i243_116 rfl rfl rfl (fun h510 => (by exfalso; omega)) (fun h510 => ?_)
      refine X.aload_n 120 i243_119 rfl rfl rfl ?_
      refine X.getF 123 i243_120 rfl rfl (by decide) rfl rfl ?_
      refine X.sipush 126 i243_123 rfl rfl (by decide) ?_
      refine X.iload 128 i243_126 rfl rfl rfl ?_
      refine X.iadd 129 i243_128 rfl rfl (by omega) ?_
      refine X.iload 131 i243_129 rfl rfl rfl ?_
      refine X.iadd 132 i243_131 rfl rfl (by omega) ?_
      refine X.aload_n 133 i243_132 rfl rfl rfl ?_
      refine X.getF 136 i243_133 rfl rfl (by decide) rfl rfl ?_
      refine X.sipush 139 i243_136 rfl rfl (by decide) ?_
      refine X.iload 141 i243_139 rfl rfl rfl ?_
      refine X.iadd 142 i243_141 rfl rfl (by omega) ?_
      refine X.iload 144 i243_142 rfl rfl rfl ?_
      refine X.iadd 145 i243_144 rfl rfl (by omega) ?_
      refine X.iconst 146 i243_145 rfl rfl (by decide) ?_
      refine X.isub 147 i243_146 rfl rfl (by omega) ?_
      refine X.lald 148 i243_147 rfl rfl (by decide) rfl (by omega) ?_
      have h511 := r45_295 hJ 4 (i := (((295 + y4) + y8) - 1)) (by omega)
      refine X.last' 149 i243_148 rfl rfl (by decide) rfl (by omega) (fun hrm512 m512 hm512 => ?_)
      have hJ513 := w45_295 hJ hm512 (by omega) (by omega)
      have wtm512_0 : m512 4 45 (287 + y1) = m 4 45 (287 + y1) := by rw [hm512]; exact z_upd_i _ _ _ _ (by omega)
      refine X.aload_n 150 i243_149 rfl rfl rfl ?_
      refine X.getF 153 i243_150 rfl rfl (by decide) rfl rfl ?_
      refine X.sipush 156 i243_153 rfl rfl (by decide) ?_
      refine X.iload 158 i243_156 rfl rfl rfl ?_
      refine X.iadd 159 i243_158 rfl rfl (by omega) ?_
      refine X.iload 161 i243_159 rfl rfl rfl ?_
      refine X.iadd 162 i243_161 rfl rfl (by omega) ?_
      refine X.aload_n 163 i243_162 rfl rfl rfl ?_
      refine X.getF 166 i243_163 rfl rfl (by decide) rfl rfl ?_
      refine X.sipush 169 i243_166 rfl rfl (by decide) ?_
      refine X.iload 171 i243_169 rfl rfl rfl ?_
      refine X.iadd 172 i243_171 rfl rfl (by omega) ?_
      refine X.iload 174 i243_172 rfl rfl rfl ?_
      refine X.iadd 175 i243_174 rfl rfl (by omega) ?_
      refine X.iconst 176 i243_175 rfl rfl (by decide) ?_
      refine X.isub 177 i243_176 rfl rfl (by omega) ?_
      refine X.lald 178 i243_177 rfl rfl (by decide) rfl (by omega) ?_
      have h514 := r45_343 hJ513 4 (i := (((343 + y4) + y8) - 1)) (by omega)
      refine X.last' 179 i243_178 rfl rfl (by decide) rfl (by omega) (fun hrm515 m515 hm515 => ?_)
      have hJ516 := w45_343 hJ513 hm515 (by omega) (by omega)
      have wtm515_0 : m515 4 45 (287 + y1) = m512 4 45 (287 + y1) := by rw [hm515]; exact z_upd_i _ _ _ _ (by omega)
      refine X.iinc 182 [(0, zr 4 44), (1, zi y1), (2, zi y2), (3, zi y3), (4, zi y4), (6, zi y6), (7, zi y7), (8, zi (y8 + (-1)))] i243_179 rfl rfl rfl (by omega) rfl ?_
      refine X.goto 107 i243_182 rfl rfl ?_
      exact ih (y8 + (-1)) m515 (B) (hJ516.up (by omega)) (by omega)  (by omega) (by omega) (by omega)
theorem l243_107_2 {s : Nat × (Nat → Int32)} {S : zS} {m0 : zM} {d : Nat} {Q : Option zV → zM → Prop} (y1 y2 y3 y4 y6 y7 : Int) (BE : Int) (hE : BE ≤ 1000000000) (hd : 13 ≤ d) (hy1 : 0 ≤ y1 ∧ y1 ≤ 7) (hy2 : 0 ≤ y2 ∧ y2 ≤ 86399) (hy3 : 0 ≤ y3 ∧ y3 ≤ 3) (hy4 : 0 ≤ y4 ∧ y4 ≤ 42) (hy6 : 0 ≤ y6 ∧ y6 ≤ 5) (hy7 : 1 ≤ y7 ∧ y7 ≤ 1)
    (K185 : ∀ (m' : zM) (B' : Int), J S m0 B' m' → B' ≤ BE → (m' 4 45 (287 + y1) ≤ 5 + y7) → X (EE s) d 243 185 [(0, zr 4 44), (1, zi y1), (2, zi y2), (3, zi y3), (4, zi y4), (6, zi y6), (7, zi y7)] [] m' Q) :
    ∀ (n : Nat) (y8 : Int) (m : zM) (B : Int), J S m0 B m → B + 0 * (n : Int) ≤ BE → (0 ≤ y8 ∧ y8 ≤ 6) → (m 4 45 (287 + y1) ≤ 5 + y7) → y8 - 0 < (n : Int) → X (EE s) d 243 107 [(0, zr 4 44), (1, zi y1), (2, zi y2), (3, zi y3), (4, zi y4), (6, zi y6), (7, zi y7), (8, zi y8)] [] m Q := by
  intro n
  induction n with
  | zero =>
    intro y8 m B hJ hB  hy8 hr0 hn
    exfalso
    omega
  | succ n ih =>
    intro y8 m B hJ hB  hy8 hr0 hn
    refine X.iload 109 i243_107 rfl rfl rfl ?_
    refine X.iload 111 i243_109 rfl rfl rfl ?_
    refine X.icmple 185 114 i243_111 rfl rfl rfl (fun h503 => ?_) (fun h503 => ?_)
    · refine X.cut [(0, zr 4 44), (1, zi y1), (2, zi y2), (3, zi y3), (4, zi y4), (6, zi y6), (7, zi y7)] i243_185 rfl ?_
      exact K185  m (B) (hJ.up (by omega)) (by omega)  (by omega)
    · refine X.iload 116 i243_114 rfl rfl rfl ?_
      refine X.ifne 185 119 i243_116 rfl rfl rfl (fun h504 => ?_) (fun h504 => (by exfalso; omega))
      refine X.cut [(0, zr 4 44), (1, zi y1), (2, zi y2), (3, zi y3), (4, zi y4), (6, zi y6), (7, zi y7)] i243_185 rfl ?_
      exact K185  m (B) (hJ.up (by omega)) (by omega)  (by omega)
-- WorkMeterModel.puts
theorem c243_1 {s : Nat × (Nat → Int32)} {S : zS} {m0 m : zM} {B : Int} {d : Nat} {Q : Option zV → zM → Prop} (a1 a2 a3 : Int) (hd : 13 ≤ d) (hJ : J S m0 B m) (hB : B + 0 ≤ 1000000000) (ha1 : 0 ≤ a1 ∧ a1 ≤ 7) (ha2 : 0 ≤ a2 ∧ a2 ≤ 86399) (ha3 : 0 ≤ a3 ∧ a3 ≤ 3) (hQ : ∀ (v : Int) m', ((-1) ≤ v ∧ v ≤ 6) → J S m0 (B) m' → Q (some (zi v)) m') : X (EE s) d 243 0 [(0, zr 4 44), (1, zi a1), (2, zi a2), (3, zi a3)] [] m Q := by
  refine X.bipush 2 i243_0 rfl rfl (by decide) ?_
  refine X.iload_n 3 i243_2 rfl rfl rfl ?_
  refine X.imul 4 i243_3 rfl rfl (by omega) ?_
  refine X.istore 6 [(0, zr 4 44), (1, zi a1), (2, zi a2), (3, zi a3), (4, zi (6 * a1))] i243_4 rfl rfl rfl ?_
  refine X.aload_n 7 i243_6 rfl rfl rfl ?_
  refine X.getF 10 i243_7 rfl rfl (by decide) rfl rfl ?_
  refine X.sipush 13 i243_10 rfl rfl (by decide) ?_
  refine X.iload_n 14 i243_13 rfl rfl rfl ?_
  refine X.iadd 15 i243_14 rfl rfl (by omega) ?_
  refine X.lald 16 i243_15 rfl rfl (by decide) rfl (by omega) ?_
  have h501 := r45_287 hJ 4 (i := (287 + a1)) (by omega)
  refine X.l2i 17 i243_16 rfl rfl (by omega) ?_
  refine X.istore 19 [(0, zr 4 44), (1, zi a1), (2, zi a2), (3, zi a3), (4, zi (6 * a1)), (5, zi (m 4 45 (287 + a1)))] i243_17 rfl rfl rfl ?_
  refine X.iconst 20 i243_19 rfl rfl (by decide) ?_
  refine X.istore 22 [(0, zr 4 44), (1, zi a1), (2, zi a2), (3, zi a3), (4, zi (6 * a1)), (5, zi (m 4 45 (287 + a1))), (6, zi 0)] i243_20 rfl rfl rfl ?_
  refine l243_22_1 (s := s) (S := S) (m0 := m0) (m := m) (B := B) (d := d)  a1 a2 a3 (6 * a1) (m 4 45 (287 + a1)) (by omega) (hJ.up (by omega)) (by omega) (by omega) (by omega) (by omega) (by omega) (by omega) (fun y502 hby502 hrlm5030 => ?_) ((6 - 0 : Int).toNat + 1) 0 (by omega) (by omega) (by omega)
  refine X.iload 57 i243_55 rfl rfl rfl ?_
  refine X.iload 59 i243_57 rfl rfl rfl ?_
  refine X.icmpge 86 62 i243_59 rfl rfl rfl (fun h506 => ?_) (fun h506 => ?_)
  · refine X.iconst 87 i243_86 rfl rfl (by decide) ?_
    refine X.istore 89 [(0, zr 4 44), (1, zi a1), (2, zi a2), (3, zi a3), (4, zi (6 * a1)), (5, zi (m 4 45 (287 + a1))), (6, zi y502), (7, zi 0)] i243_87 rfl rfl rfl ?_
    refine X.iload 91 i243_89 rfl rfl rfl ?_
    refine X.ifne 103 94 i243_91 rfl rfl rfl (fun h507 => (by exfalso; omega)) (fun h507 => ?_)
    refine X.iload 96 i243_94 rfl rfl rfl ?_
    refine X.bipush 98 i243_96 rfl rfl (by decide) ?_
    refine X.icmpne 103 101 i243_98 rfl rfl rfl (fun h508 => ?_) (fun h508 => ?_)
    · refine X.iload 105 i243_103 rfl rfl rfl ?_
      refine X.istore 107 [(0, zr 4 44), (1, zi a1), (2, zi a2), (3, zi a3), (4, zi (6 * a1)), (5, zi (m 4 45 (287 + a1))), (6, zi y502), (7, zi 0), (8, zi (m 4 45 (287 + a1)))] i243_105 rfl rfl rfl ?_
      refine X.cut [(0, zr 4 44), (1, zi a1), (2, zi a2), (3, zi a3), (4, zi (6 * a1)), (6, zi y502), (7, zi 0), (8, zi (m 4 45 (287 + a1)))] i243_107 rfl ?_
      refine l243_107_1 (s := s) (S := S) (m0 := m0) (d := d)  a1 a2 a3 (6 * a1) y502 0 (BE := B + 0) (by omega) (by omega) (by omega) (by omega) (by omega) (by omega) (by omega) (by omega) (fun  m509 B510 hJ511 hBB510 hrlm5090 => ?_) (((m 4 45 (287 + a1)) - 0 : Int).toNat + 1) (m 4 45 (287 + a1)) m (B) (hJ.up (by omega)) (by omega)  (by omega) (by omega) (by omega)
      refine X.aload_n 186 i243_185 rfl rfl rfl ?_
      refine X.getF 189 i243_186 rfl rfl (by decide) rfl rfl ?_
      refine X.sipush 192 i243_189 rfl rfl (by decide) ?_
      refine X.iload 194 i243_192 rfl rfl rfl ?_
      refine X.iadd 195 i243_194 rfl rfl (by omega) ?_
      refine X.iload 197 i243_195 rfl rfl rfl ?_
      refine X.iadd 198 i243_197 rfl rfl (by omega) ?_
      refine X.iload_n 199 i243_198 rfl rfl rfl ?_
      refine X.i2l 200 i243_199 rfl rfl ?_
      refine X.last' 201 i243_200 rfl rfl (by decide) rfl (by omega) (fun hrm512 m512 hm512 => ?_)
      have hJ513 := w45_295 hJ511 hm512 (by omega) (by omega)
      have wtm512_0 : m512 4 45 (287 + a1) = m509 4 45 (287 + a1) := by rw [hm512]; exact z_upd_i _ _ _ _ (by omega)
      refine X.aload_n 202 i243_201 rfl rfl rfl ?_
      refine X.getF 205 i243_202 rfl rfl (by decide) rfl rfl ?_
      refine X.sipush 208 i243_205 rfl rfl (by decide) ?_
      refine X.iload 210 i243_208 rfl rfl rfl ?_
      refine X.iadd 211 i243_210 rfl rfl (by omega) ?_
      refine X.iload 213 i243_211 rfl rfl rfl ?_
      refine X.iadd 214 i243_213 rfl rfl (by omega) ?_
      refine X.iload_n 215 i243_214 rfl rfl rfl ?_
      refine X.i2l 216 i243_215 rfl rfl ?_
      refine X.last' 217 i243_216 rfl rfl (by decide) rfl (by omega) (fun hrm514 m514 hm514 => ?_)
      have hJ515 := w45_343 hJ513 hm514 (by omega) (by omega)
      have wtm514_0 : m514 4 45 (287 + a1) = m512 4 45 (287 + a1) := by rw [hm514]; exact z_upd_i _ _ _ _ (by omega)
      refine X.aload_n 218 i243_217 rfl rfl rfl ?_
      refine X.getF 221 i243_218 rfl rfl (by decide) rfl rfl ?_
      refine X.sipush 224 i243_221 rfl rfl (by decide) ?_
      refine X.iload_n 225 i243_224 rfl rfl rfl ?_
      refine X.iadd 226 i243_225 rfl rfl (by omega) ?_
      refine X.dup2 227 i243_226 rfl rfl ?_
      refine X.lald 228 i243_227 rfl rfl (by decide) rfl (by omega) ?_
      have h516 := r45_287 hJ515 4 (i := (287 + a1)) (by omega)
      refine X.iload 230 i243_228 rfl rfl rfl ?_
      refine X.ifeq 237 233 i243_230 rfl rfl rfl (fun h517 => ?_) (fun h517 => (by exfalso; omega))
      refine X.cut [(0, zr 4 44), (1, zi a1)] i243_237 rfl ?_
      refine X.lconst (y := 1) 238 i243_237 rfl rfl rfl ?_
      refine X.ladd 239 i243_238 rfl rfl (by omega) ?_
      refine X.last' 240 i243_239 rfl rfl (by decide) rfl (by omega) (fun hrm518 m518 hm518 => ?_)
      have hJ519 := w45_287 hJ515 hm518 (by omega) (by omega)
      refine X.aload_n 241 i243_240 rfl rfl rfl ?_
      refine X.getF 244 i243_241 rfl rfl (by decide) rfl rfl ?_
      refine X.sipush 247 i243_244 rfl rfl (by decide) ?_
      refine X.iload_n 248 i243_247 rfl rfl rfl ?_
      refine X.iadd 249 i243_248 rfl rfl (by omega) ?_
      refine X.lald 250 i243_249 rfl rfl (by decide) rfl (by omega) ?_
      have h520 := r45_287 hJ519 4 (i := (287 + a1)) (by omega)
      refine X.l2i 251 i243_250 rfl rfl (by omega) ?_
      refine X.reti i243_251 rfl t243 ?_
      exact hQ (m518 4 45 (287 + a1)) m518 (by first | trivial | omega) (hJ519.up (by omega)) 
    · refine X.iconst 102 i243_101 rfl rfl (by decide) ?_
      refine X.reti i243_102 rfl t243 ?_
      exact hQ (-1) m (by first | trivial | omega) (hJ.up (by omega)) 
  · refine X.aload_n 63 i243_62 rfl rfl rfl ?_
    refine X.getF 66 i243_63 rfl rfl (by decide) rfl rfl ?_
    refine X.sipush 69 i243_66 rfl rfl (by decide) ?_
    refine X.iload 71 i243_69 rfl rfl rfl ?_
    refine X.iadd 72 i243_71 rfl rfl (by omega) ?_
    refine X.iload 74 i243_72 rfl rfl rfl ?_
    refine X.iadd 75 i243_74 rfl rfl (by omega) ?_
    refine X.lald 76 i243_75 rfl rfl (by decide) rfl (by omega) ?_
    have h521 := r45_295 hJ 4 (i := ((295 + (6 * a1)) + y502)) (by omega)
    refine X.iload_n 77 i243_76 rfl rfl rfl ?_
    refine X.i2l 78 i243_77 rfl rfl ?_
    refine X.lcmp 79 i243_78 rfl rfl (fun z522 hz522 => ?_)
    refine X.ifne 86 82 i243_79 rfl rfl rfl (fun h523 => ?_) (fun h523 => ?_)
    · have h523c : (m 4 45 ((295 + (6 * a1)) + y502)) ≠ a2 := by omega
      clear h523 hz522
      refine X.iconst 87 i243_86 rfl rfl (by decide) ?_
      refine X.istore 89 [(0, zr 4 44), (1, zi a1), (2, zi a2), (3, zi a3), (4, zi (6 * a1)), (5, zi (m 4 45 (287 + a1))), (6, zi y502), (7, zi 0)] i243_87 rfl rfl rfl ?_
      refine X.iload 91 i243_89 rfl rfl rfl ?_
      refine X.ifne 103 94 i243_91 rfl rfl rfl (fun h524 => (by exfalso; omega)) (fun h524 => ?_)
      refine X.iload 96 i243_94 rfl rfl rfl ?_
      refine X.bipush 98 i243_96 rfl rfl (by decide) ?_
      refine X.icmpne 103 101 i243_98 rfl rfl rfl (fun h525 => ?_) (fun h525 => ?_)
      · refine X.iload 105 i243_103 rfl rfl rfl ?_
        refine X.istore 107 [(0, zr 4 44), (1, zi a1), (2, zi a2), (3, zi a3), (4, zi (6 * a1)), (5, zi (m 4 45 (287 + a1))), (6, zi y502), (7, zi 0), (8, zi (m 4 45 (287 + a1)))] i243_105 rfl rfl rfl ?_
        refine X.cut [(0, zr 4 44), (1, zi a1), (2, zi a2), (3, zi a3), (4, zi (6 * a1)), (6, zi y502), (7, zi 0), (8, zi (m 4 45 (287 + a1)))] i243_107 rfl ?_
        refine l243_107_1 (s := s) (S := S) (m0 := m0) (d := d)  a1 a2 a3 (6 * a1) y502 0 (BE := B + 0) (by omega) (by omega) (by omega) (by omega) (by omega) (by omega) (by omega) (by omega) (fun  m526 B527 hJ528 hBB527 hrlm5260 => ?_) (((m 4 45 (287 + a1)) - 0 : Int).toNat + 1) (m 4 45 (287 + a1)) m (B) (hJ.up (by omega)) (by omega)  (by omega) (by omega) (by omega)
        refine X.aload_n 186 i243_185 rfl rfl rfl ?_
        refine X.getF 189 i243_186 rfl rfl (by decide) rfl rfl ?_
        refine X.sipush 192 i243_189 rfl rfl (by decide) ?_
        refine X.iload 194 i243_192 rfl rfl rfl ?_
        refine X.iadd 195 i243_194 rfl rfl (by omega) ?_
        refine X.iload 197 i243_195 rfl rfl rfl ?_
        refine X.iadd 198 i243_197 rfl rfl (by omega) ?_
        refine X.iload_n 199 i243_198 rfl rfl rfl ?_
        refine X.i2l 200 i243_199 rfl rfl ?_
        refine X.last' 201 i243_200 rfl rfl (by decide) rfl (by omega) (fun hrm529 m529 hm529 => ?_)
        have hJ530 := w45_295 hJ528 hm529 (by omega) (by omega)
        have wtm529_0 : m529 4 45 (287 + a1) = m526 4 45 (287 + a1) := by rw [hm529]; exact z_upd_i _ _ _ _ (by omega)
        refine X.aload_n 202 i243_201 rfl rfl rfl ?_
        refine X.getF 205 i243_202 rfl rfl (by decide) rfl rfl ?_
        refine X.sipush 208 i243_205 rfl rfl (by decide) ?_
        refine X.iload 210 i243_208 rfl rfl rfl ?_
        refine X.iadd 211 i243_210 rfl rfl (by omega) ?_
        refine X.iload 213 i243_211 rfl rfl rfl ?_
        refine X.iadd 214 i243_213 rfl rfl (by omega) ?_
        refine X.iload_n 215 i243_214 rfl rfl rfl ?_
        refine X.i2l 216 i243_215 rfl rfl ?_
        refine X.last' 217 i243_216 rfl rfl (by decide) rfl (by omega) (fun hrm531 m531 hm531 => ?_)
        have hJ532 := w45_343 hJ530 hm531 (by omega) (by omega)
        have wtm531_0 : m531 4 45 (287 + a1) = m529 4 45 (287 + a1) := by rw [hm531]; exact z_upd_i _ _ _ _ (by omega)
        refine X.aload_n 218 i243_217 rfl rfl rfl ?_
        refine X.getF 221 i243_218 rfl rfl (by decide) rfl rfl ?_
        refine X.sipush 224 i243_221 rfl rfl (by decide) ?_
        refine X.iload_n 225 i243_224 rfl rfl rfl ?_
        refine X.iadd 226 i243_225 rfl rfl (by omega) ?_
        refine X.dup2 227 i243_226 rfl rfl ?_
        refine X.lald 228 i243_227 rfl rfl (by decide) rfl (by omega) ?_
        have h533 := r45_287 hJ532 4 (i := (287 + a1)) (by omega)
        refine X.iload 230 i243_228 rfl rfl rfl ?_
        refine X.ifeq 237 233 i243_230 rfl rfl rfl (fun h534 => ?_) (fun h534 => (by exfalso; omega))
        refine X.cut [(0, zr 4 44), (1, zi a1)] i243_237 rfl ?_
        refine X.lconst (y := 1) 238 i243_237 rfl rfl rfl ?_
        refine X.ladd 239 i243_238 rfl rfl (by omega) ?_
        refine X.last' 240 i243_239 rfl rfl (by decide) rfl (by omega) (fun hrm535 m535 hm535 => ?_)
        have hJ536 := w45_287 hJ532 hm535 (by omega) (by omega)
        refine X.aload_n 241 i243_240 rfl rfl rfl ?_
        refine X.getF 244 i243_241 rfl rfl (by decide) rfl rfl ?_
        refine X.sipush 247 i243_244 rfl rfl (by decide) ?_
        refine X.iload_n 248 i243_247 rfl rfl rfl ?_
        refine X.iadd 249 i243_248 rfl rfl (by omega) ?_
        refine X.lald 250 i243_249 rfl rfl (by decide) rfl (by omega) ?_
        have h537 := r45_287 hJ536 4 (i := (287 + a1)) (by omega)
        refine X.l2i 251 i243_250 rfl rfl (by omega) ?_
        refine X.reti i243_251 rfl t243 ?_
        exact hQ (m535 4 45 (287 + a1)) m535 (by first | trivial | omega) (hJ536.up (by omega)) 
      · refine X.iconst 102 i243_101 rfl rfl (by decide) ?_
        refine X.reti i243_102 rfl t243 ?_
        exact hQ (-1) m (by first | trivial | omega) (hJ.up (by omega)) 
    · have h523c : (m 4 45 ((295 + (6 * a1)) + y502)) = a2 := by omega
      clear h523 hz522
      refine X.iconst 83 i243_82 rfl rfl (by decide) ?_
      refine X.goto 87 i243_83 rfl rfl ?_
      refine X.istore 89 [(0, zr 4 44), (1, zi a1), (2, zi a2), (3, zi a3), (4, zi (6 * a1)), (5, zi (m 4 45 (287 + a1))), (6, zi y502), (7, zi 1)] i243_87 rfl rfl rfl ?_
      refine X.iload 91 i243_89 rfl rfl rfl ?_
      refine X.ifne 103 94 i243_91 rfl rfl rfl (fun h538 => ?_) (fun h538 => (by exfalso; omega))
      refine X.iload 105 i243_103 rfl rfl rfl ?_
      refine X.istore 107 [(0, zr 4 44), (1, zi a1), (2, zi a2), (3, zi a3), (4, zi (6 * a1)), (5, zi (m 4 45 (287 + a1))), (6, zi y502), (7, zi 1), (8, zi (m 4 45 (287 + a1)))] i243_105 rfl rfl rfl ?_
      refine X.cut [(0, zr 4 44), (1, zi a1), (2, zi a2), (3, zi a3), (4, zi (6 * a1)), (6, zi y502), (7, zi 1), (8, zi (m 4 45 (287 + a1)))] i243_107 rfl ?_
      refine l243_107_2 (s := s) (S := S) (m0 := m0) (d := d)  a1 a2 a3 (6 * a1) y502 1 (BE := B + 0) (by omega) (by omega) (by omega) (by omega) (by omega) (by omega) (by omega) (by omega) (fun  m539 B540 hJ541 hBB540 hrlm5390 => ?_) (((m 4 45 (287 + a1)) - 0 : Int).toNat + 1) (m 4 45 (287 + a1)) m (B) (hJ.up (by omega)) (by omega)  (by omega) (by omega) (by omega)
      refine X.aload_n 186 i243_185 rfl rfl rfl ?_
      refine X.getF 189 i243_186 rfl rfl (by decide) rfl rfl ?_
      refine X.sipush 192 i243_189 rfl rfl (by decide) ?_
      refine X.iload 194 i243_192 rfl rfl rfl ?_
      refine X.iadd 195 i243_194 rfl rfl (by omega) ?_
      refine X.iload 197 i243_195 rfl rfl rfl ?_
      refine X.iadd 198 i243_197 rfl rfl (by omega) ?_
      refine X.iload_n 199 i243_198 rfl rfl rfl ?_
      refine X.i2l 200 i243_199 rfl rfl ?_
      refine X.last' 201 i243_200 rfl rfl (by decide) rfl (by omega) (fun hrm542 m542 hm542 => ?_)
      have hJ543 := w45_295 hJ541 hm542 (by omega) (by omega)
      have wtm542_0 : m542 4 45 (287 + a1) = m539 4 45 (287 + a1) := by rw [hm542]; exact z_upd_i _ _ _ _ (by omega)
      refine X.aload_n 202 i243_201 rfl rfl rfl ?_
      refine X.getF 205 i243_202 rfl rfl (by decide) rfl rfl ?_
      refine X.sipush 208 i243_205 rfl rfl (by decide) ?_
      refine X.iload 210 i243_208 rfl rfl rfl ?_
      refine X.iadd 211 i243_210 rfl rfl (by omega) ?_
      refine X.iload 213 i243_211 rfl rfl rfl ?_
      refine X.iadd 214 i243_213 rfl rfl (by omega) ?_
      refine X.iload_n 215 i243_214 rfl rfl rfl ?_
      refine X.i2l 216 i243_215 rfl rfl ?_
      refine X.last' 217 i243_216 rfl rfl (by decide) rfl (by omega) (fun hrm544 m544 hm544 => ?_)
      have hJ545 := w45_343 hJ543 hm544 (by omega) (by omega)
      have wtm544_0 : m544 4 45 (287 + a1) = m542 4 45 (287 + a1) := by rw [hm544]; exact z_upd_i _ _ _ _ (by omega)
      refine X.aload_n 218 i243_217 rfl rfl rfl ?_
      refine X.getF 221 i243_218 rfl rfl (by decide) rfl rfl ?_
      refine X.sipush 224 i243_221 rfl rfl (by decide) ?_
      refine X.iload_n 225 i243_224 rfl rfl rfl ?_
      refine X.iadd 226 i243_225 rfl rfl (by omega) ?_
      refine X.dup2 227 i243_226 rfl rfl ?_
      refine X.lald 228 i243_227 rfl rfl (by decide) rfl (by omega) ?_
      have h546 := r45_287 hJ545 4 (i := (287 + a1)) (by omega)
      refine X.iload 230 i243_228 rfl rfl rfl ?_
      refine X.ifeq 237 233 i243_230 rfl rfl rfl (fun h547 => (by exfalso; omega)) (fun h547 => ?_)
      refine X.lconst (y := 0) 234 i243_233 rfl rfl rfl ?_
      refine X.goto 238 i243_234 rfl rfl ?_
      refine X.cut [(0, zr 4 44), (1, zi a1)] i243_238 rfl ?_
      refine X.ladd 239 i243_238 rfl rfl (by omega) ?_
      refine X.last' 240 i243_239 rfl rfl (by decide) rfl (by omega) (fun hrm548 m548 hm548 => ?_)
      have hJ549 := w45_287 hJ545 hm548 (by omega) (by omega)
      refine X.aload_n 241 i243_240 rfl rfl rfl ?_
      refine X.getF 244 i243_241 rfl rfl (by decide) rfl rfl ?_
      refine X.sipush 247 i243_244 rfl rfl (by decide) ?_
      refine X.iload_n 248 i243_247 rfl rfl rfl ?_
      refine X.iadd 249 i243_248 rfl rfl (by omega) ?_
      refine X.lald 250 i243_249 rfl rfl (by decide) rfl (by omega) ?_
      have h550 := r45_287 hJ549 4 (i := (287 + a1)) (by omega)
      refine X.l2i 251 i243_250 rfl rfl (by omega) ?_
      refine X.reti i243_251 rfl t243 ?_
      exact hQ (m548 4 45 (287 + a1)) m548 (by first | trivial | omega) (hJ549.up (by omega)) 
-- WorkMeterModel.table
theorem c240_1 {s : Nat × (Nat → Int32)} {S : zS} {m0 m : zM} {B : Int} {d : Nat} {Q : Option zV → zM → Prop} (a1 a2 a3 : Int) (hd : 14 ≤ d) (hJ : J S m0 B m) (hB : B + 0 ≤ 1000000000) (ha1 : (-2147483648) ≤ a1 ∧ a1 ≤ 2147483647) (ha2 : (-2147483648) ≤ a2 ∧ a2 ≤ 2147483647) (ha3 : (-2147483648) ≤ a3 ∧ a3 ≤ 2147483647) (hQ : ∀ (v : Int) m', ((-1) ≤ v ∧ v ≤ 6) → J S m0 (B) m' → Q (some (zi v)) m') : X (EE s) d 240 0 [(0, zr 4 44), (1, zi a1), (2, zi a2), (3, zi a3)] [] m Q := by
  refine X.aload_n 1 i240_0 rfl rfl rfl ?_
  refine X.callv 4 [] [] [(0, zr 4 44)] i240_1 rfl (by decide) rfl rfl (by omega) rfl rfl (by decide) rfl t203 (Nat.le_of_ble_eq_true rfl) (Nat.le_of_ble_eq_true rfl) rfl ?_
  refine X.aload_n 1 i203_0 rfl rfl rfl ?_
  refine X.getF 4 i203_1 rfl rfl (by decide) rfl rfl ?_
  refine X.sipush 7 i203_4 rfl rfl (by decide) ?_
  refine X.dup2 8 i203_7 rfl rfl ?_
  refine X.lald 9 i203_8 rfl rfl (by decide) rfl (by omega) ?_
  refine X.aload_n 10 i203_9 rfl rfl rfl ?_
  refine X.getF 13 i203_10 rfl rfl (by decide) rfl rfl ?_
  refine X.sipush 16 i203_13 rfl rfl (by decide) ?_
  refine X.lald 17 i203_16 rfl rfl (by decide) rfl (by omega) ?_
  have h501 := r45_1614 hJ 4
  refine X.llF 18 .ladd (fun x y => x + y) i203_17 rfl rfl rfl (fun _ _ => rfl) (fun z502 hz502 => ?_)
  refine X.last' 19 i203_18 rfl rfl (by decide) rfl (by omega) (fun hrm503 m503 hm503 => ?_)
  have hJ504 := w45_1618 hJ hm503 hrm503
  refine X.aload_n 20 i203_19 rfl rfl rfl ?_
  refine X.getF 23 i203_20 rfl rfl (by decide) rfl rfl ?_
  refine X.sipush 26 i203_23 rfl rfl (by decide) ?_
  refine X.lald 27 i203_26 rfl rfl (by decide) rfl (by omega) ?_
  have h505 := r45_1614 hJ504 4
  refine X.lconst (y := 1) 28 i203_27 rfl rfl rfl ?_
  refine X.lcmp 29 i203_28 rfl rfl (fun z506 hz506 => ?_)
  refine X.ifne 36 32 i203_29 rfl rfl rfl (fun h507 => ?_) (fun h507 => ?_)
  · have h507c : (m503 4 45 1614) ≠ 1 := by omega
    clear h507 hz506
    refine X.cut [] i203_36 rfl ?_
    refine X.iconst 37 i203_36 rfl rfl (by decide) ?_
    refine X.retz i203_37 rfl t203 (by omega) ?_
    show X (EE s) d 240 4 [(0, zr 4 44), (1, zi a1), (2, zi a2), (3, zi a3)] [zi 0] m503 _
    refine X.ifne 33 7 i240_4 rfl rfl rfl (fun h508 => (by exfalso; omega)) (fun h508 => ?_)
    refine X.iload_n 8 i240_7 rfl rfl rfl ?_
    refine X.calls 11 [zi a1] [] [(0, zi a1)] i240_8 (by decide) rfl rfl (by omega) rfl rfl t241 (Nat.le_of_ble_eq_true rfl) (Nat.le_of_ble_eq_true rfl) rfl ?_
    refine X.iload_n 1 i241_0 rfl rfl rfl ?_
    refine X.i2l 2 i241_1 rfl rfl ?_
    refine X.lconst (y := 0) 3 i241_2 rfl rfl rfl ?_
    refine X.ldc2 6 i241_3 rfl rfl (by decide) ?_
    refine X.calls 9 [zl a1, zl 0, zl 7] [] [(0, zl a1), (2, zl 0), (4, zl 7)] i241_6 (by decide) rfl rfl (by omega) rfl rfl t204 (Nat.le_of_ble_eq_true rfl) (Nat.le_of_ble_eq_true rfl) rfl ?_
    refine X.lload_n 1 i204_0 rfl rfl rfl ?_
    refine X.lload_n 2 i204_1 rfl rfl rfl ?_
    refine X.lcmp 3 i204_2 rfl rfl (fun z509 hz509 => ?_)
    refine X.iflt 17 6 i204_3 rfl rfl rfl (fun h510 => ?_) (fun h510 => ?_)
    · have h510c : a1 < 0 := by omega
      clear h510 hz509
      refine X.cut [] i204_17 rfl ?_
      refine X.iconst 18 i204_17 rfl rfl (by decide) ?_
      refine X.retz i204_18 rfl t204 (by omega) ?_
      show X (EE s) (d - 1) 241 9 [(0, zi a1)] [zi 0] m503 _
      refine X.retz i241_9 rfl t241 (by omega) ?_
      show X (EE s) d 240 11 [(0, zr 4 44), (1, zi a1), (2, zi a2), (3, zi a3)] [zi 0] m503 _
      refine X.ifeq 33 14 i240_11 rfl rfl rfl (fun h511 => ?_) (fun h511 => (by exfalso; omega))
      refine X.cut [] i240_33 rfl ?_
      refine X.iconst 34 i240_33 rfl rfl (by decide) ?_
      refine X.reti i240_34 rfl t240 ?_
      exact hQ (-1) m503 (by first | trivial | omega) (hJ504.up (by omega)) 
    · have h510c : a1 ≥ 0 := by omega
      clear h510 hz509
      refine X.lload_n 7 i204_6 rfl rfl rfl ?_
      refine X.lload 9 i204_7 rfl rfl rfl ?_
      refine X.lcmp 10 i204_9 rfl rfl (fun z512 hz512 => ?_)
      refine X.ifgt 17 13 i204_10 rfl rfl rfl (fun h513 => ?_) (fun h513 => ?_)
      · have h513c : a1 > 7 := by omega
        clear h513 hz512
        refine X.cut [] i204_17 rfl ?_
        refine X.iconst 18 i204_17 rfl rfl (by decide) ?_
        refine X.retz i204_18 rfl t204 (by omega) ?_
        show X (EE s) (d - 1) 241 9 [(0, zi a1)] [zi 0] m503 _
        refine X.retz i241_9 rfl t241 (by omega) ?_
        show X (EE s) d 240 11 [(0, zr 4 44), (1, zi a1), (2, zi a2), (3, zi a3)] [zi 0] m503 _
        refine X.ifeq 33 14 i240_11 rfl rfl rfl (fun h514 => ?_) (fun h514 => (by exfalso; omega))
        refine X.cut [] i240_33 rfl ?_
        refine X.iconst 34 i240_33 rfl rfl (by decide) ?_
        refine X.reti i240_34 rfl t240 ?_
        exact hQ (-1) m503 (by first | trivial | omega) (hJ504.up (by omega)) 
      · have h513c : a1 ≤ 7 := by omega
        clear h513 hz512
        refine X.iconst 14 i204_13 rfl rfl (by decide) ?_
        refine X.goto 18 i204_14 rfl rfl ?_
        refine X.cut [] i204_18 rfl ?_
        refine X.retz i204_18 rfl t204 (by omega) ?_
        show X (EE s) (d - 1) 241 9 [(0, zi a1)] [zi 1] m503 _
        refine X.retz i241_9 rfl t241 (by omega) ?_
        show X (EE s) d 240 11 [(0, zr 4 44), (1, zi a1), (2, zi a2), (3, zi a3)] [zi 1] m503 _
        refine X.ifeq 33 14 i240_11 rfl rfl rfl (fun h515 => (by exfalso; omega)) (fun h515 => ?_)
        refine X.iload_n 15 i240_14 rfl rfl rfl ?_
        refine X.i2l 16 i240_15 rfl rfl ?_
        refine X.lconst (y := 0) 17 i240_16 rfl rfl rfl ?_
        refine X.ldc2 20 i240_17 rfl rfl (by decide) ?_
        refine X.calls 23 [zl a2, zl 0, zl 86399] [] [(0, zl a2), (2, zl 0), (4, zl 86399)] i240_20 (by decide) rfl rfl (by omega) rfl rfl t204 (Nat.le_of_ble_eq_true rfl) (Nat.le_of_ble_eq_true rfl) rfl ?_
        refine X.lload_n 1 i204_0 rfl rfl rfl ?_
        refine X.lload_n 2 i204_1 rfl rfl rfl ?_
        refine X.lcmp 3 i204_2 rfl rfl (fun z516 hz516 => ?_)
        refine X.iflt 17 6 i204_3 rfl rfl rfl (fun h517 => ?_) (fun h517 => ?_)
        · have h517c : a2 < 0 := by omega
          clear h517 hz516
          refine X.cut [] i204_17 rfl ?_
          refine X.iconst 18 i204_17 rfl rfl (by decide) ?_
          refine X.retz i204_18 rfl t204 (by omega) ?_
          show X (EE s) d 240 23 [(0, zr 4 44), (1, zi a1), (2, zi a2), (3, zi a3)] [zi 0] m503 _
          refine X.ifeq 33 26 i240_23 rfl rfl rfl (fun h518 => ?_) (fun h518 => (by exfalso; omega))
          refine X.cut [] i240_33 rfl ?_
          refine X.iconst 34 i240_33 rfl rfl (by decide) ?_
          refine X.reti i240_34 rfl t240 ?_
          exact hQ (-1) m503 (by first | trivial | omega) (hJ504.up (by omega)) 
        · have h517c : a2 ≥ 0 := by omega
          clear h517 hz516
          refine X.lload_n 7 i204_6 rfl rfl rfl ?_
          refine X.lload 9 i204_7 rfl rfl rfl ?_
          refine X.lcmp 10 i204_9 rfl rfl (fun z519 hz519 => ?_)
          refine X.ifgt 17 13 i204_10 rfl rfl rfl (fun h520 => ?_) (fun h520 => ?_)
          · have h520c : a2 > 86399 := by omega
            clear h520 hz519
            refine X.cut [] i204_17 rfl ?_
            refine X.iconst 18 i204_17 rfl rfl (by decide) ?_
            refine X.retz i204_18 rfl t204 (by omega) ?_
            show X (EE s) d 240 23 [(0, zr 4 44), (1, zi a1), (2, zi a2), (3, zi a3)] [zi 0] m503 _
            refine X.ifeq 33 26 i240_23 rfl rfl rfl (fun h521 => ?_) (fun h521 => (by exfalso; omega))
            refine X.cut [] i240_33 rfl ?_
            refine X.iconst 34 i240_33 rfl rfl (by decide) ?_
            refine X.reti i240_34 rfl t240 ?_
            exact hQ (-1) m503 (by first | trivial | omega) (hJ504.up (by omega)) 
          · have h520c : a2 ≤ 86399 := by omega
            clear h520 hz519
            refine X.iconst 14 i204_13 rfl rfl (by decide) ?_
            refine X.goto 18 i204_14 rfl rfl ?_
            refine X.cut [] i204_18 rfl ?_
            refine X.retz i204_18 rfl t204 (by omega) ?_
            show X (EE s) d 240 23 [(0, zr 4 44), (1, zi a1), (2, zi a2), (3, zi a3)] [zi 1] m503 _
            refine X.ifeq 33 26 i240_23 rfl rfl rfl (fun h522 => (by exfalso; omega)) (fun h522 => ?_)
            refine X.iload_n 27 i240_26 rfl rfl rfl ?_
            refine X.calls 30 [zi a3] [] [(0, zi a3)] i240_27 (by decide) rfl rfl (by omega) rfl rfl t242 (Nat.le_of_ble_eq_true rfl) (Nat.le_of_ble_eq_true rfl) rfl ?_
            refine X.iload_n 1 i242_0 rfl rfl rfl ?_
            refine X.i2l 2 i242_1 rfl rfl ?_
            refine X.lconst (y := 0) 3 i242_2 rfl rfl rfl ?_
            refine X.ldc2 6 i242_3 rfl rfl (by decide) ?_
            refine X.calls 9 [zl a3, zl 0, zl 3] [] [(0, zl a3), (2, zl 0), (4, zl 3)] i242_6 (by decide) rfl rfl (by omega) rfl rfl t204 (Nat.le_of_ble_eq_true rfl) (Nat.le_of_ble_eq_true rfl) rfl ?_
            refine X.lload_n 1 i204_0 rfl rfl rfl ?_
            refine X.lload_n 2 i204_1 rfl rfl rfl ?_
            refine X.lcmp 3 i204_2 rfl rfl (fun z523 hz523 => ?_)
            refine X.iflt 17 6 i204_3 rfl rfl rfl (fun h524 => ?_) (fun h524 => ?_)
            · have h524c : a3 < 0 := by omega
              clear h524 hz523
              refine X.cut [] i204_17 rfl ?_
              refine X.iconst 18 i204_17 rfl rfl (by decide) ?_
              refine X.retz i204_18 rfl t204 (by omega) ?_
              show X (EE s) (d - 1) 242 9 [(0, zi a3)] [zi 0] m503 _
              refine X.retz i242_9 rfl t242 (by omega) ?_
              show X (EE s) d 240 30 [(0, zr 4 44), (1, zi a1), (2, zi a2), (3, zi a3)] [zi 0] m503 _
              refine X.ifne 35 33 i240_30 rfl rfl rfl (fun h525 => (by exfalso; omega)) (fun h525 => ?_)
              refine X.cut [] i240_33 rfl ?_
              refine X.iconst 34 i240_33 rfl rfl (by decide) ?_
              refine X.reti i240_34 rfl t240 ?_
              exact hQ (-1) m503 (by first | trivial | omega) (hJ504.up (by omega)) 
            · have h524c : a3 ≥ 0 := by omega
              clear h524 hz523
              refine X.lload_n 7 i204_6 rfl rfl rfl ?_
              refine X.lload 9 i204_7 rfl rfl rfl ?_
              refine X.lcmp 10 i204_9 rfl rfl (fun z526 hz526 => ?_)
              refine X.ifgt 17 13 i204_10 rfl rfl rfl (fun h527 => ?_) (fun h527 => ?_)
              · have h527c : a3 > 3 := by omega
                clear h527 hz526
                refine X.cut [] i204_17 rfl ?_
                refine X.iconst 18 i204_17 rfl rfl (by decide) ?_
                refine X.retz i204_18 rfl t204 (by omega) ?_
                show X (EE s) (d - 1) 242 9 [(0, zi a3)] [zi 0] m503 _
                refine X.retz i242_9 rfl t242 (by omega) ?_
                show X (EE s) d 240 30 [(0, zr 4 44), (1, zi a1), (2, zi a2), (3, zi a3)] [zi 0] m503 _
                refine X.ifne 35 33 i240_30 rfl rfl rfl (fun h528 => (by exfalso; omega)) (fun h528 => ?_)
                refine X.cut [] i240_33 rfl ?_
                refine X.iconst 34 i240_33 rfl rfl (by decide) ?_
                refine X.reti i240_34 rfl t240 ?_
                exact hQ (-1) m503 (by first | trivial | omega) (hJ504.up (by omega)) 
              · have h527c : a3 ≤ 3 := by omega
                clear h527 hz526
                refine X.iconst 14 i204_13 rfl rfl (by decide) ?_
                refine X.goto 18 i204_14 rfl rfl ?_
                refine X.cut [] i204_18 rfl ?_
                refine X.retz i204_18 rfl t204 (by omega) ?_
                show X (EE s) (d - 1) 242 9 [(0, zi a3)] [zi 1] m503 _
                refine X.retz i242_9 rfl t242 (by omega) ?_
                show X (EE s) d 240 30 [(0, zr 4 44), (1, zi a1), (2, zi a2), (3, zi a3)] [zi 1] m503 _
                refine X.ifne 35 33 i240_30 rfl rfl rfl (fun h529 => ?_) (fun h529 => (by exfalso; omega))
                refine X.aload_n 36 i240_35 rfl rfl rfl ?_
                refine X.iload_n 37 i240_36 rfl rfl rfl ?_
                refine X.iload_n 38 i240_37 rfl rfl rfl ?_
                refine X.iload_n 39 i240_38 rfl rfl rfl ?_
                refine X.callv 42 [zi a1, zi a2, zi a3] [] [(0, zr 4 44), (1, zi a1), (2, zi a2), (3, zi a3)] i240_39 rfl (by decide) rfl rfl (by omega) rfl rfl (by decide) rfl t243 (Nat.le_of_ble_eq_true rfl) (Nat.le_of_ble_eq_true rfl) rfl ?_
                refine c243_1 (B := B)  a1 a2 a3 (by omega) (hJ504.up (by omega)) (by omega) (by omega) (by omega) (by omega) (fun v532 m530 hv532 hJ531 => ?_)
                show X (EE s) d 240 42 [(0, zr 4 44), (1, zi a1), (2, zi a2), (3, zi a3)] [zi v532] m530 _
                refine X.reti i240_42 rfl t240 ?_
                exact hQ v532 m530 (by first | trivial | omega) (hJ531.up (by omega)) 
  · have h507c : (m503 4 45 1614) = 1 := by omega
    clear h507 hz506
    refine X.iconst 33 i203_32 rfl rfl (by decide) ?_
    refine X.goto 37 i203_33 rfl rfl ?_
    refine X.cut [] i203_37 rfl ?_
    refine X.retz i203_37 rfl t203 (by omega) ?_
    show X (EE s) d 240 4 [(0, zr 4 44), (1, zi a1), (2, zi a2), (3, zi a3)] [zi 1] m503 _
    refine X.ifne 33 7 i240_4 rfl rfl rfl (fun h533 => ?_) (fun h533 => (by exfalso; omega))
    refine X.cut [] i240_33 rfl ?_
    refine X.iconst 34 i240_33 rfl rfl (by decide) ?_
    refine X.reti i240_34 rfl t240 ?_
    exact hQ (-1) m503 (by first | trivial | omega) (hJ504.up (by omega)) 
-- WorkMeter.wipe
theorem c83_1 {s : Nat × (Nat → Int32)} {S : zS} {m0 m : zM} {B : Int} {d : Nat} {Q : Option zV → zM → Prop} (a1 : Int) (hd : 13 ≤ d) (hJ : J S m0 B m) (hB : B + 0 ≤ 1000000000) (ha1 : (-2147483648) ≤ a1 ∧ a1 ≤ 2147483647) (hQ : ∀ (v : Int) m', ((-1) ≤ v ∧ v ≤ 6) → J S m0 (B) m' → Q (some (zi v)) m') : X (EE s) d 83 0 [(0, zr 4 40), (1, zi a1)] [] m Q := by
  refine X.aload_n 1 i83_0 rfl rfl rfl ?_
  refine X.getF 4 i83_1 rfl rfl (by decide) rfl rfl ?_
  refine X.getR 7 i83_4 rfl rfl (by decide) rfl rfl ?_
  refine X.callv 10 [] [] [(0, zr 0 39)] i83_7 rfl (by decide) rfl rfl (by omega) rfl rfl (by decide) rfl t17 (Nat.le_of_ble_eq_true rfl) (Nat.le_of_ble_eq_true rfl) rfl ?_
  refine X.aload_n 1 i17_0 rfl rfl rfl ?_
  refine X.getZ 4 0 i17_1 rfl rfl (by decide) rfl rfl rfl (fun h501 => ?_)
  refine X.ifeq 17 7 i17_4 rfl rfl rfl (fun h502 => ?_) (fun h502 => ?_)
  · refine X.aload_n 18 i17_17 rfl rfl rfl ?_
    refine X.getZ 21 0 i17_18 rfl rfl (by decide) rfl rfl rfl (fun h503 => ?_)
    refine X.retz i17_21 rfl t17 (by omega) ?_
    show X (EE s) d 83 10 [(0, zr 4 40), (1, zi a1)] [zi (m 0 39 0)] m _
    refine X.ifne 20 13 i83_10 rfl rfl rfl (fun h504 => ?_) (fun h504 => ?_)
    · refine X.cut [] i83_20 rfl ?_
      refine X.iconst 21 i83_20 rfl rfl (by decide) ?_
      refine X.reti i83_21 rfl t83 ?_
      exact hQ (-1) m (by first | trivial | omega) (hJ.up (by omega)) 
    · refine X.iload_n 14 i83_13 rfl rfl rfl ?_
      refine X.calls 17 [zi a1] [] [(0, zi a1)] i83_14 (by decide) rfl rfl (by omega) rfl rfl t79 (Nat.le_of_ble_eq_true rfl) (Nat.le_of_ble_eq_true rfl) rfl ?_
      refine X.iload_n 1 i79_0 rfl rfl rfl ?_
      refine X.iflt 14 4 i79_1 rfl rfl rfl (fun h505 => ?_) (fun h505 => ?_)
      · refine X.cut [] i79_14 rfl ?_
        refine X.iconst 15 i79_14 rfl rfl (by decide) ?_
        refine X.retz i79_15 rfl t79 (by omega) ?_
        show X (EE s) d 83 17 [(0, zr 4 40), (1, zi a1)] [zi 0] m _
        refine X.ifne 22 20 i83_17 rfl rfl rfl (fun h506 => (by exfalso; omega)) (fun h506 => ?_)
        refine X.cut [] i83_20 rfl ?_
        refine X.iconst 21 i83_20 rfl rfl (by decide) ?_
        refine X.reti i83_21 rfl t83 ?_
        exact hQ (-1) m (by first | trivial | omega) (hJ.up (by omega)) 
      · refine X.iload_n 5 i79_4 rfl rfl rfl ?_
        refine X.bipush 7 i79_5 rfl rfl (by decide) ?_
        refine X.icmpge 14 10 i79_7 rfl rfl rfl (fun h507 => ?_) (fun h507 => ?_)
        · refine X.cut [] i79_14 rfl ?_
          refine X.iconst 15 i79_14 rfl rfl (by decide) ?_
          refine X.retz i79_15 rfl t79 (by omega) ?_
          show X (EE s) d 83 17 [(0, zr 4 40), (1, zi a1)] [zi 0] m _
          refine X.ifne 22 20 i83_17 rfl rfl rfl (fun h508 => (by exfalso; omega)) (fun h508 => ?_)
          refine X.cut [] i83_20 rfl ?_
          refine X.iconst 21 i83_20 rfl rfl (by decide) ?_
          refine X.reti i83_21 rfl t83 ?_
          exact hQ (-1) m (by first | trivial | omega) (hJ.up (by omega)) 
        · refine X.iconst 11 i79_10 rfl rfl (by decide) ?_
          refine X.goto 15 i79_11 rfl rfl ?_
          refine X.cut [] i79_15 rfl ?_
          refine X.retz i79_15 rfl t79 (by omega) ?_
          show X (EE s) d 83 17 [(0, zr 4 40), (1, zi a1)] [zi 1] m _
          refine X.ifne 22 20 i83_17 rfl rfl rfl (fun h509 => ?_) (fun h509 => (by exfalso; omega))
          refine X.aload_n 23 i83_22 rfl rfl rfl ?_
          refine X.getF 26 i83_23 rfl rfl (by decide) rfl rfl ?_
          refine X.getR 29 i83_26 rfl rfl (by decide) rfl rfl ?_
          refine X.iload_n 30 i83_29 rfl rfl rfl ?_
          refine X.callv 33 [zi a1] [] [(0, zr 0 11), (1, zi a1)] i83_30 rfl (by decide) rfl rfl (by omega) rfl rfl (by decide) rfl t84 (Nat.le_of_ble_eq_true rfl) (Nat.le_of_ble_eq_true rfl) rfl ?_
          refine X.aload_n 1 i84_0 rfl rfl rfl ?_
          refine X.getR 4 i84_1 rfl rfl (by decide) rfl rfl ?_
          refine X.iload_n 5 i84_4 rfl rfl rfl ?_
          refine X.iald 6 i84_5 rfl rfl (by decide) rfl (by omega) ?_
          have h510 := r12_0 hJ 0 (i := a1) (by omega)
          refine X.istore_n 7 [(0, zr 0 11), (1, zi a1), (2, zi (m 0 12 a1))] i84_6 rfl rfl rfl ?_
          refine X.aload_n 8 i84_7 rfl rfl rfl ?_
          refine X.getR 11 i84_8 rfl rfl (by decide) rfl rfl ?_
          refine X.iload_n 12 i84_11 rfl rfl rfl ?_
          refine X.iconst 13 i84_12 rfl rfl (by decide) ?_
          refine X.iast' 14 i84_13 rfl rfl (by decide) rfl (by omega) (fun hrm511 m511 hm511 => ?_)
          have hJ512 := w12_0 hJ hm511 (by omega) (by omega)
          refine X.iload_n 15 i84_14 rfl rfl rfl ?_
          refine X.reti i84_15 rfl t84 ?_
          show X (EE s) d 83 33 [(0, zr 4 40), (1, zi a1)] [zi (m 0 12 a1)] m511 _
          refine X.reti i83_33 rfl t83 ?_
          exact hQ (m 0 12 a1) m511 (by first | trivial | omega) (hJ512.up (by omega)) 
  · refine X.aload_n 8 i17_7 rfl rfl rfl ?_
    refine X.dup 9 i17_8 rfl rfl rfl ?_
    refine X.getIr 12 3 i17_9 rfl rfl (by decide) rfl rfl rfl (fun h513 => ?_)
    refine X.iconst 13 i17_12 rfl rfl (by decide) ?_
    refine X.iiF 14 .iadd (fun x y => x + y) i17_13 rfl rfl rfl (fun _ _ => rfl) (fun z514 hz514 => ?_)
    refine X.putI' 17 3 i17_14 rfl rfl (by decide) rfl rfl rfl (fun hrm515 m515 hm515 => ?_)
    have hJ516 := w39_3 hJ hm515 hrm515
    refine X.aload_n 18 i17_17 rfl rfl rfl ?_
    refine X.getZ 21 0 i17_18 rfl rfl (by decide) rfl rfl rfl (fun h517 => ?_)
    refine X.retz i17_21 rfl t17 (by omega) ?_
    show X (EE s) d 83 10 [(0, zr 4 40), (1, zi a1)] [zi (m515 0 39 0)] m515 _
    refine X.ifne 20 13 i83_10 rfl rfl rfl (fun h518 => ?_) (fun h518 => ?_)
    · refine X.cut [] i83_20 rfl ?_
      refine X.iconst 21 i83_20 rfl rfl (by decide) ?_
      refine X.reti i83_21 rfl t83 ?_
      exact hQ (-1) m515 (by first | trivial | omega) (hJ516.up (by omega)) 
    · refine X.iload_n 14 i83_13 rfl rfl rfl ?_
      refine X.calls 17 [zi a1] [] [(0, zi a1)] i83_14 (by decide) rfl rfl (by omega) rfl rfl t79 (Nat.le_of_ble_eq_true rfl) (Nat.le_of_ble_eq_true rfl) rfl ?_
      refine X.iload_n 1 i79_0 rfl rfl rfl ?_
      refine X.iflt 14 4 i79_1 rfl rfl rfl (fun h519 => ?_) (fun h519 => ?_)
      · refine X.cut [] i79_14 rfl ?_
        refine X.iconst 15 i79_14 rfl rfl (by decide) ?_
        refine X.retz i79_15 rfl t79 (by omega) ?_
        show X (EE s) d 83 17 [(0, zr 4 40), (1, zi a1)] [zi 0] m515 _
        refine X.ifne 22 20 i83_17 rfl rfl rfl (fun h520 => (by exfalso; omega)) (fun h520 => ?_)
        refine X.cut [] i83_20 rfl ?_
        refine X.iconst 21 i83_20 rfl rfl (by decide) ?_
        refine X.reti i83_21 rfl t83 ?_
        exact hQ (-1) m515 (by first | trivial | omega) (hJ516.up (by omega)) 
      · refine X.iload_n 5 i79_4 rfl rfl rfl ?_
        refine X.bipush 7 i79_5 rfl rfl (by decide) ?_
        refine X.icmpge 14 10 i79_7 rfl rfl rfl (fun h521 => ?_) (fun h521 => ?_)
        · refine X.cut [] i79_14 rfl ?_
          refine X.iconst 15 i79_14 rfl rfl (by decide) ?_
          refine X.retz i79_15 rfl t79 (by omega) ?_
          show X (EE s) d 83 17 [(0, zr 4 40), (1, zi a1)] [zi 0] m515 _
          refine X.ifne 22 20 i83_17 rfl rfl rfl (fun h522 => (by exfalso; omega)) (fun h522 => ?_)
          refine X.cut [] i83_20 rfl ?_
          refine X.iconst 21 i83_20 rfl rfl (by decide) ?_
          refine X.reti i83_21 rfl t83 ?_
          exact hQ (-1) m515 (by first | trivial | omega) (hJ516.up (by omega)) 
        · refine X.iconst 11 i79_10 rfl rfl (by decide) ?_
          refine X.goto 15 i79_11 rfl rfl ?_
          refine X.cut [] i79_15 rfl ?_
          refine X.retz i79_15 rfl t79 (by omega) ?_
          show X (EE s) d 83 17 [(0, zr 4 40), (1, zi a1)] [zi 1] m515 _
          refine X.ifne 22 20 i83_17 rfl rfl rfl (fun h523 => ?_) (fun h523 => (by exfalso; omega))
          refine X.aload_n 23 i83_22 rfl rfl rfl ?_
          refine X.getF 26 i83_23 rfl rfl (by decide) rfl rfl ?_
          refine X.getR 29 i83_26 rfl rfl (by decide) rfl rfl ?_
          refine X.iload_n 30 i83_29 rfl rfl rfl ?_
          refine X.callv 33 [zi a1] [] [(0, zr 0 11), (1, zi a1)] i83_30 rfl (by decide) rfl rfl (by omega) rfl rfl (by decide) rfl t84 (Nat.le_of_ble_eq_true rfl) (Nat.le_of_ble_eq_true rfl) rfl ?_
          refine X.aload_n 1 i84_0 rfl rfl rfl ?_
          refine X.getR 4 i84_1 rfl rfl (by decide) rfl rfl ?_
          refine X.iload_n 5 i84_4 rfl rfl rfl ?_
          refine X.iald 6 i84_5 rfl rfl (by decide) rfl (by omega) ?_
          have h524 := r12_0 hJ516 0 (i := a1) (by omega)
          refine X.istore_n 7 [(0, zr 0 11), (1, zi a1), (2, zi (m515 0 12 a1))] i84_6 rfl rfl rfl ?_
          refine X.aload_n 8 i84_7 rfl rfl rfl ?_
          refine X.getR 11 i84_8 rfl rfl (by decide) rfl rfl ?_
          refine X.iload_n 12 i84_11 rfl rfl rfl ?_
          refine X.iconst 13 i84_12 rfl rfl (by decide) ?_
          refine X.iast' 14 i84_13 rfl rfl (by decide) rfl (by omega) (fun hrm525 m525 hm525 => ?_)
          have hJ526 := w12_0 hJ516 hm525 (by omega) (by omega)
          refine X.iload_n 15 i84_14 rfl rfl rfl ?_
          refine X.reti i84_15 rfl t84 ?_
          show X (EE s) d 83 33 [(0, zr 4 40), (1, zi a1)] [zi (m515 0 12 a1)] m525 _
          refine X.reti i83_33 rfl t83 ?_
          exact hQ (m515 0 12 a1) m525 (by first | trivial | omega) (hJ526.up (by omega)) 
-- WorkMeterModel.wipe
theorem c244_1 {s : Nat × (Nat → Int32)} {S : zS} {m0 m : zM} {B : Int} {d : Nat} {Q : Option zV → zM → Prop} (a1 : Int) (hd : 13 ≤ d) (hJ : J S m0 B m) (hB : B + 0 ≤ 1000000000) (ha1 : (-2147483648) ≤ a1 ∧ a1 ≤ 2147483647) (hQ : ∀ (v : Int) m', ((-1) ≤ v ∧ v ≤ 6) → J S m0 (B) m' → Q (some (zi v)) m') : X (EE s) d 244 0 [(0, zr 4 44), (1, zi a1)] [] m Q := by
  refine X.aload_n 1 i244_0 rfl rfl rfl ?_
  refine X.callv 4 [] [] [(0, zr 4 44)] i244_1 rfl (by decide) rfl rfl (by omega) rfl rfl (by decide) rfl t203 (Nat.le_of_ble_eq_true rfl) (Nat.le_of_ble_eq_true rfl) rfl ?_
  refine X.aload_n 1 i203_0 rfl rfl rfl ?_
  refine X.getF 4 i203_1 rfl rfl (by decide) rfl rfl ?_
  refine X.sipush 7 i203_4 rfl rfl (by decide) ?_
  refine X.dup2 8 i203_7 rfl rfl ?_
  refine X.lald 9 i203_8 rfl rfl (by decide) rfl (by omega) ?_
  refine X.aload_n 10 i203_9 rfl rfl rfl ?_
  refine X.getF 13 i203_10 rfl rfl (by decide) rfl rfl ?_
  refine X.sipush 16 i203_13 rfl rfl (by decide) ?_
  refine X.lald 17 i203_16 rfl rfl (by decide) rfl (by omega) ?_
  have h501 := r45_1614 hJ 4
  refine X.llF 18 .ladd (fun x y => x + y) i203_17 rfl rfl rfl (fun _ _ => rfl) (fun z502 hz502 => ?_)
  refine X.last' 19 i203_18 rfl rfl (by decide) rfl (by omega) (fun hrm503 m503 hm503 => ?_)
  have hJ504 := w45_1618 hJ hm503 hrm503
  refine X.aload_n 20 i203_19 rfl rfl rfl ?_
  refine X.getF 23 i203_20 rfl rfl (by decide) rfl rfl ?_
  refine X.sipush 26 i203_23 rfl rfl (by decide) ?_
  refine X.lald 27 i203_26 rfl rfl (by decide) rfl (by omega) ?_
  have h505 := r45_1614 hJ504 4
  refine X.lconst (y := 1) 28 i203_27 rfl rfl rfl ?_
  refine X.lcmp 29 i203_28 rfl rfl (fun z506 hz506 => ?_)
  refine X.ifne 36 32 i203_29 rfl rfl rfl (fun h507 => ?_) (fun h507 => ?_)
  · have h507c : (m503 4 45 1614) ≠ 1 := by omega
    clear h507 hz506
    refine X.cut [] i203_36 rfl ?_
    refine X.iconst 37 i203_36 rfl rfl (by decide) ?_
    refine X.retz i203_37 rfl t203 (by omega) ?_
    show X (EE s) d 244 4 [(0, zr 4 44), (1, zi a1)] [zi 0] m503 _
    refine X.ifne 14 7 i244_4 rfl rfl rfl (fun h508 => (by exfalso; omega)) (fun h508 => ?_)
    refine X.iload_n 8 i244_7 rfl rfl rfl ?_
    refine X.calls 11 [zi a1] [] [(0, zi a1)] i244_8 (by decide) rfl rfl (by omega) rfl rfl t241 (Nat.le_of_ble_eq_true rfl) (Nat.le_of_ble_eq_true rfl) rfl ?_
    refine X.iload_n 1 i241_0 rfl rfl rfl ?_
    refine X.i2l 2 i241_1 rfl rfl ?_
    refine X.lconst (y := 0) 3 i241_2 rfl rfl rfl ?_
    refine X.ldc2 6 i241_3 rfl rfl (by decide) ?_
    refine X.calls 9 [zl a1, zl 0, zl 7] [] [(0, zl a1), (2, zl 0), (4, zl 7)] i241_6 (by decide) rfl rfl (by omega) rfl rfl t204 (Nat.le_of_ble_eq_true rfl) (Nat.le_of_ble_eq_true rfl) rfl ?_
    refine X.lload_n 1 i204_0 rfl rfl rfl ?_
    refine X.lload_n 2 i204_1 rfl rfl rfl ?_
    refine X.lcmp 3 i204_2 rfl rfl (fun z509 hz509 => ?_)
    refine X.iflt 17 6 i204_3 rfl rfl rfl (fun h510 => ?_) (fun h510 => ?_)
    · have h510c : a1 < 0 := by omega
      clear h510 hz509
      refine X.cut [] i204_17 rfl ?_
      refine X.iconst 18 i204_17 rfl rfl (by decide) ?_
      refine X.retz i204_18 rfl t204 (by omega) ?_
      show X (EE s) (d - 1) 241 9 [(0, zi a1)] [zi 0] m503 _
      refine X.retz i241_9 rfl t241 (by omega) ?_
      show X (EE s) d 244 11 [(0, zr 4 44), (1, zi a1)] [zi 0] m503 _
      refine X.ifne 16 14 i244_11 rfl rfl rfl (fun h511 => (by exfalso; omega)) (fun h511 => ?_)
      refine X.cut [] i244_14 rfl ?_
      refine X.iconst 15 i244_14 rfl rfl (by decide) ?_
      refine X.reti i244_15 rfl t244 ?_
      exact hQ (-1) m503 (by first | trivial | omega) (hJ504.up (by omega)) 
    · have h510c : a1 ≥ 0 := by omega
      clear h510 hz509
      refine X.lload_n 7 i204_6 rfl rfl rfl ?_
      refine X.lload 9 i204_7 rfl rfl rfl ?_
      refine X.lcmp 10 i204_9 rfl rfl (fun z512 hz512 => ?_)
      refine X.ifgt 17 13 i204_10 rfl rfl rfl (fun h513 => ?_) (fun h513 => ?_)
      · have h513c : a1 > 7 := by omega
        clear h513 hz512
        refine X.cut [] i204_17 rfl ?_
        refine X.iconst 18 i204_17 rfl rfl (by decide) ?_
        refine X.retz i204_18 rfl t204 (by omega) ?_
        show X (EE s) (d - 1) 241 9 [(0, zi a1)] [zi 0] m503 _
        refine X.retz i241_9 rfl t241 (by omega) ?_
        show X (EE s) d 244 11 [(0, zr 4 44), (1, zi a1)] [zi 0] m503 _
        refine X.ifne 16 14 i244_11 rfl rfl rfl (fun h514 => (by exfalso; omega)) (fun h514 => ?_)
        refine X.cut [] i244_14 rfl ?_
        refine X.iconst 15 i244_14 rfl rfl (by decide) ?_
        refine X.reti i244_15 rfl t244 ?_
        exact hQ (-1) m503 (by first | trivial | omega) (hJ504.up (by omega)) 
      · have h513c : a1 ≤ 7 := by omega
        clear h513 hz512
        refine X.iconst 14 i204_13 rfl rfl (by decide) ?_
        refine X.goto 18 i204_14 rfl rfl ?_
        refine X.cut [] i204_18 rfl ?_
        refine X.retz i204_18 rfl t204 (by omega) ?_
        show X (EE s) (d - 1) 241 9 [(0, zi a1)] [zi 1] m503 _
        refine X.retz i241_9 rfl t241 (by omega) ?_
        show X (EE s) d 244 11 [(0, zr 4 44), (1, zi a1)] [zi 1] m503 _
        refine X.ifne 16 14 i244_11 rfl rfl rfl (fun h515 => ?_) (fun h515 => (by exfalso; omega))
        refine X.aload_n 17 i244_16 rfl rfl rfl ?_
        refine X.getF 20 i244_17 rfl rfl (by decide) rfl rfl ?_
        refine X.sipush 23 i244_20 rfl rfl (by decide) ?_
        refine X.iload_n 24 i244_23 rfl rfl rfl ?_
        refine X.iadd 25 i244_24 rfl rfl (by omega) ?_
        refine X.lald 26 i244_25 rfl rfl (by decide) rfl (by omega) ?_
        have h516 := r45_287 hJ504 4 (i := (287 + a1)) (by omega)
        refine X.l2i 27 i244_26 rfl rfl (by omega) ?_
        refine X.istore_n 28 [(0, zr 4 44), (1, zi a1), (2, zi (m503 4 45 (287 + a1)))] i244_27 rfl rfl rfl ?_
        refine X.aload_n 29 i244_28 rfl rfl rfl ?_
        refine X.getF 32 i244_29 rfl rfl (by decide) rfl rfl ?_
        refine X.sipush 35 i244_32 rfl rfl (by decide) ?_
        refine X.iload_n 36 i244_35 rfl rfl rfl ?_
        refine X.iadd 37 i244_36 rfl rfl (by omega) ?_
        refine X.lconst (y := 0) 38 i244_37 rfl rfl rfl ?_
        refine X.last' 39 i244_38 rfl rfl (by decide) rfl (by omega) (fun hrm517 m517 hm517 => ?_)
        have hJ518 := w45_287 hJ504 hm517 (by omega) (by omega)
        refine X.iload_n 40 i244_39 rfl rfl rfl ?_
        refine X.reti i244_40 rfl t244 ?_
        exact hQ (m503 4 45 (287 + a1)) m517 (by first | trivial | omega) (hJ518.up (by omega)) 
  · have h507c : (m503 4 45 1614) = 1 := by omega
    clear h507 hz506
    refine X.iconst 33 i203_32 rfl rfl (by decide) ?_
    refine X.goto 37 i203_33 rfl rfl ?_
    refine X.cut [] i203_37 rfl ?_
    refine X.retz i203_37 rfl t203 (by omega) ?_
    show X (EE s) d 244 4 [(0, zr 4 44), (1, zi a1)] [zi 1] m503 _
    refine X.ifne 14 7 i244_4 rfl rfl rfl (fun h519 => ?_) (fun h519 => (by exfalso; omega))
    refine X.cut [] i244_14 rfl ?_
    refine X.iconst 15 i244_14 rfl rfl (by decide) ?_
    refine X.reti i244_15 rfl t244 ?_
    exact hQ (-1) m503 (by first | trivial | omega) (hJ504.up (by omega)) 
-- WorkMeter$CalendarText.putBytes
theorem c87_1 {s : Nat × (Nat → Int32)} {S : zS} {m0 m : zM} {B : Int} {d : Nat} {Q : Option zV → zM → Prop} (a1 : Int) (hd : 13 ≤ d) (hJ : J S m0 B m) (hB : B + 0 ≤ 1000000000) (ha1 : (-2147483648) ≤ a1 ∧ a1 ≤ 2147483647) (hp0 : m 4 41 3 ≤ 296) (hs0 : S.1 4 41 3) (hQ : ∀ m', J S m0 (B) m' → (m' 4 41 3 = m 4 41 3 + 4) → Q none m') : X (EE s) d 87 0 [(0, zr 4 41), (1, zi a1)] [] m Q := by
  refine X.bipush 2 i87_0 rfl rfl (by decide) ?_
  refine X.istore_n 3 [(0, zr 4 41), (1, zi a1), (2, zi 24)] i87_2 rfl rfl rfl ?_
  refine X.iload_n 4 i87_3 rfl rfl rfl ?_
  refine X.iflt 49 7 i87_4 rfl rfl rfl (fun h501 => (by exfalso; omega)) (fun h501 => ?_)
  refine X.aload_n 8 i87_7 rfl rfl rfl ?_
  refine X.getI 11 3 i87_8 rfl rfl (by decide) rfl rfl rfl ?_
  have h502 := r41_3 hJ 4
  refine X.sipush 14 i87_11 rfl rfl (by decide) ?_
  refine X.icmpge 49 17 i87_14 rfl rfl rfl (fun h503 => ?_) (fun h503 => ?_)
  · refine X.cut [] i87_49 rfl ?_
    refine X.retv i87_49 rfl t87 ?_
    exact hQ  m  (hJ.up (by omega)) (by exact (by omega))
  · refine X.aload_n 18 i87_17 rfl rfl rfl ?_
    refine X.getF 21 i87_18 rfl rfl (by decide) rfl rfl ?_
    refine X.aload_n 22 i87_21 rfl rfl rfl ?_
    refine X.getI 25 3 i87_22 rfl rfl (by decide) rfl rfl rfl ?_
    refine X.iload_n 26 i87_25 rfl rfl rfl ?_
    refine X.iload_n 27 i87_26 rfl rfl rfl ?_
    refine X.iiF 28 .iushr (fun x y => (x.toUInt32 >>> (y.toUInt32 &&& Int32.toUInt32 31)).toInt32) i87_27 rfl rfl rfl (fun _ _ => rfl) (fun z504 hz504 => ?_)
    refine X.sipush 31 i87_28 rfl rfl (by decide) ?_
    refine X.andF 32 255 i87_31 rfl rfl (by decide) (.inl rfl) (fun z505 hz505 => ?_)
    refine X.iast' 33 i87_32 rfl rfl (by decide) rfl (by omega) (fun hrm506 m506 hm506 => ?_)
    have hJ507 := w42_0 hJ hm506 (by omega) (by omega)
    have wt508 : m506 4 41 3 = (m 4 41 3) := by rw [hm506]; exact z_upd_o _ _ rfl
    refine X.aload_n 34 i87_33 rfl rfl rfl ?_
    refine X.dup 35 i87_34 rfl rfl rfl ?_
    refine X.getI 38 3 i87_35 rfl rfl (by decide) rfl rfl rfl ?_
    have h509 := r41_3 hJ507 4
    refine X.iconst 39 i87_38 rfl rfl (by decide) ?_
    refine X.iadd 40 i87_39 rfl rfl (by omega) ?_
    refine X.putI' 43 3 i87_40 rfl rfl (by decide) rfl rfl rfl (fun hrm510 m510 hm510 => ?_)
    have hJ511 := w41_3 hJ507 hm510 (by omega) hs0
    have wt512 : m510 4 41 3 = ((m506 4 41 3) + 1) := by rw [hm510]; exact z_upd_same _ _ _ _ _
    have em510 : m510 4 41 3 = ((m506 4 41 3) + 1) := by rw [hm510]; exact z_upd_same _ _ _ _ _
    refine X.iinc 46 [(0, zr 4 41), (1, zi a1), (2, zi (24 + (-8)))] i87_43 rfl rfl rfl (by omega) rfl ?_
    refine X.goto 3 i87_46 rfl rfl ?_
    refine X.iload_n 4 i87_3 rfl rfl rfl ?_
    refine X.iflt 49 7 i87_4 rfl rfl rfl (fun h513 => (by exfalso; omega)) (fun h513 => ?_)
    refine X.aload_n 8 i87_7 rfl rfl rfl ?_
    refine X.getI 11 3 i87_8 rfl rfl (by decide) rfl rfl rfl ?_
    refine X.sipush 14 i87_11 rfl rfl (by decide) ?_
    refine X.icmpge 49 17 i87_14 rfl rfl rfl (fun h514 => ?_) (fun h514 => ?_)
    · refine X.cut [] i87_49 rfl ?_
      refine X.retv i87_49 rfl t87 ?_
      exact hQ  m510  (hJ511.up (by omega)) (by exact (by omega))
    · refine X.aload_n 18 i87_17 rfl rfl rfl ?_
      refine X.getF 21 i87_18 rfl rfl (by decide) rfl rfl ?_
      refine X.aload_n 22 i87_21 rfl rfl rfl ?_
      refine X.getI 25 3 i87_22 rfl rfl (by decide) rfl rfl rfl ?_
      refine X.iload_n 26 i87_25 rfl rfl rfl ?_
      refine X.iload_n 27 i87_26 rfl rfl rfl ?_
      refine X.iiF 28 .iushr (fun x y => (x.toUInt32 >>> (y.toUInt32 &&& Int32.toUInt32 31)).toInt32) i87_27 rfl rfl rfl (fun _ _ => rfl) (fun z515 hz515 => ?_)
      refine X.sipush 31 i87_28 rfl rfl (by decide) ?_
      refine X.andF 32 255 i87_31 rfl rfl (by decide) (.inl rfl) (fun z516 hz516 => ?_)
      refine X.iast' 33 i87_32 rfl rfl (by decide) rfl (by omega) (fun hrm517 m517 hm517 => ?_)
      have hJ518 := w42_0 hJ511 hm517 (by omega) (by omega)
      have wt519 : m517 4 41 3 = ((m506 4 41 3) + 1) := Eq.trans (by rw [hm517]; exact z_upd_o _ _ rfl) wt512
      refine X.aload_n 34 i87_33 rfl rfl rfl ?_
      refine X.dup 35 i87_34 rfl rfl rfl ?_
      refine X.getI 38 3 i87_35 rfl rfl (by decide) rfl rfl rfl ?_
      have h520 := r41_3 hJ518 4
      refine X.iconst 39 i87_38 rfl rfl (by decide) ?_
      refine X.iadd 40 i87_39 rfl rfl (by omega) ?_
      refine X.putI' 43 3 i87_40 rfl rfl (by decide) rfl rfl rfl (fun hrm521 m521 hm521 => ?_)
      have hJ522 := w41_3 hJ518 hm521 (by omega) hs0
      have wt523 : m521 4 41 3 = ((m517 4 41 3) + 1) := by rw [hm521]; exact z_upd_same _ _ _ _ _
      have em521 : m521 4 41 3 = ((m517 4 41 3) + 1) := by rw [hm521]; exact z_upd_same _ _ _ _ _
      refine X.iinc 46 [(0, zr 4 41), (1, zi a1), (2, zi ((24 + (-8)) + (-8)))] i87_43 rfl rfl rfl (by omega) rfl ?_
      refine X.goto 3 i87_46 rfl rfl ?_
      refine X.iload_n 4 i87_3 rfl rfl rfl ?_
      refine X.iflt 49 7 i87_4 rfl rfl rfl (fun h524 => (by exfalso; omega)) (fun h524 => ?_)
      refine X.aload_n 8 i87_7 rfl rfl rfl ?_
      refine X.getI 11 3 i87_8 rfl rfl (by decide) rfl rfl rfl ?_
      refine X.sipush 14 i87_11 rfl rfl (by decide) ?_
      refine X.icmpge 49 17 i87_14 rfl rfl rfl (fun h525 => ?_) (fun h525 => ?_)
      · refine X.cut [] i87_49 rfl ?_
        refine X.retv i87_49 rfl t87 ?_
        exact hQ  m521  (hJ522.up (by omega)) (by exact (by omega))
      · refine X.aload_n 18 i87_17 rfl rfl rfl ?_
        refine X.getF 21 i87_18 rfl rfl (by decide) rfl rfl ?_
        refine X.aload_n 22 i87_21 rfl rfl rfl ?_
        refine X.getI 25 3 i87_22 rfl rfl (by decide) rfl rfl rfl ?_
        refine X.iload_n 26 i87_25 rfl rfl rfl ?_
        refine X.iload_n 27 i87_26 rfl rfl rfl ?_
        refine X.iiF 28 .iushr (fun x y => (x.toUInt32 >>> (y.toUInt32 &&& Int32.toUInt32 31)).toInt32) i87_27 rfl rfl rfl (fun _ _ => rfl) (fun z526 hz526 => ?_)
        refine X.sipush 31 i87_28 rfl rfl (by decide) ?_
        refine X.andF 32 255 i87_31 rfl rfl (by decide) (.inl rfl) (fun z527 hz527 => ?_)
        refine X.iast' 33 i87_32 rfl rfl (by decide) rfl (by omega) (fun hrm528 m528 hm528 => ?_)
        have hJ529 := w42_0 hJ522 hm528 (by omega) (by omega)
        have wt530 : m528 4 41 3 = ((m517 4 41 3) + 1) := Eq.trans (by rw [hm528]; exact z_upd_o _ _ rfl) wt523
        refine X.aload_n 34 i87_33 rfl rfl rfl ?_
        refine X.dup 35 i87_34 rfl rfl rfl ?_
        refine X.getI 38 3 i87_35 rfl rfl (by decide) rfl rfl rfl ?_
        have h531 := r41_3 hJ529 4
        refine X.iconst 39 i87_38 rfl rfl (by decide) ?_
        refine X.iadd 40 i87_39 rfl rfl (by omega) ?_
        refine X.putI' 43 3 i87_40 rfl rfl (by decide) rfl rfl rfl (fun hrm532 m532 hm532 => ?_)
        have hJ533 := w41_3 hJ529 hm532 (by omega) hs0
        have wt534 : m532 4 41 3 = ((m528 4 41 3) + 1) := by rw [hm532]; exact z_upd_same _ _ _ _ _
        have em532 : m532 4 41 3 = ((m528 4 41 3) + 1) := by rw [hm532]; exact z_upd_same _ _ _ _ _
        refine X.iinc 46 [(0, zr 4 41), (1, zi a1), (2, zi (((24 + (-8)) + (-8)) + (-8)))] i87_43 rfl rfl rfl (by omega) rfl ?_
        refine X.goto 3 i87_46 rfl rfl ?_
        refine X.iload_n 4 i87_3 rfl rfl rfl ?_
        refine X.iflt 49 7 i87_4 rfl rfl rfl (fun h535 => (by exfalso; omega)) (fun h535 => ?_)
        refine X.aload_n 8 i87_7 rfl rfl rfl ?_
        refine X.getI 11 3 i87_8 rfl rfl (by decide) rfl rfl rfl ?_
        refine X.sipush 14 i87_11 rfl rfl (by decide) ?_
        refine X.icmpge 49 17 i87_14 rfl rfl rfl (fun h536 => ?_) (fun h536 => ?_)
        · refine X.cut [] i87_49 rfl ?_
          refine X.retv i87_49 rfl t87 ?_
          exact hQ  m532  (hJ533.up (by omega)) (by exact (by omega))
        · refine X.aload_n 18 i87_17 rfl rfl rfl ?_
          refine X.getF 21 i87_18 rfl rfl (by decide) rfl rfl ?_
          refine X.aload_n 22 i87_21 rfl rfl rfl ?_
          refine X.getI 25 3 i87_22 rfl rfl (by decide) rfl rfl rfl ?_
          refine X.iload_n 26 i87_25 rfl rfl rfl ?_
          refine X.iload_n 27 i87_26 rfl rfl rfl ?_
          refine X.iiF 28 .iushr (fun x y => (x.toUInt32 >>> (y.toUInt32 &&& Int32.toUInt32 31)).toInt32) i87_27 rfl rfl rfl (fun _ _ => rfl) (fun z537 hz537 => ?_)
          refine X.sipush 31 i87_28 rfl rfl (by decide) ?_
          refine X.andF 32 255 i87_31 rfl rfl (by decide) (.inl rfl) (fun z538 hz538 => ?_)
          refine X.iast' 33 i87_32 rfl rfl (by decide) rfl (by omega) (fun hrm539 m539 hm539 => ?_)
          have hJ540 := w42_0 hJ533 hm539 (by omega) (by omega)
          have wt541 : m539 4 41 3 = ((m528 4 41 3) + 1) := Eq.trans (by rw [hm539]; exact z_upd_o _ _ rfl) wt534
          refine X.aload_n 34 i87_33 rfl rfl rfl ?_
          refine X.dup 35 i87_34 rfl rfl rfl ?_
          refine X.getI 38 3 i87_35 rfl rfl (by decide) rfl rfl rfl ?_
          have h542 := r41_3 hJ540 4
          refine X.iconst 39 i87_38 rfl rfl (by decide) ?_
          refine X.iadd 40 i87_39 rfl rfl (by omega) ?_
          refine X.putI' 43 3 i87_40 rfl rfl (by decide) rfl rfl rfl (fun hrm543 m543 hm543 => ?_)
          have hJ544 := w41_3 hJ540 hm543 (by omega) hs0
          have wt545 : m543 4 41 3 = ((m539 4 41 3) + 1) := by rw [hm543]; exact z_upd_same _ _ _ _ _
          have em543 : m543 4 41 3 = ((m539 4 41 3) + 1) := by rw [hm543]; exact z_upd_same _ _ _ _ _
          refine X.iinc 46 [(0, zr 4 41), (1, zi a1), (2, zi ((((24 + (-8)) + (-8)) + (-8)) + (-8)))] i87_43 rfl rfl rfl (by omega) rfl ?_
          refine X.goto 3 i87_46 rfl rfl ?_
          refine X.iload_n 4 i87_3 rfl rfl rfl ?_
          refine X.iflt 49 7 i87_4 rfl rfl rfl (fun h546 => ?_) (fun h546 => (by exfalso; omega))
          refine X.cut [] i87_49 rfl ?_
          refine X.retv i87_49 rfl t87 ?_
          exact hQ  m543  (hJ544.up (by omega)) (by exact (by omega))
-- WorkMeter.feed
theorem c85_1 {s : Nat × (Nat → Int32)} {S : zS} {m0 m : zM} {B : Int} {d : Nat} {Q : Option zV → zM → Prop} (a1 a2 a3 a4 a5 : Int) (hd : 14 ≤ d) (hJ : J S m0 B m) (hB : B + 0 ≤ 1000000000) (ha1 : (-2147483648) ≤ a1 ∧ a1 ≤ 2147483647) (ha2 : (-2147483648) ≤ a2 ∧ a2 ≤ 2147483647) (ha3 : (-2147483648) ≤ a3 ∧ a3 ≤ 2147483647) (ha4 : (-2147483648) ≤ a4 ∧ a4 ≤ 2147483647) (ha5 : (-2147483648) ≤ a5 ∧ a5 ≤ 2147483647) (hs0 : S.1 4 41 3) (hQ : ∀ (v : Int) m', ((-1) ≤ v ∧ v ≤ 300) → J S m0 (B) m' → Q (some (zi v)) m') : X (EE s) d 85 0 [(0, zr 4 40), (1, zi a1), (2, zi a2), (3, zi a3), (4, zi a4), (5, zi a5)] [] m Q := by
  refine X.aload_n 1 i85_0 rfl rfl rfl ?_
  refine X.getF 4 i85_1 rfl rfl (by decide) rfl rfl ?_
  refine X.callv 7 [] [] [(0, zr 4 41)] i85_4 rfl (by decide) rfl rfl (by omega) rfl rfl (by decide) rfl t86 (Nat.le_of_ble_eq_true rfl) (Nat.le_of_ble_eq_true rfl) rfl ?_
  refine X.aload_n 1 i86_0 rfl rfl rfl ?_
  refine X.getI 4 3 i86_1 rfl rfl (by decide) rfl rfl rfl ?_
  have h501 := r41_3 hJ 4
  refine X.bipush 6 i86_4 rfl rfl (by decide) ?_
  refine X.iadd 7 i86_6 rfl rfl (by omega) ?_
  refine X.sipush 10 i86_7 rfl rfl (by decide) ?_
  refine X.icmpgt 17 13 i86_10 rfl rfl rfl (fun h502 => ?_) (fun h502 => ?_)
  · refine X.cut [] i86_17 rfl ?_
    refine X.iconst 18 i86_17 rfl rfl (by decide) ?_
    refine X.retz i86_18 rfl t86 (by omega) ?_
    show X (EE s) d 85 7 [(0, zr 4 40), (1, zi a1), (2, zi a2), (3, zi a3), (4, zi a4), (5, zi a5)] [zi 0] m _
    refine X.ifne 12 10 i85_7 rfl rfl rfl (fun h503 => (by exfalso; omega)) (fun h503 => ?_)
    refine X.iconst 11 i85_10 rfl rfl (by decide) ?_
    refine X.reti i85_11 rfl t85 ?_
    exact hQ (-1) m (by first | trivial | omega) (hJ.up (by omega)) 
  · refine X.iconst 14 i86_13 rfl rfl (by decide) ?_
    refine X.goto 18 i86_14 rfl rfl ?_
    refine X.cut [] i86_18 rfl ?_
    refine X.retz i86_18 rfl t86 (by omega) ?_
    show X (EE s) d 85 7 [(0, zr 4 40), (1, zi a1), (2, zi a2), (3, zi a3), (4, zi a4), (5, zi a5)] [zi 1] m _
    refine X.ifne 12 10 i85_7 rfl rfl rfl (fun h504 => ?_) (fun h504 => (by exfalso; omega))
    refine X.aload_n 13 i85_12 rfl rfl rfl ?_
    refine X.getF 16 i85_13 rfl rfl (by decide) rfl rfl ?_
    refine X.iload_n 17 i85_16 rfl rfl rfl ?_
    refine X.callv 20 [zi a1] [] [(0, zr 4 41), (1, zi a1)] i85_17 rfl (by decide) rfl rfl (by omega) rfl rfl (by decide) rfl t87 (Nat.le_of_ble_eq_true rfl) (Nat.le_of_ble_eq_true rfl) rfl ?_
    refine c87_1 (S := zfr [(4, 41, 3)] S) (m0 := m) (B := B)  a1 (by omega) (hJ.ow.up (by omega)) (by omega) (by omega) (by omega) zm_z (fun m505 hJ506 hqv5070 => ?_)
    have hJ508 := hJ.trans hJ506 (zi_c hs0 zi_n)
    show X (EE s) d 85 20 [(0, zr 4 40), (1, zi a1), (2, zi a2), (3, zi a3), (4, zi a4), (5, zi a5)] [] m505 _
    refine X.aload_n 21 i85_20 rfl rfl rfl ?_
    refine X.getF 24 i85_21 rfl rfl (by decide) rfl rfl ?_
    refine X.iload_n 25 i85_24 rfl rfl rfl ?_
    refine X.callv 28 [zi a2] [] [(0, zr 4 41), (1, zi a2)] i85_25 rfl (by decide) rfl rfl (by omega) rfl rfl (by decide) rfl t87 (Nat.le_of_ble_eq_true rfl) (Nat.le_of_ble_eq_true rfl) rfl ?_
    refine c87_1 (S := zfr [(4, 41, 3)] S) (m0 := m505) (B := B)  a2 (by omega) (hJ508.ow.up (by omega)) (by omega) (by omega) (by omega) zm_z (fun m509 hJ510 hqv5110 => ?_)
    have hJ512 := hJ508.trans hJ510 (zi_c hs0 zi_n)
    show X (EE s) d 85 28 [(0, zr 4 40), (1, zi a1), (2, zi a2), (3, zi a3), (4, zi a4), (5, zi a5)] [] m509 _
    refine X.aload_n 29 i85_28 rfl rfl rfl ?_
    refine X.getF 32 i85_29 rfl rfl (by decide) rfl rfl ?_
    refine X.iload_n 33 i85_32 rfl rfl rfl ?_
    refine X.callv 36 [zi a3] [] [(0, zr 4 41), (1, zi a3)] i85_33 rfl (by decide) rfl rfl (by omega) rfl rfl (by decide) rfl t87 (Nat.le_of_ble_eq_true rfl) (Nat.le_of_ble_eq_true rfl) rfl ?_
    refine c87_1 (S := zfr [(4, 41, 3)] S) (m0 := m509) (B := B)  a3 (by omega) (hJ512.ow.up (by omega)) (by omega) (by omega) (by omega) zm_z (fun m513 hJ514 hqv5150 => ?_)
    have hJ516 := hJ512.trans hJ514 (zi_c hs0 zi_n)
    show X (EE s) d 85 36 [(0, zr 4 40), (1, zi a1), (2, zi a2), (3, zi a3), (4, zi a4), (5, zi a5)] [] m513 _
    refine X.aload_n 37 i85_36 rfl rfl rfl ?_
    refine X.getF 40 i85_37 rfl rfl (by decide) rfl rfl ?_
    refine X.iload 42 i85_40 rfl rfl rfl ?_
    refine X.callv 45 [zi a4] [] [(0, zr 4 41), (1, zi a4)] i85_42 rfl (by decide) rfl rfl (by omega) rfl rfl (by decide) rfl t87 (Nat.le_of_ble_eq_true rfl) (Nat.le_of_ble_eq_true rfl) rfl ?_
    refine c87_1 (S := zfr [(4, 41, 3)] S) (m0 := m513) (B := B)  a4 (by omega) (hJ516.ow.up (by omega)) (by omega) (by omega) (by omega) zm_z (fun m517 hJ518 hqv5190 => ?_)
    have hJ520 := hJ516.trans hJ518 (zi_c hs0 zi_n)
    show X (EE s) d 85 45 [(0, zr 4 40), (1, zi a1), (2, zi a2), (3, zi a3), (4, zi a4), (5, zi a5)] [] m517 _
    refine X.aload_n 46 i85_45 rfl rfl rfl ?_
    refine X.getF 49 i85_46 rfl rfl (by decide) rfl rfl ?_
    refine X.iload 51 i85_49 rfl rfl rfl ?_
    refine X.callv 54 [zi a5] [] [(0, zr 4 41), (1, zi a5)] i85_51 rfl (by decide) rfl rfl (by omega) rfl rfl (by decide) rfl t87 (Nat.le_of_ble_eq_true rfl) (Nat.le_of_ble_eq_true rfl) rfl ?_
    refine c87_1 (S := zfr [(4, 41, 3)] S) (m0 := m517) (B := B)  a5 (by omega) (hJ520.ow.up (by omega)) (by omega) (by omega) (by omega) zm_z (fun m521 hJ522 hqv5230 => ?_)
    have hJ524 := hJ520.trans hJ522 (zi_c hs0 zi_n)
    show X (EE s) d 85 54 [(0, zr 4 40), (1, zi a1), (2, zi a2), (3, zi a3), (4, zi a4), (5, zi a5)] [] m521 _
    refine X.aload_n 55 i85_54 rfl rfl rfl ?_
    refine X.getF 58 i85_55 rfl rfl (by decide) rfl rfl ?_
    refine X.getI 61 3 i85_58 rfl rfl (by decide) rfl rfl rfl ?_
    have h525 := r41_3 hJ524 4
    refine X.reti i85_61 rfl t85 ?_
    exact hQ (m521 4 41 3) m521 (by first | trivial | omega) (hJ524.up (by omega)) 
-- WorkMeterModel.comes
theorem c257_1 {s : Nat × (Nat → Int32)} {S : zS} {m0 m : zM} {B : Int} {d : Nat} {Q : Option zV → zM → Prop} (a1 : Int) (hd : 13 ≤ d) (hJ : J S m0 B m) (hB : B + 0 ≤ 1000000000) (ha1 : (-2147483648) ≤ a1 ∧ a1 ≤ 2147483647) (hp0 : m 4 44 5 ≤ 296) (hs0 : S.1 4 44 5) (hQ : ∀ m', J S m0 (B) m' → (m' 4 44 5 = m 4 44 5 + 4) → Q none m') : X (EE s) d 257 0 [(0, zr 4 44), (1, zi a1)] [] m Q := by
  refine X.bipush 2 i257_0 rfl rfl (by decide) ?_
  refine X.istore_n 3 [(0, zr 4 44), (1, zi a1), (2, zi 24)] i257_2 rfl rfl rfl ?_
  refine X.iload_n 4 i257_3 rfl rfl rfl ?_
  refine X.iflt 36 7 i257_4 rfl rfl rfl (fun h501 => (by exfalso; omega)) (fun h501 => ?_)
  refine X.aload_n 8 i257_7 rfl rfl rfl ?_
  refine X.getF 11 i257_8 rfl rfl (by decide) rfl rfl ?_
  refine X.aload_n 12 i257_11 rfl rfl rfl ?_
  refine X.getI 15 5 i257_12 rfl rfl (by decide) rfl rfl rfl ?_
  have h502 := r44_5 hJ 4
  refine X.iload_n 16 i257_15 rfl rfl rfl ?_
  refine X.iload_n 17 i257_16 rfl rfl rfl ?_
  refine X.iiF 18 .iushr (fun x y => (x.toUInt32 >>> (y.toUInt32 &&& Int32.toUInt32 31)).toInt32) i257_17 rfl rfl rfl (fun _ _ => rfl) (fun z503 hz503 => ?_)
  refine X.i2bF 19 i257_18 rfl rfl (fun z504 hz504 => ?_)
  refine X.bast' 20 i257_19 rfl rfl (by decide) rfl (by omega) (by omega) (fun hrm505 m505 hm505 => ?_)
  have hJ506 := w48_0 hJ hm505 (by omega) hrm505
  have wt507 : m505 4 44 5 = (m 4 44 5) := by rw [hm505]; exact z_upd_o _ _ rfl
  refine X.aload_n 21 i257_20 rfl rfl rfl ?_
  refine X.dup 22 i257_21 rfl rfl rfl ?_
  refine X.getI 25 5 i257_22 rfl rfl (by decide) rfl rfl rfl ?_
  have h508 := r44_5 hJ506 4
  refine X.iconst 26 i257_25 rfl rfl (by decide) ?_
  refine X.iadd 27 i257_26 rfl rfl (by omega) ?_
  refine X.putI' 30 5 i257_27 rfl rfl (by decide) rfl rfl rfl (fun hrm509 m509 hm509 => ?_)
  have hJ510 := w44_5 hJ506 hm509 (by omega) hs0
  have wt511 : m509 4 44 5 = ((m505 4 44 5) + 1) := by rw [hm509]; exact z_upd_same _ _ _ _ _
  have em509 : m509 4 44 5 = ((m505 4 44 5) + 1) := by rw [hm509]; exact z_upd_same _ _ _ _ _
  refine X.iinc 33 [(0, zr 4 44), (1, zi a1), (2, zi (24 + (-8)))] i257_30 rfl rfl rfl (by omega) rfl ?_
  refine X.goto 3 i257_33 rfl rfl ?_
  refine X.iload_n 4 i257_3 rfl rfl rfl ?_
  refine X.iflt 36 7 i257_4 rfl rfl rfl (fun h512 => (by exfalso; omega)) (fun h512 => ?_)
  refine X.aload_n 8 i257_7 rfl rfl rfl ?_
  refine X.getF 11 i257_8 rfl rfl (by decide) rfl rfl ?_
  refine X.aload_n 12 i257_11 rfl rfl rfl ?_
  refine X.getI 15 5 i257_12 rfl rfl (by decide) rfl rfl rfl ?_
  refine X.iload_n 16 i257_15 rfl rfl rfl ?_
  refine X.iload_n 17 i257_16 rfl rfl rfl ?_
  refine X.iiF 18 .iushr (fun x y => (x.toUInt32 >>> (y.toUInt32 &&& Int32.toUInt32 31)).toInt32) i257_17 rfl rfl rfl (fun _ _ => rfl) (fun z513 hz513 => ?_)
  refine X.i2bF 19 i257_18 rfl rfl (fun z514 hz514 => ?_)
  refine X.bast' 20 i257_19 rfl rfl (by decide) rfl (by omega) (by omega) (fun hrm515 m515 hm515 => ?_)
  have hJ516 := w48_0 hJ510 hm515 (by omega) hrm515
  have wt517 : m515 4 44 5 = ((m505 4 44 5) + 1) := Eq.trans (by rw [hm515]; exact z_upd_o _ _ rfl) wt511
  refine X.aload_n 21 i257_20 rfl rfl rfl ?_
  refine X.dup 22 i257_21 rfl rfl rfl ?_
  refine X.getI 25 5 i257_22 rfl rfl (by decide) rfl rfl rfl ?_
  have h518 := r44_5 hJ516 4
  refine X.iconst 26 i257_25 rfl rfl (by decide) ?_
  refine X.iadd 27 i257_26 rfl rfl (by omega) ?_
  refine X.putI' 30 5 i257_27 rfl rfl (by decide) rfl rfl rfl (fun hrm519 m519 hm519 => ?_)
  have hJ520 := w44_5 hJ516 hm519 (by omega) hs0
  have wt521 : m519 4 44 5 = ((m515 4 44 5) + 1) := by rw [hm519]; exact z_upd_same _ _ _ _ _
  have em519 : m519 4 44 5 = ((m515 4 44 5) + 1) := by rw [hm519]; exact z_upd_same _ _ _ _ _
  refine X.iinc 33 [(0, zr 4 44), (1, zi a1), (2, zi ((24 + (-8)) + (-8)))] i257_30 rfl rfl rfl (by omega) rfl ?_
  refine X.goto 3 i257_33 rfl rfl ?_
  refine X.iload_n 4 i257_3 rfl rfl rfl ?_
  refine X.iflt 36 7 i257_4 rfl rfl rfl (fun h522 => (by exfalso; omega)) (fun h522 => ?_)
  refine X.aload_n 8 i257_7 rfl rfl rfl ?_
  refine X.getF 11 i257_8 rfl rfl (by decide) rfl rfl ?_
  refine X.aload_n 12 i257_11 rfl rfl rfl ?_
  refine X.getI 15 5 i257_12 rfl rfl (by decide) rfl rfl rfl ?_
  refine X.iload_n 16 i257_15 rfl rfl rfl ?_
  refine X.iload_n 17 i257_16 rfl rfl rfl ?_
  refine X.iiF 18 .iushr (fun x y => (x.toUInt32 >>> (y.toUInt32 &&& Int32.toUInt32 31)).toInt32) i257_17 rfl rfl rfl (fun _ _ => rfl) (fun z523 hz523 => ?_)
  refine X.i2bF 19 i257_18 rfl rfl (fun z524 hz524 => ?_)
  refine X.bast' 20 i257_19 rfl rfl (by decide) rfl (by omega) (by omega) (fun hrm525 m525 hm525 => ?_)
  have hJ526 := w48_0 hJ520 hm525 (by omega) hrm525
  have wt527 : m525 4 44 5 = ((m515 4 44 5) + 1) := Eq.trans (by rw [hm525]; exact z_upd_o _ _ rfl) wt521
  refine X.aload_n 21 i257_20 rfl rfl rfl ?_
  refine X.dup 22 i257_21 rfl rfl rfl ?_
  refine X.getI 25 5 i257_22 rfl rfl (by decide) rfl rfl rfl ?_
  have h528 := r44_5 hJ526 4
  refine X.iconst 26 i257_25 rfl rfl (by decide) ?_
  refine X.iadd 27 i257_26 rfl rfl (by omega) ?_
  refine X.putI' 30 5 i257_27 rfl rfl (by decide) rfl rfl rfl (fun hrm529 m529 hm529 => ?_)
  have hJ530 := w44_5 hJ526 hm529 (by omega) hs0
  have wt531 : m529 4 44 5 = ((m525 4 44 5) + 1) := by rw [hm529]; exact z_upd_same _ _ _ _ _
  have em529 : m529 4 44 5 = ((m525 4 44 5) + 1) := by rw [hm529]; exact z_upd_same _ _ _ _ _
  refine X.iinc 33 [(0, zr 4 44), (1, zi a1), (2, zi (((24 + (-8)) + (-8)) + (-8)))] i257_30 rfl rfl rfl (by omega) rfl ?_
  refine X.goto 3 i257_33 rfl rfl ?_
  refine X.iload_n 4 i257_3 rfl rfl rfl ?_
  refine X.iflt 36 7 i257_4 rfl rfl rfl (fun h532 => (by exfalso; omega)) (fun h532 => ?_)
  refine X.aload_n 8 i257_7 rfl rfl rfl ?_
  refine X.getF 11 i257_8 rfl rfl (by decide) rfl rfl ?_
  refine X.aload_n 12 i257_11 rfl rfl rfl ?_
  refine X.getI 15 5 i257_12 rfl rfl (by decide) rfl rfl rfl ?_
  refine X.iload_n 16 i257_15 rfl rfl rfl ?_
  refine X.iload_n 17 i257_16 rfl rfl rfl ?_
  refine X.iiF 18 .iushr (fun x y => (x.toUInt32 >>> (y.toUInt32 &&& Int32.toUInt32 31)).toInt32) i257_17 rfl rfl rfl (fun _ _ => rfl) (fun z533 hz533 => ?_)
  refine X.i2bF 19 i257_18 rfl rfl (fun z534 hz534 => ?_)
  refine X.bast' 20 i257_19 rfl rfl (by decide) rfl (by omega) (by omega) (fun hrm535 m535 hm535 => ?_)
  have hJ536 := w48_0 hJ530 hm535 (by omega) hrm535
  have wt537 : m535 4 44 5 = ((m525 4 44 5) + 1) := Eq.trans (by rw [hm535]; exact z_upd_o _ _ rfl) wt531
  refine X.aload_n 21 i257_20 rfl rfl rfl ?_
  refine X.dup 22 i257_21 rfl rfl rfl ?_
  refine X.getI 25 5 i257_22 rfl rfl (by decide) rfl rfl rfl ?_
  have h538 := r44_5 hJ536 4
  refine X.iconst 26 i257_25 rfl rfl (by decide) ?_
  refine X.iadd 27 i257_26 rfl rfl (by omega) ?_
  refine X.putI' 30 5 i257_27 rfl rfl (by decide) rfl rfl rfl (fun hrm539 m539 hm539 => ?_)
  have hJ540 := w44_5 hJ536 hm539 (by omega) hs0
  have wt541 : m539 4 44 5 = ((m535 4 44 5) + 1) := by rw [hm539]; exact z_upd_same _ _ _ _ _
  have em539 : m539 4 44 5 = ((m535 4 44 5) + 1) := by rw [hm539]; exact z_upd_same _ _ _ _ _
  refine X.iinc 33 [(0, zr 4 44), (1, zi a1), (2, zi ((((24 + (-8)) + (-8)) + (-8)) + (-8)))] i257_30 rfl rfl rfl (by omega) rfl ?_
  refine X.goto 3 i257_33 rfl rfl ?_
  refine X.iload_n 4 i257_3 rfl rfl rfl ?_
  refine X.iflt 36 7 i257_4 rfl rfl rfl (fun h542 => ?_) (fun h542 => (by exfalso; omega))
  refine X.cut [] i257_36 rfl ?_
  refine X.retv i257_36 rfl t257 ?_
  exact hQ  m539  (hJ540.up (by omega)) (by exact (by omega))
-- WorkMeterModel.feed
theorem c256_1 {s : Nat × (Nat → Int32)} {S : zS} {m0 m : zM} {B : Int} {d : Nat} {Q : Option zV → zM → Prop} (a1 a2 a3 a4 a5 : Int) (hd : 14 ≤ d) (hJ : J S m0 B m) (hB : B + 0 ≤ 1000000000) (ha1 : (-2147483648) ≤ a1 ∧ a1 ≤ 2147483647) (ha2 : (-2147483648) ≤ a2 ∧ a2 ≤ 2147483647) (ha3 : (-2147483648) ≤ a3 ∧ a3 ≤ 2147483647) (ha4 : (-2147483648) ≤ a4 ∧ a4 ≤ 2147483647) (ha5 : (-2147483648) ≤ a5 ∧ a5 ≤ 2147483647) (hs0 : S.1 4 44 5) (hQ : ∀ (v : Int) m', ((-1) ≤ v ∧ v ≤ 300) → J S m0 (B) m' → Q (some (zi v)) m') : X (EE s) d 256 0 [(0, zr 4 44), (1, zi a1), (2, zi a2), (3, zi a3), (4, zi a4), (5, zi a5)] [] m Q := by
  refine X.aload_n 1 i256_0 rfl rfl rfl ?_
  refine X.getI 4 5 i256_1 rfl rfl (by decide) rfl rfl rfl ?_
  have h501 := r44_5 hJ 4
  refine X.bipush 6 i256_4 rfl rfl (by decide) ?_
  refine X.iadd 7 i256_6 rfl rfl (by omega) ?_
  refine X.sipush 10 i256_7 rfl rfl (by decide) ?_
  refine X.icmple 15 13 i256_10 rfl rfl rfl (fun h502 => ?_) (fun h502 => ?_)
  · refine X.aload_n 16 i256_15 rfl rfl rfl ?_
    refine X.iload_n 17 i256_16 rfl rfl rfl ?_
    refine X.callv 20 [zi a1] [] [(0, zr 4 44), (1, zi a1)] i256_17 rfl (by decide) rfl rfl (by omega) rfl rfl (by decide) rfl t257 (Nat.le_of_ble_eq_true rfl) (Nat.le_of_ble_eq_true rfl) rfl ?_
    refine c257_1 (S := zfr [(4, 44, 5)] S) (m0 := m) (B := B)  a1 (by omega) (hJ.ow.up (by omega)) (by omega) (by omega) (by omega) zm_z (fun m503 hJ504 hqv5050 => ?_)
    have hJ506 := hJ.trans hJ504 (zi_c hs0 zi_n)
    show X (EE s) d 256 20 [(0, zr 4 44), (1, zi a1), (2, zi a2), (3, zi a3), (4, zi a4), (5, zi a5)] [] m503 _
    refine X.aload_n 21 i256_20 rfl rfl rfl ?_
    refine X.iload_n 22 i256_21 rfl rfl rfl ?_
    refine X.callv 25 [zi a2] [] [(0, zr 4 44), (1, zi a2)] i256_22 rfl (by decide) rfl rfl (by omega) rfl rfl (by decide) rfl t257 (Nat.le_of_ble_eq_true rfl) (Nat.le_of_ble_eq_true rfl) rfl ?_
    refine c257_1 (S := zfr [(4, 44, 5)] S) (m0 := m503) (B := B)  a2 (by omega) (hJ506.ow.up (by omega)) (by omega) (by omega) (by omega) zm_z (fun m507 hJ508 hqv5090 => ?_)
    have hJ510 := hJ506.trans hJ508 (zi_c hs0 zi_n)
    show X (EE s) d 256 25 [(0, zr 4 44), (1, zi a1), (2, zi a2), (3, zi a3), (4, zi a4), (5, zi a5)] [] m507 _
    refine X.aload_n 26 i256_25 rfl rfl rfl ?_
    refine X.iload_n 27 i256_26 rfl rfl rfl ?_
    refine X.callv 30 [zi a3] [] [(0, zr 4 44), (1, zi a3)] i256_27 rfl (by decide) rfl rfl (by omega) rfl rfl (by decide) rfl t257 (Nat.le_of_ble_eq_true rfl) (Nat.le_of_ble_eq_true rfl) rfl ?_
    refine c257_1 (S := zfr [(4, 44, 5)] S) (m0 := m507) (B := B)  a3 (by omega) (hJ510.ow.up (by omega)) (by omega) (by omega) (by omega) zm_z (fun m511 hJ512 hqv5130 => ?_)
    have hJ514 := hJ510.trans hJ512 (zi_c hs0 zi_n)
    show X (EE s) d 256 30 [(0, zr 4 44), (1, zi a1), (2, zi a2), (3, zi a3), (4, zi a4), (5, zi a5)] [] m511 _
    refine X.aload_n 31 i256_30 rfl rfl rfl ?_
    refine X.iload 33 i256_31 rfl rfl rfl ?_
    refine X.callv 36 [zi a4] [] [(0, zr 4 44), (1, zi a4)] i256_33 rfl (by decide) rfl rfl (by omega) rfl rfl (by decide) rfl t257 (Nat.le_of_ble_eq_true rfl) (Nat.le_of_ble_eq_true rfl) rfl ?_
    refine c257_1 (S := zfr [(4, 44, 5)] S) (m0 := m511) (B := B)  a4 (by omega) (hJ514.ow.up (by omega)) (by omega) (by omega) (by omega) zm_z (fun m515 hJ516 hqv5170 => ?_)
    have hJ518 := hJ514.trans hJ516 (zi_c hs0 zi_n)
    show X (EE s) d 256 36 [(0, zr 4 44), (1, zi a1), (2, zi a2), (3, zi a3), (4, zi a4), (5, zi a5)] [] m515 _
    refine X.aload_n 37 i256_36 rfl rfl rfl ?_
    refine X.iload 39 i256_37 rfl rfl rfl ?_
    refine X.callv 42 [zi a5] [] [(0, zr 4 44), (1, zi a5)] i256_39 rfl (by decide) rfl rfl (by omega) rfl rfl (by decide) rfl t257 (Nat.le_of_ble_eq_true rfl) (Nat.le_of_ble_eq_true rfl) rfl ?_
    refine c257_1 (S := zfr [(4, 44, 5)] S) (m0 := m515) (B := B)  a5 (by omega) (hJ518.ow.up (by omega)) (by omega) (by omega) (by omega) zm_z (fun m519 hJ520 hqv5210 => ?_)
    have hJ522 := hJ518.trans hJ520 (zi_c hs0 zi_n)
    show X (EE s) d 256 42 [(0, zr 4 44), (1, zi a1), (2, zi a2), (3, zi a3), (4, zi a4), (5, zi a5)] [] m519 _
    refine X.aload_n 43 i256_42 rfl rfl rfl ?_
    refine X.getI 46 5 i256_43 rfl rfl (by decide) rfl rfl rfl ?_
    have h523 := r44_5 hJ522 4
    refine X.reti i256_46 rfl t256 ?_
    exact hQ (m519 4 44 5) m519 (by first | trivial | omega) (hJ522.up (by omega)) 
  · refine X.iconst 14 i256_13 rfl rfl (by decide) ?_
    refine X.reti i256_14 rfl t256 ?_
    exact hQ (-1) m (by first | trivial | omega) (hJ.up (by omega)) 
-- WorkMeter.end
theorem c88_1 {s : Nat × (Nat → Int32)} {S : zS} {m0 m : zM} {B : Int} {d : Nat} {Q : Option zV → zM → Prop} (a1 : Int) (hd : 13 ≤ d) (hJ : J S m0 B m) (hB : B + 0 ≤ 1000000000) (ha1 : (-2147483648) ≤ a1 ∧ a1 ≤ 2147483647) (hs0 : S.1 4 41 3) (hQ : ∀ (v : Int) m', (0 ≤ v ∧ v ≤ 1) → J S m0 (B) m' → Q (some (zi v)) m') : X (EE s) d 88 0 [(0, zr 4 40), (1, zi a1)] [] m Q := by
  refine X.aload_n 1 i88_0 rfl rfl rfl ?_
  refine X.getF 4 i88_1 rfl rfl (by decide) rfl rfl ?_
  refine X.iload_n 5 i88_4 rfl rfl rfl ?_
  refine X.callv 8 [zi a1] [] [(0, zr 4 41), (1, zi a1)] i88_5 rfl (by decide) rfl rfl (by omega) rfl rfl (by decide) rfl t89 (Nat.le_of_ble_eq_true rfl) (Nat.le_of_ble_eq_true rfl) rfl ?_
  refine X.iload_n 1 i89_0 rfl rfl rfl ?_
  refine X.iflt 12 4 i89_1 rfl rfl rfl (fun h501 => ?_) (fun h501 => ?_)
  · refine X.cut [] i89_12 rfl ?_
    refine X.iconst 13 i89_12 rfl rfl (by decide) ?_
    refine X.retz i89_13 rfl t89 (by omega) ?_
    show X (EE s) d 88 8 [(0, zr 4 40), (1, zi a1)] [zi 0] m _
    refine X.retz i88_8 rfl t88 (by omega) ?_
    exact hQ 0 m (by first | trivial | omega) (hJ.up (by omega)) 
  · refine X.iload_n 5 i89_4 rfl rfl rfl ?_
    refine X.aload_n 6 i89_5 rfl rfl rfl ?_
    refine X.getI 9 3 i89_6 rfl rfl (by decide) rfl rfl rfl ?_
    have h502 := r41_3 hJ 4
    refine X.icmple 14 12 i89_9 rfl rfl rfl (fun h503 => ?_) (fun h503 => ?_)
    · refine X.aload_n 15 i89_14 rfl rfl rfl ?_
      refine X.iload_n 16 i89_15 rfl rfl rfl ?_
      refine X.putI' 19 3 i89_16 rfl rfl (by decide) rfl rfl rfl (fun hrm504 m504 hm504 => ?_)
      have hJ505 := w41_3 hJ hm504 (by omega) hs0
      have wt506 : m504 4 41 3 = a1 := by rw [hm504]; exact z_upd_same _ _ _ _ _
      have em504 : m504 4 41 3 = a1 := by rw [hm504]; exact z_upd_same _ _ _ _ _
      refine X.iconst 20 i89_19 rfl rfl (by decide) ?_
      refine X.retz i89_20 rfl t89 (by omega) ?_
      show X (EE s) d 88 8 [(0, zr 4 40), (1, zi a1)] [zi 1] m504 _
      refine X.retz i88_8 rfl t88 (by omega) ?_
      exact hQ 1 m504 (by first | trivial | omega) (hJ505.up (by omega)) 
    · refine X.cut [] i89_12 rfl ?_
      refine X.iconst 13 i89_12 rfl rfl (by decide) ?_
      refine X.retz i89_13 rfl t89 (by omega) ?_
      show X (EE s) d 88 8 [(0, zr 4 40), (1, zi a1)] [zi 0] m _
      refine X.retz i88_8 rfl t88 (by omega) ?_
      exact hQ 0 m (by first | trivial | omega) (hJ.up (by omega)) 
-- WorkMeterModel.end
theorem c258_1 {s : Nat × (Nat → Int32)} {S : zS} {m0 m : zM} {B : Int} {d : Nat} {Q : Option zV → zM → Prop} (a1 : Int) (hd : 13 ≤ d) (hJ : J S m0 B m) (hB : B + 0 ≤ 1000000000) (ha1 : (-2147483648) ≤ a1 ∧ a1 ≤ 2147483647) (hs0 : S.1 4 44 5) (hQ : ∀ (v : Int) m', (0 ≤ v ∧ v ≤ 1) → J S m0 (B) m' → Q (some (zi v)) m') : X (EE s) d 258 0 [(0, zr 4 44), (1, zi a1)] [] m Q := by
  refine X.iload_n 1 i258_0 rfl rfl rfl ?_
  refine X.i2l 2 i258_1 rfl rfl ?_
  refine X.lconst (y := 0) 3 i258_2 rfl rfl rfl ?_
  refine X.aload_n 4 i258_3 rfl rfl rfl ?_
  refine X.getI 7 5 i258_4 rfl rfl (by decide) rfl rfl rfl ?_
  have h501 := r44_5 hJ 4
  refine X.i2l 8 i258_7 rfl rfl ?_
  refine X.calls 11 [zl a1, zl 0, zl (m 4 44 5)] [] [(0, zl a1), (2, zl 0), (4, zl (m 4 44 5))] i258_8 (by decide) rfl rfl (by omega) rfl rfl t204 (Nat.le_of_ble_eq_true rfl) (Nat.le_of_ble_eq_true rfl) rfl ?_
  refine X.lload_n 1 i204_0 rfl rfl rfl ?_
  refine X.lload_n 2 i204_1 rfl rfl rfl ?_
  refine X.lcmp 3 i204_2 rfl rfl (fun z502 hz502 => ?_)
  refine X.iflt 17 6 i204_3 rfl rfl rfl (fun h503 => ?_) (fun h503 => ?_)
  · have h503c : a1 < 0 := by omega
    clear h503 hz502
    refine X.cut [] i204_17 rfl ?_
    refine X.iconst 18 i204_17 rfl rfl (by decide) ?_
    refine X.retz i204_18 rfl t204 (by omega) ?_
    show X (EE s) d 258 11 [(0, zr 4 44), (1, zi a1)] [zi 0] m _
    refine X.ifne 16 14 i258_11 rfl rfl rfl (fun h504 => (by exfalso; omega)) (fun h504 => ?_)
    refine X.iconst 15 i258_14 rfl rfl (by decide) ?_
    refine X.retz i258_15 rfl t258 (by omega) ?_
    exact hQ 0 m (by first | trivial | omega) (hJ.up (by omega)) 
  · have h503c : a1 ≥ 0 := by omega
    clear h503 hz502
    refine X.lload_n 7 i204_6 rfl rfl rfl ?_
    refine X.lload 9 i204_7 rfl rfl rfl ?_
    refine X.lcmp 10 i204_9 rfl rfl (fun z505 hz505 => ?_)
    refine X.ifgt 17 13 i204_10 rfl rfl rfl (fun h506 => ?_) (fun h506 => ?_)
    · have h506c : a1 > (m 4 44 5) := by omega
      clear h506 hz505
      refine X.cut [] i204_17 rfl ?_
      refine X.iconst 18 i204_17 rfl rfl (by decide) ?_
      refine X.retz i204_18 rfl t204 (by omega) ?_
      show X (EE s) d 258 11 [(0, zr 4 44), (1, zi a1)] [zi 0] m _
      refine X.ifne 16 14 i258_11 rfl rfl rfl (fun h507 => (by exfalso; omega)) (fun h507 => ?_)
      refine X.iconst 15 i258_14 rfl rfl (by decide) ?_
      refine X.retz i258_15 rfl t258 (by omega) ?_
      exact hQ 0 m (by first | trivial | omega) (hJ.up (by omega)) 
    · have h506c : a1 ≤ (m 4 44 5) := by omega
      clear h506 hz505
      refine X.iconst 14 i204_13 rfl rfl (by decide) ?_
      refine X.goto 18 i204_14 rfl rfl ?_
      refine X.cut [] i204_18 rfl ?_
      refine X.retz i204_18 rfl t204 (by omega) ?_
      show X (EE s) d 258 11 [(0, zr 4 44), (1, zi a1)] [zi 1] m _
      refine X.ifne 16 14 i258_11 rfl rfl rfl (fun h508 => ?_) (fun h508 => (by exfalso; omega))
      refine X.aload_n 17 i258_16 rfl rfl rfl ?_
      refine X.iload_n 18 i258_17 rfl rfl rfl ?_
      refine X.putI' 21 5 i258_18 rfl rfl (by decide) rfl rfl rfl (fun hrm509 m509 hm509 => ?_)
      have hJ510 := w44_5 hJ hm509 (by omega) hs0
      have wt511 : m509 4 44 5 = a1 := by rw [hm509]; exact z_upd_same _ _ _ _ _
      have em509 : m509 4 44 5 = a1 := by rw [hm509]; exact z_upd_same _ _ _ _ _
      refine X.iconst 22 i258_21 rfl rfl (by decide) ?_
      refine X.retz i258_22 rfl t258 (by omega) ?_
      exact hQ 1 m509 (by first | trivial | omega) (hJ510.up (by omega)) 
theorem l5_5_1 {s : Nat × (Nat → Int32)} {S : zS} {m0 : zM} {d : Nat} {Q : Option zV → zM → Prop} (g0 : Nat) (y1 y3 : Int) (BE : Int) (hE : BE ≤ 1000000000) (hd : 13 ≤ d) (hy1 : 0 ≤ y1 ∧ y1 ≤ 0) (hy3 : 8 ≤ y3 ∧ y3 ≤ 8)
    (K20 : ∀ (m' : zM) (B' : Int), J S m0 B' m' → B' ≤ BE → X (EE s) d 5 20 [] [] m' Q) :
    ∀ (n : Nat) (y2 : Int) (m : zM) (B : Int), J S m0 B m → B + 0 * (n : Int) ≤ BE → (0 ≤ y2 ∧ y2 ≤ 8) → 8 - y2 < (n : Int) → X (EE s) d 5 5 [(0, zr g0 12), (1, zi y1), (2, zi y2), (3, zi y3)] [] m Q := by
  intro n
  induction n with
  | zero =>
    intro y2 m B hJ hB  hy2 hn
    exfalso
    omega
  | succ n ih =>
    intro y2 m B hJ hB  hy2 hn
    refine X.iload_n 6 i5_5 rfl rfl rfl ?_
    refine X.iload_n 7 i5_6 rfl rfl rfl ?_
    refine X.icmpge 20 10 i5_7 rfl rfl rfl (fun h504 => ?_) (fun h504 => ?_)
    · refine X.cut [] i5_20 rfl ?_
      exact K20  m (B) (hJ.up (by omega)) (by omega)  
    · refine X.aload_n 11 i5_10 rfl rfl rfl ?_
      refine X.iload_n 12 i5_11 rfl rfl rfl ?_
      refine X.iload_n 13 i5_12 rfl rfl rfl ?_
      refine X.iast' 14 i5_13 rfl rfl (by decide) rfl (by omega) (fun hrm505 m505 hm505 => ?_)
      have hJ506 := w12_0 hJ hm505 (by omega) (by omega)
      refine X.iinc 17 [(0, zr g0 12), (1, zi y1), (2, zi (y2 + 1)), (3, zi y3)] i5_14 rfl rfl rfl (by omega) rfl ?_
      refine X.goto 5 i5_17 rfl rfl ?_
      exact ih (y2 + 1) m505 (B) (hJ506.up (by omega)) (by omega)  (by omega) (by omega)
-- java/util/Arrays.fill
theorem c5_1 {s : Nat × (Nat → Int32)} {S : zS} {m0 m : zM} {B : Int} {d : Nat} {Q : Option zV → zM → Prop} (g0 : Nat) (a1 : Int) (hd : 13 ≤ d) (hJ : J S m0 B m) (hB : B + 0 ≤ 1000000000) (ha1 : 0 ≤ a1 ∧ a1 ≤ 0) (hQ : ∀ m', J S m0 (B) m' → Q none m') : X (EE s) d 5 0 [(0, zr g0 12), (1, zi a1)] [] m Q := by
  refine X.iconst 1 i5_0 rfl rfl (by decide) ?_
  refine X.istore_n 2 [(0, zr g0 12), (1, zi a1), (2, zi 0)] i5_1 rfl rfl rfl ?_
  refine X.aload_n 3 i5_2 rfl rfl rfl ?_
  refine X.alen 4 i5_3 rfl rfl (by decide) rfl ?_
  show X (EE s) d 5 4 [(0, zr g0 12), (1, zi a1), (2, zi 0)] [zi 8] m _
  refine X.istore_n 5 [(0, zr g0 12), (1, zi a1), (2, zi 0), (3, zi 8)] i5_4 rfl rfl rfl ?_
  refine l5_5_1 (s := s) (S := S) (m0 := m0) (d := d) g0 a1 8 (BE := B + 0) (by omega) (by omega) (by omega) (by omega) (fun  m501 B502 hJ503 hBB502 => ?_) ((8 - 0 : Int).toNat + 1) 0 m (B) (hJ.up (by omega)) (by omega)  (by omega) (by omega)
  refine X.retv i5_20 rfl t5 ?_
  exact hQ  m501  (hJ503.up (by omega)) 
theorem l5_5_2 {s : Nat × (Nat → Int32)} {S : zS} {m0 : zM} {d : Nat} {Q : Option zV → zM → Prop} (g0 : Nat) (y1 y3 : Int) (BE : Int) (hE : BE ≤ 1000000000) (hd : 13 ≤ d) (hy1 : (-1) ≤ y1 ∧ y1 ≤ (-1)) (hy3 : 4 ≤ y3 ∧ y3 ≤ 4)
    (K20 : ∀ (m' : zM) (B' : Int), J S m0 B' m' → B' ≤ BE → X (EE s) d 5 20 [] [] m' Q) :
    ∀ (n : Nat) (y2 : Int) (m : zM) (B : Int), J S m0 B m → B + 0 * (n : Int) ≤ BE → (0 ≤ y2 ∧ y2 ≤ 4) → 4 - y2 < (n : Int) → X (EE s) d 5 5 [(0, zr g0 15), (1, zi y1), (2, zi y2), (3, zi y3)] [] m Q := by
  intro n
  induction n with
  | zero =>
    intro y2 m B hJ hB  hy2 hn
    exfalso
    omega
  | succ n ih =>
    intro y2 m B hJ hB  hy2 hn
    refine X.iload_n 6 i5_5 rfl rfl rfl ?_
    refine X.iload_n 7 i5_6 rfl rfl rfl ?_
    refine X.icmpge 20 10 i5_7 rfl rfl rfl (fun h504 => ?_) (fun h504 => ?_)
    · refine X.cut [] i5_20 rfl ?_
      exact K20  m (B) (hJ.up (by omega)) (by omega)  
    · refine X.aload_n 11 i5_10 rfl rfl rfl ?_
      refine X.iload_n 12 i5_11 rfl rfl rfl ?_
      refine X.iload_n 13 i5_12 rfl rfl rfl ?_
      refine X.iast' 14 i5_13 rfl rfl (by decide) rfl (by omega) (fun hrm505 m505 hm505 => ?_)
      have hJ506 := w15_0 hJ hm505 (by omega) (by omega)
      refine X.iinc 17 [(0, zr g0 15), (1, zi y1), (2, zi (y2 + 1)), (3, zi y3)] i5_14 rfl rfl rfl (by omega) rfl ?_
      refine X.goto 5 i5_17 rfl rfl ?_
      exact ih (y2 + 1) m505 (B) (hJ506.up (by omega)) (by omega)  (by omega) (by omega)
-- java/util/Arrays.fill
theorem c5_2 {s : Nat × (Nat → Int32)} {S : zS} {m0 m : zM} {B : Int} {d : Nat} {Q : Option zV → zM → Prop} (g0 : Nat) (a1 : Int) (hd : 13 ≤ d) (hJ : J S m0 B m) (hB : B + 0 ≤ 1000000000) (ha1 : (-1) ≤ a1 ∧ a1 ≤ (-1)) (hQ : ∀ m', J S m0 (B) m' → Q none m') : X (EE s) d 5 0 [(0, zr g0 15), (1, zi a1)] [] m Q := by
  refine X.iconst 1 i5_0 rfl rfl (by decide) ?_
  refine X.istore_n 2 [(0, zr g0 15), (1, zi a1), (2, zi 0)] i5_1 rfl rfl rfl ?_
  refine X.aload_n 3 i5_2 rfl rfl rfl ?_
  refine X.alen 4 i5_3 rfl rfl (by decide) rfl ?_
  show X (EE s) d 5 4 [(0, zr g0 15), (1, zi a1), (2, zi 0)] [zi 4] m _
  refine X.istore_n 5 [(0, zr g0 15), (1, zi a1), (2, zi 0), (3, zi 4)] i5_4 rfl rfl rfl ?_
  refine l5_5_2 (s := s) (S := S) (m0 := m0) (d := d) g0 a1 4 (BE := B + 0) (by omega) (by omega) (by omega) (by omega) (fun  m501 B502 hJ503 hBB502 => ?_) ((4 - 0 : Int).toNat + 1) 0 m (B) (hJ.up (by omega)) (by omega)  (by omega) (by omega)
  refine X.retv i5_20 rfl t5 ?_
  exact hQ  m501  (hJ503.up (by omega)) 
theorem l5_5_3 {s : Nat × (Nat → Int32)} {S : zS} {m0 : zM} {d : Nat} {Q : Option zV → zM → Prop} (g0 : Nat) (y1 y3 : Int) (BE : Int) (hE : BE ≤ 1000000000) (hd : 13 ≤ d) (hy1 : 0 ≤ y1 ∧ y1 ≤ 0) (hy3 : 28 ≤ y3 ∧ y3 ≤ 28)
    (K20 : ∀ (m' : zM) (B' : Int), J S m0 B' m' → B' ≤ BE → X (EE s) d 5 20 [] [] m' Q) :
    ∀ (n : Nat) (y2 : Int) (m : zM) (B : Int), J S m0 B m → B + 0 * (n : Int) ≤ BE → (0 ≤ y2 ∧ y2 ≤ 28) → 28 - y2 < (n : Int) → X (EE s) d 5 5 [(0, zr g0 16), (1, zi y1), (2, zi y2), (3, zi y3)] [] m Q := by
  intro n
  induction n with
  | zero =>
    intro y2 m B hJ hB  hy2 hn
    exfalso
    omega
  | succ n ih =>
    intro y2 m B hJ hB  hy2 hn
    refine X.iload_n 6 i5_5 rfl rfl rfl ?_
    refine X.iload_n 7 i5_6 rfl rfl rfl ?_
    refine X.icmpge 20 10 i5_7 rfl rfl rfl (fun h504 => ?_) (fun h504 => ?_)
    · refine X.cut [] i5_20 rfl ?_
      exact K20  m (B) (hJ.up (by omega)) (by omega)  
    · refine X.aload_n 11 i5_10 rfl rfl rfl ?_
      refine X.iload_n 12 i5_11 rfl rfl rfl ?_
      refine X.iload_n 13 i5_12 rfl rfl rfl ?_
      refine X.iast' 14 i5_13 rfl rfl (by decide) rfl (by omega) (fun hrm505 m505 hm505 => ?_)
      have hJ506 := w16_0 hJ hm505 (by omega) (by omega)
      refine X.iinc 17 [(0, zr g0 16), (1, zi y1), (2, zi (y2 + 1)), (3, zi y3)] i5_14 rfl rfl rfl (by omega) rfl ?_
      refine X.goto 5 i5_17 rfl rfl ?_
      exact ih (y2 + 1) m505 (B) (hJ506.up (by omega)) (by omega)  (by omega) (by omega)
-- java/util/Arrays.fill
theorem c5_3 {s : Nat × (Nat → Int32)} {S : zS} {m0 m : zM} {B : Int} {d : Nat} {Q : Option zV → zM → Prop} (g0 : Nat) (a1 : Int) (hd : 13 ≤ d) (hJ : J S m0 B m) (hB : B + 0 ≤ 1000000000) (ha1 : 0 ≤ a1 ∧ a1 ≤ 0) (hQ : ∀ m', J S m0 (B) m' → Q none m') : X (EE s) d 5 0 [(0, zr g0 16), (1, zi a1)] [] m Q := by
  refine X.iconst 1 i5_0 rfl rfl (by decide) ?_
  refine X.istore_n 2 [(0, zr g0 16), (1, zi a1), (2, zi 0)] i5_1 rfl rfl rfl ?_
  refine X.aload_n 3 i5_2 rfl rfl rfl ?_
  refine X.alen 4 i5_3 rfl rfl (by decide) rfl ?_
  show X (EE s) d 5 4 [(0, zr g0 16), (1, zi a1), (2, zi 0)] [zi 28] m _
  refine X.istore_n 5 [(0, zr g0 16), (1, zi a1), (2, zi 0), (3, zi 28)] i5_4 rfl rfl rfl ?_
  refine l5_5_3 (s := s) (S := S) (m0 := m0) (d := d) g0 a1 28 (BE := B + 0) (by omega) (by omega) (by omega) (by omega) (fun  m501 B502 hJ503 hBB502 => ?_) ((28 - 0 : Int).toNat + 1) 0 m (B) (hJ.up (by omega)) (by omega)  (by omega) (by omega)
  refine X.retv i5_20 rfl t5 ?_
  exact hQ  m501  (hJ503.up (by omega)) 
-- WorkMeter$Calendar.clearAll
theorem c4_1 {s : Nat × (Nat → Int32)} {S : zS} {m0 m : zM} {B : Int} {d : Nat} {Q : Option zV → zM → Prop} (g0 : Nat) (hd : 14 ≤ d) (hJ : J S m0 B m) (hB : B + 0 ≤ 1000000000) (hQ : ∀ m', J S m0 (B) m' → Q none m') : X (EE s) d 4 0 [(0, zr g0 11)] [] m Q := by
  refine X.aload_n 1 i4_0 rfl rfl rfl ?_
  refine X.getR 4 i4_1 rfl rfl (by decide) rfl rfl ?_
  refine X.iconst 5 i4_4 rfl rfl (by decide) ?_
  refine X.calls 8 [zr g0 12, zi 0] [] [(0, zr g0 12), (1, zi 0)] i4_5 (by decide) rfl rfl (by omega) rfl rfl t5 (Nat.le_of_ble_eq_true rfl) (Nat.le_of_ble_eq_true rfl) rfl ?_
  refine c5_1 (B := B) g0 0 (by omega) (hJ.up (by omega)) (by omega) (by omega) (fun m501 hJ502 => ?_)
  show X (EE s) d 4 8 [(0, zr g0 11)] [] m501 _
  refine X.aload_n 9 i4_8 rfl rfl rfl ?_
  refine X.getR 12 i4_9 rfl rfl (by decide) rfl rfl ?_
  refine X.iconst 13 i4_12 rfl rfl (by decide) ?_
  refine X.calls 16 [zr g0 15, zi (-1)] [] [(0, zr g0 15), (1, zi (-1))] i4_13 (by decide) rfl rfl (by omega) rfl rfl t5 (Nat.le_of_ble_eq_true rfl) (Nat.le_of_ble_eq_true rfl) rfl ?_
  refine c5_2 (B := B) g0 (-1) (by omega) (hJ502.up (by omega)) (by omega) (by omega) (fun m504 hJ505 => ?_)
  show X (EE s) d 4 16 [(0, zr g0 11)] [] m504 _
  refine X.aload_n 17 i4_16 rfl rfl rfl ?_
  refine X.getR 20 i4_17 rfl rfl (by decide) rfl rfl ?_
  refine X.iconst 21 i4_20 rfl rfl (by decide) ?_
  refine X.iconst 22 i4_21 rfl rfl (by decide) ?_
  refine X.iast' 23 i4_22 rfl rfl (by decide) rfl (by omega) (fun hrm507 m507 hm507 => ?_)
  have hJ508 := w15_0 hJ505 hm507 (by omega) (by omega)
  refine X.aload_n 24 i4_23 rfl rfl rfl ?_
  refine X.getR 27 i4_24 rfl rfl (by decide) rfl rfl ?_
  refine X.iconst 28 i4_27 rfl rfl (by decide) ?_
  refine X.calls 31 [zr g0 16, zi 0] [] [(0, zr g0 16), (1, zi 0)] i4_28 (by decide) rfl rfl (by omega) rfl rfl t5 (Nat.le_of_ble_eq_true rfl) (Nat.le_of_ble_eq_true rfl) rfl ?_
  refine c5_3 (B := B) g0 0 (by omega) (hJ508.up (by omega)) (by omega) (by omega) (fun m509 hJ510 => ?_)
  show X (EE s) d 4 31 [(0, zr g0 11)] [] m509 _
  refine X.aload_n 32 i4_31 rfl rfl rfl ?_
  refine X.iconst 33 i4_32 rfl rfl (by decide) ?_
  refine X.putI' 36 7 i4_33 rfl rfl (by decide) rfl rfl rfl (fun hrm512 m512 hm512 => ?_)
  have hJ513 := w11_7 hJ510 hm512 (by omega)
  have em512 : m512 g0 11 7 = 0 := by rw [hm512]; exact z_upd_same _ _ _ _ _
  refine X.retv i4_36 rfl t4 ?_
  exact hQ  m512  (hJ513.up (by omega)) 
theorem l93_0_1 {s : Nat × (Nat → Int32)} {S : zS} {m0 : zM} {d : Nat} {Q : Option zV → zM → Prop} (BE : Int) (hE : BE ≤ 1000000000) (hd : 13 ≤ d)
    (K38 : ∀ (m' : zM) (B' : Int), J S m0 B' m' → B' ≤ BE → X (EE s) d 93 38 [] [] m' Q) :
    ∀ (n : Nat) (m : zM) (B : Int), J S m0 B m → B + 0 * (n : Int) ≤ BE → 300 - m 4 41 7 < (n : Int) → X (EE s) d 93 0 [(0, zr 4 41)] [] m Q := by
  intro n
  induction n with
  | zero =>
    intro  m B hJ hB   hn
    have zf0 := r41_7 hJ 4
    exfalso
    omega
  | succ n ih =>
    intro  m B hJ hB   hn
    refine X.aload_n 1 i93_0 rfl rfl rfl ?_
    refine X.getI 4 7 i93_1 rfl rfl (by decide) rfl rfl rfl ?_
    have h508 := r41_7 hJ 4
    refine X.aload_n 5 i93_4 rfl rfl rfl ?_
    refine X.getI 8 3 i93_5 rfl rfl (by decide) rfl rfl rfl ?_
    have h509 := r41_3 hJ 4
    refine X.icmpge 38 11 i93_8 rfl rfl rfl (fun h510 => ?_) (fun h510 => ?_)
    · refine X.cut [] i93_38 rfl ?_
      exact K38  m (B) (hJ.up (by omega)) (by omega)  
    · refine X.aload_n 12 i93_11 rfl rfl rfl ?_
      refine X.getF 15 i93_12 rfl rfl (by decide) rfl rfl ?_
      refine X.aload_n 16 i93_15 rfl rfl rfl ?_
      refine X.getI 19 7 i93_16 rfl rfl (by decide) rfl rfl rfl ?_
      refine X.iald 20 i93_19 rfl rfl (by decide) rfl (by omega) ?_
      have h511 := r42_0 hJ 4 (i := (m 4 41 7)) (by omega)
      refine X.bipush 22 i93_20 rfl rfl (by decide) ?_
      refine X.icmpne 38 25 i93_22 rfl rfl rfl (fun h512 => ?_) (fun h512 => ?_)
      · refine X.cut [] i93_38 rfl ?_
        exact K38  m (B) (hJ.up (by omega)) (by omega)  
      · refine X.aload_n 26 i93_25 rfl rfl rfl ?_
        refine X.dup 27 i93_26 rfl rfl rfl ?_
        refine X.getI 30 7 i93_27 rfl rfl (by decide) rfl rfl rfl ?_
        refine X.iconst 31 i93_30 rfl rfl (by decide) ?_
        refine X.iadd 32 i93_31 rfl rfl (by omega) ?_
        refine X.putI' 35 7 i93_32 rfl rfl (by decide) rfl rfl rfl (fun hrm513 m513 hm513 => ?_)
        have hJ514 := w41_7 hJ hm513 (by omega)
        have em513 : m513 4 41 7 = ((m 4 41 7) + 1) := by rw [hm513]; exact z_upd_same _ _ _ _ _
        refine X.goto 0 i93_35 rfl rfl ?_
        exact ih  m513 (B) (hJ514.up (by omega)) (by omega)   (by omega)
-- WorkMeter$CalendarText.skipBlanks
theorem c93_1 {s : Nat × (Nat → Int32)} {S : zS} {m0 m : zM} {B : Int} {d : Nat} {Q : Option zV → zM → Prop} (hd : 13 ≤ d) (hJ : J S m0 B m) (hB : B + 0 ≤ 1000000000) (hQ : ∀ m', J S m0 (B) m' → Q none m') : X (EE s) d 93 0 [(0, zr 4 41)] [] m Q := by
  refine l93_0_1 (s := s) (S := S) (m0 := m0) (d := d)   (BE := B + 0) (by omega) (by omega) (fun  m501 B502 hJ503 hBB502 => ?_) ((300 - m 4 41 7 : Int).toNat + 1)  m (B) (hJ.up (by omega)) (by omega)   (by omega)
  refine X.retv i93_38 rfl t93 ?_
  exact hQ  m501  (hJ503.up (by omega)) 
theorem l95_5_1 {s : Nat × (Nat → Int32)} {S : zS} {m0 m : zM} {B : Int} {d : Nat} {Q : Option zV → zM → Prop} (hd : 13 ≤ d) (hJ : J S m0 B m) (hB9 : B ≤ 1000000000)
    (K41 : ∀ (x1 : Int) , (0 ≤ x1 ∧ x1 ≤ 300) → X (EE s) d 95 41 [(0, zr 4 41), (1, zi x1)] [] m Q) :
    ∀ (n : Nat) (y1 : Int) , (0 ≤ y1 ∧ y1 ≤ 300) → 300 - y1 < (n : Int) → X (EE s) d 95 5 [(0, zr 4 41), (1, zi y1)] [] m Q := by
  intro n
  induction n with
  | zero =>
    intro y1 hy1 hn
    exfalso
    omega
  | succ n ih =>
    intro y1 hy1 hn
    refine X.iload_n 6 i95_5 rfl rfl rfl ?_
    refine X.aload_n 7 i95_6 rfl rfl rfl ?_
    refine X.getI 10 3 i95_7 rfl rfl (by decide) rfl rfl rfl ?_
    have h507 := r41_3 hJ 4
    refine X.icmpge 41 13 i95_10 rfl rfl rfl (fun h508 => ?_) (fun h508 => ?_)
    · exact K41 y1 (by first | trivial | omega)
    · refine X.aload_n 14 i95_13 rfl rfl rfl ?_
      refine X.getF 17 i95_14 rfl rfl (by decide) rfl rfl ?_
      refine X.iload_n 18 i95_17 rfl rfl rfl ?_
      refine X.iald 19 i95_18 rfl rfl (by decide) rfl (by omega) ?_
      have h509 := r42_0 hJ 4 (i := y1) (by omega)
      refine X.bipush 21 i95_19 rfl rfl (by decide) ?_
      refine X.icmplt 41 24 i95_21 rfl rfl rfl (fun h510 => ?_) (fun h510 => ?_)
      · exact K41 y1 (by first | trivial | omega)
      · refine X.aload_n 25 i95_24 rfl rfl rfl ?_
        refine X.getF 28 i95_25 rfl rfl (by decide) rfl rfl ?_
        refine X.iload_n 29 i95_28 rfl rfl rfl ?_
        refine X.iald 30 i95_29 rfl rfl (by decide) rfl (by omega) ?_
        refine X.bipush 32 i95_30 rfl rfl (by decide) ?_
        refine X.icmpgt 41 35 i95_32 rfl rfl rfl (fun h511 => ?_) (fun h511 => ?_)
        · exact K41 y1 (by first | trivial | omega)
        · refine X.iinc 38 [(0, zr 4 41), (1, zi (y1 + 1))] i95_35 rfl rfl rfl (by omega) rfl ?_
          refine X.goto 5 i95_38 rfl rfl ?_
          exact ih (y1 + 1) (by omega) (by omega)
-- WorkMeter$CalendarText.lettersHere
theorem c95_1 {s : Nat × (Nat → Int32)} {S : zS} {m0 m : zM} {B : Int} {d : Nat} {Q : Option zV → zM → Prop} (hd : 13 ≤ d) (hJ : J S m0 B m) (hB : B + 0 ≤ 1000000000) (hQ : ∀ (v : Int), ((-300) ≤ v ∧ v ≤ 300) → Q (some (zi v)) m) : X (EE s) d 95 0 [(0, zr 4 41)] [] m Q := by
  refine X.aload_n 1 i95_0 rfl rfl rfl ?_
  refine X.getI 4 7 i95_1 rfl rfl (by decide) rfl rfl rfl ?_
  have h501 := r41_7 hJ 4
  refine X.istore_n 5 [(0, zr 4 41), (1, zi (m 4 41 7))] i95_4 rfl rfl rfl ?_
  refine l95_5_1 (s := s) (S := S) (m0 := m0) (m := m) (B := B) (d := d)   (by omega) (hJ.up (by omega)) (by omega) (fun y502 hby502 => ?_) ((300 - (m 4 41 7) : Int).toNat + 1) (m 4 41 7) (by omega) (by omega)
  refine X.iload_n 42 i95_41 rfl rfl rfl ?_
  refine X.aload_n 43 i95_42 rfl rfl rfl ?_
  refine X.getI 46 7 i95_43 rfl rfl (by decide) rfl rfl rfl ?_
  refine X.isub 47 i95_46 rfl rfl (by omega) ?_
  refine X.reti i95_47 rfl t95 ?_
  exact hQ (y502 - (m 4 41 7)) (by first | trivial | omega) 
theorem l96_25_1 {s : Nat × (Nat → Int32)} {S : zS} {m0 m : zM} {B : Int} {d : Nat} {Q : Option zV → zM → Prop} (y2 : Int) (hd : 13 ≤ d) (hJ : J S m0 B m) (hB9 : B ≤ 1000000000) (hy2 : 5 ≤ y2 ∧ y2 ≤ 5)
    (K49 : ∀ (x3 : Int) , (0 ≤ x3 ∧ x3 ≤ 4) → (m 4 41 7 + y2 ≤ 300) → X (EE s) d 96 49 [(0, zr 4 41), (1, zr 99 4), (2, zi y2), (3, zi x3)] [] m Q)
    (K57 : (m 4 41 7 + y2 ≤ 300) → X (EE s) d 96 57 [] [] m Q) :
    ∀ (n : Nat) (y3 : Int) , (0 ≤ y3 ∧ y3 ≤ 5) → (m 4 41 7 + y2 ≤ 300) → 5 - y3 < (n : Int) → X (EE s) d 96 25 [(0, zr 4 41), (1, zr 99 4), (2, zi y2), (3, zi y3)] [] m Q := by
  intro n
  induction n with
  | zero =>
    intro y3 hy3 hr0 hn
    exfalso
    omega
  | succ n ih =>
    intro y3 hy3 hr0 hn
    refine X.iload_n 26 i96_25 rfl rfl rfl ?_
    refine X.iload_n 27 i96_26 rfl rfl rfl ?_
    refine X.icmpge 57 30 i96_27 rfl rfl rfl (fun h506 => ?_) (fun h506 => ?_)
    · refine X.cut [] i96_57 rfl ?_
      exact K57  (by omega)
    · refine X.aload_n 31 i96_30 rfl rfl rfl ?_
      refine X.getF 34 i96_31 rfl rfl (by decide) rfl rfl ?_
      refine X.aload_n 35 i96_34 rfl rfl rfl ?_
      refine X.getI 38 7 i96_35 rfl rfl (by decide) rfl rfl rfl ?_
      have h507 := r41_7 hJ 4
      refine X.iload_n 39 i96_38 rfl rfl rfl ?_
      refine X.iadd 40 i96_39 rfl rfl (by omega) ?_
      refine X.iald 41 i96_40 rfl rfl (by decide) rfl (by omega) ?_
      have h508 := r42_0 hJ 4 (i := ((m 4 41 7) + y3)) (by omega)
      refine X.aload_n 42 i96_41 rfl rfl rfl ?_
      refine X.iload_n 43 i96_42 rfl rfl rfl ?_
      refine X.schar 46 i96_43 rfl rfl (by omega) (Nat.le_of_ble_eq_true rfl) (by decide) (by show 0 ≤ _ ∧ _ < (5 : Int); omega) ?_
      generalize (((EE s).1.2 4).getD (y3).toNat 0).toInt = z509
      refine X.icmpeq 51 49 i96_46 rfl rfl rfl (fun h510 => ?_) (fun h510 => ?_)
      · refine X.iinc 54 [(0, zr 4 41), (1, zr 99 4), (2, zi y2), (3, zi (y3 + 1))] i96_51 rfl rfl rfl (by omega) rfl ?_
        refine X.goto 25 i96_54 rfl rfl ?_
        exact ih (y3 + 1) (by omega) (by omega) (by omega)
      · exact K49 y3 (by first | trivial | omega) (by omega)
-- WorkMeter$CalendarText.spells
theorem c96_1 {s : Nat × (Nat → Int32)} {S : zS} {m0 m : zM} {B : Int} {d : Nat} {Q : Option zV → zM → Prop} (a2 : Int) (hd : 13 ≤ d) (hJ : J S m0 B m) (hB : B + 0 ≤ 1000000000) (ha2 : (-300) ≤ a2 ∧ a2 ≤ 300) (hQ : ∀ (v : Int), (0 ≤ v ∧ v ≤ 1) → (v = 1 → m 4 41 7 + 5 ≤ 300) → Q (some (zi v)) m) : X (EE s) d 96 0 [(0, zr 4 41), (1, zr 99 4), (2, zi a2)] [] m Q := by
  have f0 := r41_3 hJ 4
  refine X.iload_n 1 i96_0 rfl rfl rfl ?_
  refine X.aload_n 2 i96_1 rfl rfl rfl ?_
  refine X.slen 5 i96_2 rfl rfl (by omega) (Nat.le_of_ble_eq_true rfl) (by decide) (show (5 : Nat) < 2147483648 by decide) ?_
  show X (EE s) d 96 5 [(0, zr 4 41), (1, zr 99 4), (2, zi a2)] [zi 5, zi a2] m _
  refine X.icmpne 21 8 i96_5 rfl rfl rfl (fun h501 => ?_) (fun h501 => ?_)
  · refine X.cut [] i96_21 rfl ?_
    refine X.iconst 22 i96_21 rfl rfl (by decide) ?_
    refine X.retz i96_22 rfl t96 (by omega) ?_
    exact hQ 0 (by first | trivial | omega) (by omega)
  · refine X.aload_n 9 i96_8 rfl rfl rfl ?_
    refine X.getI 12 7 i96_9 rfl rfl (by decide) rfl rfl rfl ?_
    have h502 := r41_7 hJ 4
    refine X.iload_n 13 i96_12 rfl rfl rfl ?_
    refine X.iadd 14 i96_13 rfl rfl (by omega) ?_
    refine X.aload_n 15 i96_14 rfl rfl rfl ?_
    refine X.getI 18 3 i96_15 rfl rfl (by decide) rfl rfl rfl ?_
    have h503 := r41_3 hJ 4
    refine X.icmple 23 21 i96_18 rfl rfl rfl (fun h504 => ?_) (fun h504 => ?_)
    · refine X.iconst 24 i96_23 rfl rfl (by decide) ?_
      refine X.istore_n 25 [(0, zr 4 41), (1, zr 99 4), (2, zi a2), (3, zi 0)] i96_24 rfl rfl rfl ?_
      refine l96_25_1 (s := s) (S := S) (m0 := m0) (m := m) (B := B) (d := d)  a2 (by omega) (hJ.up (by omega)) (by omega) (by omega) (fun y505 hby505 hrlm5060 => ?_) (fun  hrlm5090 => ?_) ((5 - 0 : Int).toNat + 1) 0 (by omega) (by omega) (by omega)
      · refine X.iconst 50 i96_49 rfl rfl (by decide) ?_
        refine X.retz i96_50 rfl t96 (by omega) ?_
        exact hQ 0 (by first | trivial | omega) (by omega)
      · refine X.iconst 58 i96_57 rfl rfl (by decide) ?_
        refine X.retz i96_58 rfl t96 (by omega) ?_
        exact hQ 1 (by first | trivial | omega) (by omega)
    · refine X.cut [] i96_21 rfl ?_
      refine X.iconst 22 i96_21 rfl rfl (by decide) ?_
      refine X.retz i96_22 rfl t96 (by omega) ?_
      exact hQ 0 (by first | trivial | omega) (by omega)
theorem l96_25_2 {s : Nat × (Nat → Int32)} {S : zS} {m0 m : zM} {B : Int} {d : Nat} {Q : Option zV → zM → Prop} (y2 : Int) (hd : 13 ≤ d) (hJ : J S m0 B m) (hB9 : B ≤ 1000000000) (hy2 : 6 ≤ y2 ∧ y2 ≤ 6)
    (K49 : ∀ (x3 : Int) , (0 ≤ x3 ∧ x3 ≤ 5) → (m 4 41 7 + y2 ≤ 300) → X (EE s) d 96 49 [(0, zr 4 41), (1, zr 99 5), (2, zi y2), (3, zi x3)] [] m Q)
    (K57 : (m 4 41 7 + y2 ≤ 300) → X (EE s) d 96 57 [] [] m Q) :
    ∀ (n : Nat) (y3 : Int) , (0 ≤ y3 ∧ y3 ≤ 6) → (m 4 41 7 + y2 ≤ 300) → 6 - y3 < (n : Int) → X (EE s) d 96 25 [(0, zr 4 41), (1, zr 99 5), (2, zi y2), (3, zi y3)] [] m Q := by
  intro n
  induction n with
  | zero =>
    intro y3 hy3 hr0 hn
    exfalso
    omega
  | succ n ih =>
    intro y3 hy3 hr0 hn
    refine X.iload_n 26 i96_25 rfl rfl rfl ?_
    refine X.iload_n 27 i96_26 rfl rfl rfl ?_
    refine X.icmpge 57 30 i96_27 rfl rfl rfl (fun h506 => ?_) (fun h506 => ?_)
    · refine X.cut [] i96_57 rfl ?_
      exact K57  (by omega)
    · refine X.aload_n 31 i96_30 rfl rfl rfl ?_
      refine X.getF 34 i96_31 rfl rfl (by decide) rfl rfl ?_
      refine X.aload_n 35 i96_34 rfl rfl rfl ?_
      refine X.getI 38 7 i96_35 rfl rfl (by decide) rfl rfl rfl ?_
      have h507 := r41_7 hJ 4
      refine X.iload_n 39 i96_38 rfl rfl rfl ?_
      refine X.iadd 40 i96_39 rfl rfl (by omega) ?_
      refine X.iald 41 i96_40 rfl rfl (by decide) rfl (by omega) ?_
      have h508 := r42_0 hJ 4 (i := ((m 4 41 7) + y3)) (by omega)
      refine X.aload_n 42 i96_41 rfl rfl rfl ?_
      refine X.iload_n 43 i96_42 rfl rfl rfl ?_
      refine X.schar 46 i96_43 rfl rfl (by omega) (Nat.le_of_ble_eq_true rfl) (by decide) (by show 0 ≤ _ ∧ _ < (6 : Int); omega) ?_
      generalize (((EE s).1.2 5).getD (y3).toNat 0).toInt = z509
      refine X.icmpeq 51 49 i96_46 rfl rfl rfl (fun h510 => ?_) (fun h510 => ?_)
      · refine X.iinc 54 [(0, zr 4 41), (1, zr 99 5), (2, zi y2), (3, zi (y3 + 1))] i96_51 rfl rfl rfl (by omega) rfl ?_
        refine X.goto 25 i96_54 rfl rfl ?_
        exact ih (y3 + 1) (by omega) (by omega) (by omega)
      · exact K49 y3 (by first | trivial | omega) (by omega)
-- WorkMeter$CalendarText.spells
theorem c96_2 {s : Nat × (Nat → Int32)} {S : zS} {m0 m : zM} {B : Int} {d : Nat} {Q : Option zV → zM → Prop} (a2 : Int) (hd : 13 ≤ d) (hJ : J S m0 B m) (hB : B + 0 ≤ 1000000000) (ha2 : (-300) ≤ a2 ∧ a2 ≤ 300) (hQ : ∀ (v : Int), (0 ≤ v ∧ v ≤ 1) → (v = 1 → m 4 41 7 + 6 ≤ 300) → Q (some (zi v)) m) : X (EE s) d 96 0 [(0, zr 4 41), (1, zr 99 5), (2, zi a2)] [] m Q := by
  have f0 := r41_3 hJ 4
  refine X.iload_n 1 i96_0 rfl rfl rfl ?_
  refine X.aload_n 2 i96_1 rfl rfl rfl ?_
  refine X.slen 5 i96_2 rfl rfl (by omega) (Nat.le_of_ble_eq_true rfl) (by decide) (show (6 : Nat) < 2147483648 by decide) ?_
  show X (EE s) d 96 5 [(0, zr 4 41), (1, zr 99 5), (2, zi a2)] [zi 6, zi a2] m _
  refine X.icmpne 21 8 i96_5 rfl rfl rfl (fun h501 => ?_) (fun h501 => ?_)
  · refine X.cut [] i96_21 rfl ?_
    refine X.iconst 22 i96_21 rfl rfl (by decide) ?_
    refine X.retz i96_22 rfl t96 (by omega) ?_
    exact hQ 0 (by first | trivial | omega) (by omega)
  · refine X.aload_n 9 i96_8 rfl rfl rfl ?_
    refine X.getI 12 7 i96_9 rfl rfl (by decide) rfl rfl rfl ?_
    have h502 := r41_7 hJ 4
    refine X.iload_n 13 i96_12 rfl rfl rfl ?_
    refine X.iadd 14 i96_13 rfl rfl (by omega) ?_
    refine X.aload_n 15 i96_14 rfl rfl rfl ?_
    refine X.getI 18 3 i96_15 rfl rfl (by decide) rfl rfl rfl ?_
    have h503 := r41_3 hJ 4
    refine X.icmple 23 21 i96_18 rfl rfl rfl (fun h504 => ?_) (fun h504 => ?_)
    · refine X.iconst 24 i96_23 rfl rfl (by decide) ?_
      refine X.istore_n 25 [(0, zr 4 41), (1, zr 99 5), (2, zi a2), (3, zi 0)] i96_24 rfl rfl rfl ?_
      refine l96_25_2 (s := s) (S := S) (m0 := m0) (m := m) (B := B) (d := d)  a2 (by omega) (hJ.up (by omega)) (by omega) (by omega) (fun y505 hby505 hrlm5060 => ?_) (fun  hrlm5090 => ?_) ((6 - 0 : Int).toNat + 1) 0 (by omega) (by omega) (by omega)
      · refine X.iconst 50 i96_49 rfl rfl (by decide) ?_
        refine X.retz i96_50 rfl t96 (by omega) ?_
        exact hQ 0 (by first | trivial | omega) (by omega)
      · refine X.iconst 58 i96_57 rfl rfl (by decide) ?_
        refine X.retz i96_58 rfl t96 (by omega) ?_
        exact hQ 1 (by first | trivial | omega) (by omega)
    · refine X.cut [] i96_21 rfl ?_
      refine X.iconst 22 i96_21 rfl rfl (by decide) ?_
      refine X.retz i96_22 rfl t96 (by omega) ?_
      exact hQ 0 (by first | trivial | omega) (by omega)
theorem l96_25_3 {s : Nat × (Nat → Int32)} {S : zS} {m0 m : zM} {B : Int} {d : Nat} {Q : Option zV → zM → Prop} (y2 : Int) (hd : 13 ≤ d) (hJ : J S m0 B m) (hB9 : B ≤ 1000000000) (hy2 : 7 ≤ y2 ∧ y2 ≤ 7)
    (K49 : ∀ (x3 : Int) , (0 ≤ x3 ∧ x3 ≤ 6) → (m 4 41 7 + y2 ≤ 300) → X (EE s) d 96 49 [(0, zr 4 41), (1, zr 99 6), (2, zi y2), (3, zi x3)] [] m Q)
    (K57 : (m 4 41 7 + y2 ≤ 300) → X (EE s) d 96 57 [] [] m Q) :
    ∀ (n : Nat) (y3 : Int) , (0 ≤ y3 ∧ y3 ≤ 7) → (m 4 41 7 + y2 ≤ 300) → 7 - y3 < (n : Int) → X (EE s) d 96 25 [(0, zr 4 41), (1, zr 99 6), (2, zi y2), (3, zi y3)] [] m Q := by
  intro n
  induction n with
  | zero =>
    intro y3 hy3 hr0 hn
    exfalso
    omega
  | succ n ih =>
    intro y3 hy3 hr0 hn
    refine X.iload_n 26 i96_25 rfl rfl rfl ?_
    refine X.iload_n 27 i96_26 rfl rfl rfl ?_
    refine X.icmpge 57 30 i96_27 rfl rfl rfl (fun h506 => ?_) (fun h506 => ?_)
    · refine X.cut [] i96_57 rfl ?_
      exact K57  (by omega)
    · refine X.aload_n 31 i96_30 rfl rfl rfl ?_
      refine X.getF 34 i96_31 rfl rfl (by decide) rfl rfl ?_
      refine X.aload_n 35 i96_34 rfl rfl rfl ?_
      refine X.getI 38 7 i96_35 rfl rfl (by decide) rfl rfl rfl ?_
      have h507 := r41_7 hJ 4
      refine X.iload_n 39 i96_38 rfl rfl rfl ?_
      refine X.iadd 40 i96_39 rfl rfl (by omega) ?_
      refine X.iald 41 i96_40 rfl rfl (by decide) rfl (by omega) ?_
      have h508 := r42_0 hJ 4 (i := ((m 4 41 7) + y3)) (by omega)
      refine X.aload_n 42 i96_41 rfl rfl rfl ?_
      refine X.iload_n 43 i96_42 rfl rfl rfl ?_
      refine X.schar 46 i96_43 rfl rfl (by omega) (Nat.le_of_ble_eq_true rfl) (by decide) (by show 0 ≤ _ ∧ _ < (7 : Int); omega) ?_
      generalize (((EE s).1.2 6).getD (y3).toNat 0).toInt = z509
      refine X.icmpeq 51 49 i96_46 rfl rfl rfl (fun h510 => ?_) (fun h510 => ?_)
      · refine X.iinc 54 [(0, zr 4 41), (1, zr 99 6), (2, zi y2), (3, zi (y3 + 1))] i96_51 rfl rfl rfl (by omega) rfl ?_
        refine X.goto 25 i96_54 rfl rfl ?_
        exact ih (y3 + 1) (by omega) (by omega) (by omega)
      · exact K49 y3 (by first | trivial | omega) (by omega)
-- WorkMeter$CalendarText.spells
theorem c96_3 {s : Nat × (Nat → Int32)} {S : zS} {m0 m : zM} {B : Int} {d : Nat} {Q : Option zV → zM → Prop} (a2 : Int) (hd : 13 ≤ d) (hJ : J S m0 B m) (hB : B + 0 ≤ 1000000000) (ha2 : (-300) ≤ a2 ∧ a2 ≤ 300) (hQ : ∀ (v : Int), (0 ≤ v ∧ v ≤ 1) → (v = 1 → m 4 41 7 + 7 ≤ 300) → Q (some (zi v)) m) : X (EE s) d 96 0 [(0, zr 4 41), (1, zr 99 6), (2, zi a2)] [] m Q := by
  have f0 := r41_3 hJ 4
  refine X.iload_n 1 i96_0 rfl rfl rfl ?_
  refine X.aload_n 2 i96_1 rfl rfl rfl ?_
  refine X.slen 5 i96_2 rfl rfl (by omega) (Nat.le_of_ble_eq_true rfl) (by decide) (show (7 : Nat) < 2147483648 by decide) ?_
  show X (EE s) d 96 5 [(0, zr 4 41), (1, zr 99 6), (2, zi a2)] [zi 7, zi a2] m _
  refine X.icmpne 21 8 i96_5 rfl rfl rfl (fun h501 => ?_) (fun h501 => ?_)
  · refine X.cut [] i96_21 rfl ?_
    refine X.iconst 22 i96_21 rfl rfl (by decide) ?_
    refine X.retz i96_22 rfl t96 (by omega) ?_
    exact hQ 0 (by first | trivial | omega) (by omega)
  · refine X.aload_n 9 i96_8 rfl rfl rfl ?_
    refine X.getI 12 7 i96_9 rfl rfl (by decide) rfl rfl rfl ?_
    have h502 := r41_7 hJ 4
    refine X.iload_n 13 i96_12 rfl rfl rfl ?_
    refine X.iadd 14 i96_13 rfl rfl (by omega) ?_
    refine X.aload_n 15 i96_14 rfl rfl rfl ?_
    refine X.getI 18 3 i96_15 rfl rfl (by decide) rfl rfl rfl ?_
    have h503 := r41_3 hJ 4
    refine X.icmple 23 21 i96_18 rfl rfl rfl (fun h504 => ?_) (fun h504 => ?_)
    · refine X.iconst 24 i96_23 rfl rfl (by decide) ?_
      refine X.istore_n 25 [(0, zr 4 41), (1, zr 99 6), (2, zi a2), (3, zi 0)] i96_24 rfl rfl rfl ?_
      refine l96_25_3 (s := s) (S := S) (m0 := m0) (m := m) (B := B) (d := d)  a2 (by omega) (hJ.up (by omega)) (by omega) (by omega) (fun y505 hby505 hrlm5060 => ?_) (fun  hrlm5090 => ?_) ((7 - 0 : Int).toNat + 1) 0 (by omega) (by omega) (by omega)
      · refine X.iconst 50 i96_49 rfl rfl (by decide) ?_
        refine X.retz i96_50 rfl t96 (by omega) ?_
        exact hQ 0 (by first | trivial | omega) (by omega)
      · refine X.iconst 58 i96_57 rfl rfl (by decide) ?_
        refine X.retz i96_58 rfl t96 (by omega) ?_
        exact hQ 1 (by first | trivial | omega) (by omega)
    · refine X.cut [] i96_21 rfl ?_
      refine X.iconst 22 i96_21 rfl rfl (by decide) ?_
      refine X.retz i96_22 rfl t96 (by omega) ?_
      exact hQ 0 (by first | trivial | omega) (by omega)
theorem l96_25_4 {s : Nat × (Nat → Int32)} {S : zS} {m0 m : zM} {B : Int} {d : Nat} {Q : Option zV → zM → Prop} (y2 : Int) (hd : 13 ≤ d) (hJ : J S m0 B m) (hB9 : B ≤ 1000000000) (hy2 : 5 ≤ y2 ∧ y2 ≤ 5)
    (K49 : ∀ (x3 : Int) , (0 ≤ x3 ∧ x3 ≤ 4) → (m 4 41 7 + y2 ≤ 300) → X (EE s) d 96 49 [(0, zr 4 41), (1, zr 99 7), (2, zi y2), (3, zi x3)] [] m Q)
    (K57 : (m 4 41 7 + y2 ≤ 300) → X (EE s) d 96 57 [] [] m Q) :
    ∀ (n : Nat) (y3 : Int) , (0 ≤ y3 ∧ y3 ≤ 5) → (m 4 41 7 + y2 ≤ 300) → 5 - y3 < (n : Int) → X (EE s) d 96 25 [(0, zr 4 41), (1, zr 99 7), (2, zi y2), (3, zi y3)] [] m Q := by
  intro n
  induction n with
  | zero =>
    intro y3 hy3 hr0 hn
    exfalso
    omega
  | succ n ih =>
    intro y3 hy3 hr0 hn
    refine X.iload_n 26 i96_25 rfl rfl rfl ?_
    refine X.iload_n 27 i96_26 rfl rfl rfl ?_
    refine X.icmpge 57 30 i96_27 rfl rfl rfl (fun h506 => ?_) (fun h506 => ?_)
    · refine X.cut [] i96_57 rfl ?_
      exact K57  (by omega)
    · refine X.aload_n 31 i96_30 rfl rfl rfl ?_
      refine X.getF 34 i96_31 rfl rfl (by decide) rfl rfl ?_
      refine X.aload_n 35 i96_34 rfl rfl rfl ?_
      refine X.getI 38 7 i96_35 rfl rfl (by decide) rfl rfl rfl ?_
      have h507 := r41_7 hJ 4
      refine X.iload_n 39 i96_38 rfl rfl rfl ?_
      refine X.iadd 40 i96_39 rfl rfl (by omega) ?_
      refine X.iald 41 i96_40 rfl rfl (by decide) rfl (by omega) ?_
      have h508 := r42_0 hJ 4 (i := ((m 4 41 7) + y3)) (by omega)
      refine X.aload_n 42 i96_41 rfl rfl rfl ?_
      refine X.iload_n 43 i96_42 rfl rfl rfl ?_
      refine X.schar 46 i96_43 rfl rfl (by omega) (Nat.le_of_ble_eq_true rfl) (by decide) (by show 0 ≤ _ ∧ _ < (5 : Int); omega) ?_
      generalize (((EE s).1.2 7).getD (y3).toNat 0).toInt = z509
      refine X.icmpeq 51 49 i96_46 rfl rfl rfl (fun h510 => ?_) (fun h510 => ?_)
      · refine X.iinc 54 [(0, zr 4 41), (1, zr 99 7), (2, zi y2), (3, zi (y3 + 1))] i96_51 rfl rfl rfl (by omega) rfl ?_
        refine X.goto 25 i96_54 rfl rfl ?_
        exact ih (y3 + 1) (by omega) (by omega) (by omega)
      · exact K49 y3 (by first | trivial | omega) (by omega)
-- WorkMeter$CalendarText.spells
theorem c96_4 {s : Nat × (Nat → Int32)} {S : zS} {m0 m : zM} {B : Int} {d : Nat} {Q : Option zV → zM → Prop} (a2 : Int) (hd : 13 ≤ d) (hJ : J S m0 B m) (hB : B + 0 ≤ 1000000000) (ha2 : (-300) ≤ a2 ∧ a2 ≤ 300) (hQ : ∀ (v : Int), (0 ≤ v ∧ v ≤ 1) → (v = 1 → m 4 41 7 + 5 ≤ 300) → Q (some (zi v)) m) : X (EE s) d 96 0 [(0, zr 4 41), (1, zr 99 7), (2, zi a2)] [] m Q := by
  have f0 := r41_3 hJ 4
  refine X.iload_n 1 i96_0 rfl rfl rfl ?_
  refine X.aload_n 2 i96_1 rfl rfl rfl ?_
  refine X.slen 5 i96_2 rfl rfl (by omega) (Nat.le_of_ble_eq_true rfl) (by decide) (show (5 : Nat) < 2147483648 by decide) ?_
  show X (EE s) d 96 5 [(0, zr 4 41), (1, zr 99 7), (2, zi a2)] [zi 5, zi a2] m _
  refine X.icmpne 21 8 i96_5 rfl rfl rfl (fun h501 => ?_) (fun h501 => ?_)
  · refine X.cut [] i96_21 rfl ?_
    refine X.iconst 22 i96_21 rfl rfl (by decide) ?_
    refine X.retz i96_22 rfl t96 (by omega) ?_
    exact hQ 0 (by first | trivial | omega) (by omega)
  · refine X.aload_n 9 i96_8 rfl rfl rfl ?_
    refine X.getI 12 7 i96_9 rfl rfl (by decide) rfl rfl rfl ?_
    have h502 := r41_7 hJ 4
    refine X.iload_n 13 i96_12 rfl rfl rfl ?_
    refine X.iadd 14 i96_13 rfl rfl (by omega) ?_
    refine X.aload_n 15 i96_14 rfl rfl rfl ?_
    refine X.getI 18 3 i96_15 rfl rfl (by decide) rfl rfl rfl ?_
    have h503 := r41_3 hJ 4
    refine X.icmple 23 21 i96_18 rfl rfl rfl (fun h504 => ?_) (fun h504 => ?_)
    · refine X.iconst 24 i96_23 rfl rfl (by decide) ?_
      refine X.istore_n 25 [(0, zr 4 41), (1, zr 99 7), (2, zi a2), (3, zi 0)] i96_24 rfl rfl rfl ?_
      refine l96_25_4 (s := s) (S := S) (m0 := m0) (m := m) (B := B) (d := d)  a2 (by omega) (hJ.up (by omega)) (by omega) (by omega) (fun y505 hby505 hrlm5060 => ?_) (fun  hrlm5090 => ?_) ((5 - 0 : Int).toNat + 1) 0 (by omega) (by omega) (by omega)
      · refine X.iconst 50 i96_49 rfl rfl (by decide) ?_
        refine X.retz i96_50 rfl t96 (by omega) ?_
        exact hQ 0 (by first | trivial | omega) (by omega)
      · refine X.iconst 58 i96_57 rfl rfl (by decide) ?_
        refine X.retz i96_58 rfl t96 (by omega) ?_
        exact hQ 1 (by first | trivial | omega) (by omega)
    · refine X.cut [] i96_21 rfl ?_
      refine X.iconst 22 i96_21 rfl rfl (by decide) ?_
      refine X.retz i96_22 rfl t96 (by omega) ?_
      exact hQ 0 (by first | trivial | omega) (by omega)
theorem l100_14_1 {s : Nat × (Nat → Int32)} {S : zS} {m0 : zM} {d : Nat} {Q : Option zV → zM → Prop} (y1 : Int) (BE : Int) (hE : BE ≤ 1000000000) (hd : 13 ≤ d) (hy1 : 100 ≤ y1 ∧ y1 ≤ 100)
    (K76 : ∀ (x2 : Int) (m' : zM) (B' : Int), J S m0 B' m' → B' ≤ BE → (0 ≤ x2 ∧ x2 ≤ 1000000) → X (EE s) d 100 76 [(0, zr 4 41), (1, zi y1), (2, zi x2)] [] m' Q) :
    ∀ (n : Nat) (y2 : Int) (m : zM) (B : Int), J S m0 B m → B + 0 * (n : Int) ≤ BE → (0 ≤ y2 ∧ y2 ≤ 1000000) → 300 - m 4 41 7 < (n : Int) → X (EE s) d 100 14 [(0, zr 4 41), (1, zi y1), (2, zi y2)] [] m Q := by
  intro n
  induction n with
  | zero =>
    intro y2 m B hJ hB  hy2 hn
    have zf0 := r41_7 hJ 4
    exfalso
    omega
  | succ n ih =>
    intro y2 m B hJ hB  hy2 hn
    refine X.aload_n 15 i100_14 rfl rfl rfl ?_
    refine X.getI 18 7 i100_15 rfl rfl (by decide) rfl rfl rfl ?_
    have h512 := r41_7 hJ 4
    refine X.aload_n 19 i100_18 rfl rfl rfl ?_
    refine X.getI 22 3 i100_19 rfl rfl (by decide) rfl rfl rfl ?_
    have h513 := r41_3 hJ 4
    refine X.icmpge 76 25 i100_22 rfl rfl rfl (fun h514 => ?_) (fun h514 => ?_)
    · exact K76 y2 m (B) (hJ.up (by omega)) (by omega)  (by first | trivial | omega)
    · refine X.aload_n 26 i100_25 rfl rfl rfl ?_
      refine X.getF 29 i100_26 rfl rfl (by decide) rfl rfl ?_
      refine X.aload_n 30 i100_29 rfl rfl rfl ?_
      refine X.getI 33 7 i100_30 rfl rfl (by decide) rfl rfl rfl ?_
      refine X.iald 34 i100_33 rfl rfl (by decide) rfl (by omega) ?_
      have h515 := r42_0 hJ 4 (i := (m 4 41 7)) (by omega)
      refine X.calls 37 [zi (m 4 42 (m 4 41 7))] [] [(0, zi (m 4 42 (m 4 41 7)))] i100_34 (by decide) rfl rfl (by omega) rfl rfl t101 (Nat.le_of_ble_eq_true rfl) (Nat.le_of_ble_eq_true rfl) rfl ?_
      refine X.iload_n 1 i101_0 rfl rfl rfl ?_
      refine X.bipush 3 i101_1 rfl rfl (by decide) ?_
      refine X.icmplt 16 6 i101_3 rfl rfl rfl (fun h516 => ?_) (fun h516 => ?_)
      · refine X.cut [] i101_16 rfl ?_
        refine X.iconst 17 i101_16 rfl rfl (by decide) ?_
        refine X.retz i101_17 rfl t101 (by omega) ?_
        show X (EE s) d 100 37 [(0, zr 4 41), (1, zi y1), (2, zi y2)] [zi 0] m _
        refine X.ifeq 76 40 i100_37 rfl rfl rfl (fun h517 => ?_) (fun h517 => (by exfalso; omega))
        exact K76 y2 m (B) (hJ.up (by omega)) (by omega)  (by first | trivial | omega)
      · refine X.iload_n 7 i101_6 rfl rfl rfl ?_
        refine X.bipush 9 i101_7 rfl rfl (by decide) ?_
        refine X.icmpgt 16 12 i101_9 rfl rfl rfl (fun h518 => ?_) (fun h518 => ?_)
        · refine X.cut [] i101_16 rfl ?_
          refine X.iconst 17 i101_16 rfl rfl (by decide) ?_
          refine X.retz i101_17 rfl t101 (by omega) ?_
          show X (EE s) d 100 37 [(0, zr 4 41), (1, zi y1), (2, zi y2)] [zi 0] m _
          refine X.ifeq 76 40 i100_37 rfl rfl rfl (fun h519 => ?_) (fun h519 => (by exfalso; omega))
          exact K76 y2 m (B) (hJ.up (by omega)) (by omega)  (by first | trivial | omega)
        · refine X.iconst 13 i101_12 rfl rfl (by decide) ?_
          refine X.goto 17 i101_13 rfl rfl ?_
          refine X.cut [] i101_17 rfl ?_
          refine X.retz i101_17 rfl t101 (by omega) ?_
          show X (EE s) d 100 37 [(0, zr 4 41), (1, zi y1), (2, zi y2)] [zi 1] m _
          refine X.ifeq 76 40 i100_37 rfl rfl rfl (fun h520 => (by exfalso; omega)) (fun h520 => ?_)
          refine X.iload_n 41 i100_40 rfl rfl rfl ?_
          refine X.bipush 43 i100_41 rfl rfl (by decide) ?_
          refine X.imul 44 i100_43 rfl rfl (by omega) ?_
          refine X.aload_n 45 i100_44 rfl rfl rfl ?_
          refine X.getF 48 i100_45 rfl rfl (by decide) rfl rfl ?_
          refine X.aload_n 49 i100_48 rfl rfl rfl ?_
          refine X.getI 52 7 i100_49 rfl rfl (by decide) rfl rfl rfl ?_
          refine X.iald 53 i100_52 rfl rfl (by decide) rfl (by omega) ?_
          refine X.iadd 54 i100_53 rfl rfl (by omega) ?_
          refine X.bipush 56 i100_54 rfl rfl (by decide) ?_
          refine X.isub 57 i100_56 rfl rfl (by omega) ?_
          refine X.ldc 59 i100_57 rfl rfl (by decide) ?_
          refine X.minI 62 i100_59 rfl rfl (by omega) (Nat.le_of_ble_eq_true rfl) ?_
          refine X.istore_n 63 [(0, zr 4 41), (1, zi y1), (2, zi (min (((y2 * 10) + (m 4 42 (m 4 41 7))) - 48) 1000000))] i100_62 rfl rfl rfl ?_
          refine X.aload_n 64 i100_63 rfl rfl rfl ?_
          refine X.dup 65 i100_64 rfl rfl rfl ?_
          refine X.getI 68 7 i100_65 rfl rfl (by decide) rfl rfl rfl ?_
          refine X.iconst 69 i100_68 rfl rfl (by decide) ?_
          refine X.iadd 70 i100_69 rfl rfl (by omega) ?_
          refine X.putI' 73 7 i100_70 rfl rfl (by decide) rfl rfl rfl (fun hrm521 m521 hm521 => ?_)
          have hJ522 := w41_7 hJ hm521 (by omega)
          have em521 : m521 4 41 7 = ((m 4 41 7) + 1) := by rw [hm521]; exact z_upd_same _ _ _ _ _
          refine X.goto 14 i100_73 rfl rfl ?_
          exact ih (min (((y2 * 10) + (m 4 42 (m 4 41 7))) - 48) 1000000) m521 (B) (hJ522.up (by omega)) (by omega)  (by omega) (by omega)
-- WorkMeter$CalendarText.readNumber
theorem c100_1 {s : Nat × (Nat → Int32)} {S : zS} {m0 m : zM} {B : Int} {d : Nat} {Q : Option zV → zM → Prop} (a1 : Int) (hd : 14 ≤ d) (hJ : J S m0 B m) (hB : B + 0 ≤ 1000000000) (ha1 : 100 ≤ a1 ∧ a1 ≤ 100) (hQ : ∀ (v : Int) m', ((-1) ≤ v ∧ v ≤ 100) → J S m0 (B) m' → Q (some (zi v)) m') : X (EE s) d 100 0 [(0, zr 4 41), (1, zi a1)] [] m Q := by
  refine X.aload_n 1 i100_0 rfl rfl rfl ?_
  refine X.callv 4 [] [] [(0, zr 4 41)] i100_1 rfl (by decide) rfl rfl (by omega) rfl rfl (by decide) rfl t93 (Nat.le_of_ble_eq_true rfl) (Nat.le_of_ble_eq_true rfl) rfl ?_
  refine c93_1 (B := B)   (by omega) (hJ.up (by omega)) (by omega)  (fun m501 hJ502 => ?_)
  show X (EE s) d 100 4 [(0, zr 4 41), (1, zi a1)] [] m501 _
  refine X.aload_n 5 i100_4 rfl rfl rfl ?_
  refine X.aload_n 6 i100_5 rfl rfl rfl ?_
  refine X.getI 9 7 i100_6 rfl rfl (by decide) rfl rfl rfl ?_
  have h504 := r41_7 hJ502 4
  refine X.putI' 12 8 i100_9 rfl rfl (by decide) rfl rfl rfl (fun hrm505 m505 hm505 => ?_)
  have hJ506 := w41_8 hJ502 hm505 (by omega) hrm505
  refine X.iconst 13 i100_12 rfl rfl (by decide) ?_
  refine X.istore_n 14 [(0, zr 4 41), (1, zi a1), (2, zi 0)] i100_13 rfl rfl rfl ?_
  refine l100_14_1 (s := s) (S := S) (m0 := m0) (d := d)  a1 (BE := B + 0) (by omega) (by omega) (by omega) (fun y507 m508 B509 hJ510 hBB509 hby507 => ?_) ((300 - m505 4 41 7 : Int).toNat + 1) 0 m505 (B) (hJ506.up (by omega)) (by omega)  (by omega) (by omega)
  refine X.aload_n 77 i100_76 rfl rfl rfl ?_
  refine X.getI 80 7 i100_77 rfl rfl (by decide) rfl rfl rfl ?_
  have h511 := r41_7 hJ510 4
  refine X.aload_n 81 i100_80 rfl rfl rfl ?_
  refine X.getIr 84 8 i100_81 rfl rfl (by decide) rfl rfl rfl (fun h512 => ?_)
  refine X.icmpne 99 87 i100_84 rfl rfl rfl (fun h513 => ?_) (fun h513 => ?_)
  · refine X.iload_n 100 i100_99 rfl rfl rfl ?_
    refine X.iload_n 101 i100_100 rfl rfl rfl ?_
    refine X.icmple 116 104 i100_101 rfl rfl rfl (fun h514 => ?_) (fun h514 => ?_)
    · refine X.cut [(2, zi y507)] i100_116 rfl ?_
      refine X.iload_n 117 i100_116 rfl rfl rfl ?_
      refine X.reti i100_117 rfl t100 ?_
      exact hQ y507 m508 (by first | trivial | omega) (hJ510.up (by omega)) 
    · refine X.aload_n 105 i100_104 rfl rfl rfl ?_
      refine X.iconst 106 i100_105 rfl rfl (by decide) ?_
      refine X.aload_n 107 i100_106 rfl rfl rfl ?_
      refine X.getI 110 8 i100_107 rfl rfl (by decide) rfl rfl rfl ?_
      refine X.callv 113 [zi 2, zi (m508 4 41 8)] [] [(0, zr 4 41), (1, zi 2), (2, zi (m508 4 41 8))] i100_110 rfl (by decide) rfl rfl (by omega) rfl rfl (by decide) rfl t102 (Nat.le_of_ble_eq_true rfl) (Nat.le_of_ble_eq_true rfl) rfl ?_
      refine X.aload_n 1 i102_0 rfl rfl rfl ?_
      refine X.iload_n 2 i102_1 rfl rfl rfl ?_
      refine X.putI' 5 4 i102_2 rfl rfl (by decide) rfl rfl rfl (fun hrm515 m515 hm515 => ?_)
      have hJ516 := w41_4 hJ510 hm515 (by omega) hrm515
      refine X.aload_n 6 i102_5 rfl rfl rfl ?_
      refine X.iload_n 7 i102_6 rfl rfl rfl ?_
      refine X.putI' 10 5 i102_7 rfl rfl (by decide) rfl rfl rfl (fun hrm517 m517 hm517 => ?_)
      have hJ518 := w41_4 hJ516 hm517 (by omega) hrm517
      refine X.iconst 11 i102_10 rfl rfl (by decide) ?_
      refine X.retz i102_11 rfl t102 (by omega) ?_
      show X (EE s) d 100 113 [(0, zr 4 41), (1, zi a1), (2, zi y507)] [zi 0] m517 _
      refine X.pop 114 i100_113 rfl rfl rfl ?_
      refine X.iconst 115 i100_114 rfl rfl (by decide) ?_
      refine X.reti i100_115 rfl t100 ?_
      exact hQ (-1) m517 (by first | trivial | omega) (hJ518.up (by omega)) 
  · refine X.aload_n 88 i100_87 rfl rfl rfl ?_
    refine X.iconst 89 i100_88 rfl rfl (by decide) ?_
    refine X.aload_n 90 i100_89 rfl rfl rfl ?_
    refine X.getI 93 8 i100_90 rfl rfl (by decide) rfl rfl rfl ?_
    refine X.callv 96 [zi 1, zi (m508 4 41 8)] [] [(0, zr 4 41), (1, zi 1), (2, zi (m508 4 41 8))] i100_93 rfl (by decide) rfl rfl (by omega) rfl rfl (by decide) rfl t102 (Nat.le_of_ble_eq_true rfl) (Nat.le_of_ble_eq_true rfl) rfl ?_
    refine X.aload_n 1 i102_0 rfl rfl rfl ?_
    refine X.iload_n 2 i102_1 rfl rfl rfl ?_
    refine X.putI' 5 4 i102_2 rfl rfl (by decide) rfl rfl rfl (fun hrm519 m519 hm519 => ?_)
    have hJ520 := w41_4 hJ510 hm519 (by omega) hrm519
    refine X.aload_n 6 i102_5 rfl rfl rfl ?_
    refine X.iload_n 7 i102_6 rfl rfl rfl ?_
    refine X.putI' 10 5 i102_7 rfl rfl (by decide) rfl rfl rfl (fun hrm521 m521 hm521 => ?_)
    have hJ522 := w41_4 hJ520 hm521 (by omega) hrm521
    refine X.iconst 11 i102_10 rfl rfl (by decide) ?_
    refine X.retz i102_11 rfl t102 (by omega) ?_
    show X (EE s) d 100 96 [(0, zr 4 41), (1, zi a1), (2, zi y507)] [zi 0] m521 _
    refine X.pop 97 i100_96 rfl rfl rfl ?_
    refine X.iconst 98 i100_97 rfl rfl (by decide) ?_
    refine X.reti i100_98 rfl t100 ?_
    exact hQ (-1) m521 (by first | trivial | omega) (hJ522.up (by omega)) 
theorem l110_25_1 {s : Nat × (Nat → Int32)} {S : zS} {m0 : zM} {d : Nat} {Q : Option zV → zM → Prop} (BE : Int) (hE : BE ≤ 1000000000) (hd : 15 ≤ d)
    (K42 : ∀ (x1 x2 : Int) (m' : zM) (B' : Int), J S m0 B' m' → B' ≤ BE → (0 ≤ x1 ∧ x1 ≤ 3) → ((-1) ≤ x2 ∧ x2 ≤ (-1)) → X (EE s) d 110 42 [(0, zr 4 41), (1, zi x1), (2, zi x2)] [] m' Q)
    (K57 : ∀ (m' : zM) (B' : Int), J S m0 B' m' → B' ≤ BE → X (EE s) d 110 57 [(0, zr 4 41)] [] m' Q) :
    ∀ (n : Nat) (y1 : Int) (m : zM) (B : Int), J S m0 B m → B + 0 * (n : Int) ≤ BE → (0 ≤ y1 ∧ y1 ≤ 4) → 4 - y1 < (n : Int) → X (EE s) d 110 25 [(0, zr 4 41), (1, zi y1)] [] m Q := by
  intro n
  induction n with
  | zero =>
    intro y1 m B hJ hB  hy1 hn
    exfalso
    omega
  | succ n ih =>
    intro y1 m B hJ hB  hy1 hn
    refine X.iload_n 26 i110_25 rfl rfl rfl ?_
    refine X.iconst 27 i110_26 rfl rfl (by decide) ?_
    refine X.icmpge 57 30 i110_27 rfl rfl rfl (fun h508 => ?_) (fun h508 => ?_)
    · refine X.cut [(0, zr 4 41)] i110_57 rfl ?_
      exact K57  m (B) (hJ.up (by omega)) (by omega)  
    · refine X.aload_n 31 i110_30 rfl rfl rfl ?_
      refine X.bipush 33 i110_31 rfl rfl (by decide) ?_
      refine X.callv 36 [zi 100] [] [(0, zr 4 41), (1, zi 100)] i110_33 rfl (by decide) rfl rfl (by omega) rfl rfl (by decide) rfl t100 (Nat.le_of_ble_eq_true rfl) (Nat.le_of_ble_eq_true rfl) rfl ?_
      refine c100_1 (B := B)  100 (by omega) (hJ.up (by omega)) (by omega) (by omega) (fun v511 m509 hv511 hJ510 => ?_)
      show X (EE s) d 110 36 [(0, zr 4 41), (1, zi y1)] [zi v511] m509 _
      refine X.istore_n 37 [(0, zr 4 41), (1, zi y1), (2, zi v511)] i110_36 rfl rfl rfl ?_
      refine X.iload_n 38 i110_37 rfl rfl rfl ?_
      refine X.iconst 39 i110_38 rfl rfl (by decide) ?_
      refine X.icmpne 44 42 i110_39 rfl rfl rfl (fun h512 => ?_) (fun h512 => ?_)
      · refine X.aload_n 45 i110_44 rfl rfl rfl ?_
        refine X.getF 48 i110_45 rfl rfl (by decide) rfl rfl ?_
        refine X.iload_n 49 i110_48 rfl rfl rfl ?_
        refine X.iload_n 50 i110_49 rfl rfl rfl ?_
        refine X.iast' 51 i110_50 rfl rfl (by decide) rfl (by omega) (fun hrm513 m513 hm513 => ?_)
        have hJ514 := w43_0 hJ510 hm513 (by omega) (by omega)
        refine X.iinc 54 [(0, zr 4 41), (1, zi (y1 + 1)), (2, zi v511)] i110_51 rfl rfl rfl (by omega) rfl ?_
        refine X.goto 25 i110_54 rfl rfl ?_
        refine X.cut [(0, zr 4 41), (1, zi (y1 + 1))] i110_25 rfl ?_
        exact ih (y1 + 1) m513 (B) (hJ514.up (by omega)) (by omega)  (by omega) (by omega)
      · exact K42 y1 v511 m509 (B) (hJ510.up (by omega)) (by omega)  (by first | trivial | omega) (by first | trivial | omega)
-- WorkMeter$CalendarText.readPrices
theorem c110_1 {s : Nat × (Nat → Int32)} {S : zS} {m0 m : zM} {B : Int} {d : Nat} {Q : Option zV → zM → Prop} (hd : 15 ≤ d) (hJ : J S m0 B m) (hB : B + 0 ≤ 1000000000) (hp0 : m 4 41 7 + 5 ≤ 300) (hQ : ∀ (v : Int) m', (0 ≤ v ∧ v ≤ 1) → J S m0 (B) m' → Q (some (zi v)) m') : X (EE s) d 110 0 [(0, zr 4 41)] [] m Q := by
  refine X.aload_n 1 i110_0 rfl rfl rfl ?_
  refine X.getZ 4 6 i110_1 rfl rfl (by decide) rfl rfl rfl (fun h501 => ?_)
  refine X.ifeq 17 7 i110_4 rfl rfl rfl (fun h502 => ?_) (fun h502 => ?_)
  · refine X.aload_n 18 i110_17 rfl rfl rfl ?_
    refine X.ldcS 20 i110_18 rfl rfl (by decide) ?_
    refine X.callv 23 [zr 99 7] [] [(0, zr 4 41), (1, zr 99 7)] i110_20 rfl (by decide) rfl rfl (by omega) rfl rfl (by decide) rfl t98 (Nat.le_of_ble_eq_true rfl) (Nat.le_of_ble_eq_true rfl) rfl ?_
    refine X.aload_n 1 i98_0 rfl rfl rfl ?_
    refine X.dup 2 i98_1 rfl rfl rfl ?_
    refine X.getI 5 7 i98_2 rfl rfl (by decide) rfl rfl rfl ?_
    have h503 := r41_7 hJ 4
    refine X.aload_n 6 i98_5 rfl rfl rfl ?_
    refine X.slen 9 i98_6 rfl rfl (by omega) (Nat.le_of_ble_eq_true rfl) (by decide) (show (5 : Nat) < 2147483648 by decide) ?_
    show X (EE s) (d - 1) 98 9 [(0, zr 4 41), (1, zr 99 7)] [zi 5, zi (m 4 41 7), zr 4 41] m _
    refine X.iadd 10 i98_9 rfl rfl (by omega) ?_
    refine X.putI' 13 7 i98_10 rfl rfl (by decide) rfl rfl rfl (fun hrm504 m504 hm504 => ?_)
    have hJ505 := w41_7 hJ hm504 (by omega)
    have em504 : m504 4 41 7 = ((m 4 41 7) + 5) := by rw [hm504]; exact z_upd_same _ _ _ _ _
    refine X.retv i98_13 rfl t98 ?_
    show X (EE s) d 110 23 [(0, zr 4 41)] [] m504 _
    refine X.iconst 24 i110_23 rfl rfl (by decide) ?_
    refine X.istore_n 25 [(0, zr 4 41), (1, zi 0)] i110_24 rfl rfl rfl ?_
    refine l110_25_1 (s := s) (S := S) (m0 := m0) (d := d)   (BE := B + 0) (by omega) (by omega) (fun y506 y507 m508 B509 hJ510 hBB509 hby506 hby507 => ?_) (fun  m511 B512 hJ513 hBB512 => ?_) ((4 - 0 : Int).toNat + 1) 0 m504 (B) (hJ505.up (by omega)) (by omega)  (by omega) (by omega)
    · refine X.iconst 43 i110_42 rfl rfl (by decide) ?_
      refine X.retz i110_43 rfl t110 (by omega) ?_
      exact hQ 0 m508 (by first | trivial | omega) (hJ510.up (by omega)) 
    · refine X.aload_n 58 i110_57 rfl rfl rfl ?_
      refine X.iconst 59 i110_58 rfl rfl (by decide) ?_
      refine X.putZ' 62 6 i110_59 rfl rfl (by decide) rfl rfl rfl (by omega) (fun hrm514 m514 hm514 => ?_)
      have hJ515 := w41_6 hJ513 hm514 (by omega)
      refine X.iconst 63 i110_62 rfl rfl (by decide) ?_
      refine X.retz i110_63 rfl t110 (by omega) ?_
      exact hQ 1 m514 (by first | trivial | omega) (hJ515.up (by omega)) 
  · refine X.aload_n 8 i110_7 rfl rfl rfl ?_
    refine X.iconst 9 i110_8 rfl rfl (by decide) ?_
    refine X.aload_n 10 i110_9 rfl rfl rfl ?_
    refine X.getI 13 7 i110_10 rfl rfl (by decide) rfl rfl rfl ?_
    have h516 := r41_7 hJ 4
    refine X.callv 16 [zi 3, zi (m 4 41 7)] [] [(0, zr 4 41), (1, zi 3), (2, zi (m 4 41 7))] i110_13 rfl (by decide) rfl rfl (by omega) rfl rfl (by decide) rfl t102 (Nat.le_of_ble_eq_true rfl) (Nat.le_of_ble_eq_true rfl) rfl ?_
    refine X.aload_n 1 i102_0 rfl rfl rfl ?_
    refine X.iload_n 2 i102_1 rfl rfl rfl ?_
    refine X.putI' 5 4 i102_2 rfl rfl (by decide) rfl rfl rfl (fun hrm517 m517 hm517 => ?_)
    have hJ518 := w41_4 hJ hm517 (by omega) hrm517
    refine X.aload_n 6 i102_5 rfl rfl rfl ?_
    refine X.iload_n 7 i102_6 rfl rfl rfl ?_
    refine X.putI' 10 5 i102_7 rfl rfl (by decide) rfl rfl rfl (fun hrm519 m519 hm519 => ?_)
    have hJ520 := w41_4 hJ518 hm519 (by omega) hrm519
    refine X.iconst 11 i102_10 rfl rfl (by decide) ?_
    refine X.retz i102_11 rfl t102 (by omega) ?_
    show X (EE s) d 110 16 [(0, zr 4 41)] [zi 0] m519 _
    refine X.retz i110_16 rfl t110 (by omega) ?_
    exact hQ 0 m519 (by first | trivial | omega) (hJ520.up (by omega)) 
theorem l100_14_2 {s : Nat × (Nat → Int32)} {S : zS} {m0 : zM} {d : Nat} {Q : Option zV → zM → Prop} (y1 : Int) (BE : Int) (hE : BE ≤ 1000000000) (hd : 13 ≤ d) (hy1 : 364 ≤ y1 ∧ y1 ≤ 364)
    (K76 : ∀ (x2 : Int) (m' : zM) (B' : Int), J S m0 B' m' → B' ≤ BE → (0 ≤ x2 ∧ x2 ≤ 1000000) → X (EE s) d 100 76 [(0, zr 4 41), (1, zi y1), (2, zi x2)] [] m' Q) :
    ∀ (n : Nat) (y2 : Int) (m : zM) (B : Int), J S m0 B m → B + 0 * (n : Int) ≤ BE → (0 ≤ y2 ∧ y2 ≤ 1000000) → 300 - m 4 41 7 < (n : Int) → X (EE s) d 100 14 [(0, zr 4 41), (1, zi y1), (2, zi y2)] [] m Q := by
  intro n
  induction n with
  | zero =>
    intro y2 m B hJ hB  hy2 hn
    have zf0 := r41_7 hJ 4
    exfalso
    omega
  | succ n ih =>
    intro y2 m B hJ hB  hy2 hn
    refine X.aload_n 15 i100_14 rfl rfl rfl ?_
    refine X.getI 18 7 i100_15 rfl rfl (by decide) rfl rfl rfl ?_
    have h512 := r41_7 hJ 4
    refine X.aload_n 19 i100_18 rfl rfl rfl ?_
    refine X.getI 22 3 i100_19 rfl rfl (by decide) rfl rfl rfl ?_
    have h513 := r41_3 hJ 4
    refine X.icmpge 76 25 i100_22 rfl rfl rfl (fun h514 => ?_) (fun h514 => ?_)
    · exact K76 y2 m (B) (hJ.up (by omega)) (by omega)  (by first | trivial | omega)
    · refine X.aload_n 26 i100_25 rfl rfl rfl ?_
      refine X.getF 29 i100_26 rfl rfl (by decide) rfl rfl ?_
      refine X.aload_n 30 i100_29 rfl rfl rfl ?_
      refine X.getI 33 7 i100_30 rfl rfl (by decide) rfl rfl rfl ?_
      refine X.iald 34 i100_33 rfl rfl (by decide) rfl (by omega) ?_
      have h515 := r42_0 hJ 4 (i := (m 4 41 7)) (by omega)
      refine X.calls 37 [zi (m 4 42 (m 4 41 7))] [] [(0, zi (m 4 42 (m 4 41 7)))] i100_34 (by decide) rfl rfl (by omega) rfl rfl t101 (Nat.le_of_ble_eq_true rfl) (Nat.le_of_ble_eq_true rfl) rfl ?_
      refine X.iload_n 1 i101_0 rfl rfl rfl ?_
      refine X.bipush 3 i101_1 rfl rfl (by decide) ?_
      refine X.icmplt 16 6 i101_3 rfl rfl rfl (fun h516 => ?_) (fun h516 => ?_)
      · refine X.cut [] i101_16 rfl ?_
        refine X.iconst 17 i101_16 rfl rfl (by decide) ?_
        refine X.retz i101_17 rfl t101 (by omega) ?_
        show X (EE s) d 100 37 [(0, zr 4 41), (1, zi y1), (2, zi y2)] [zi 0] m _
        refine X.ifeq 76 40 i100_37 rfl rfl rfl (fun h517 => ?_) (fun h517 => (by exfalso; omega))
        exact K76 y2 m (B) (hJ.up (by omega)) (by omega)  (by first | trivial | omega)
      · refine X.iload_n 7 i101_6 rfl rfl rfl ?_
        refine X.bipush 9 i101_7 rfl rfl (by decide) ?_
        refine X.icmpgt 16 12 i101_9 rfl rfl rfl (fun h518 => ?_) (fun h518 => ?_)
        · refine X.cut [] i101_16 rfl ?_
          refine X.iconst 17 i101_16 rfl rfl (by decide) ?_
          refine X.retz i101_17 rfl t101 (by omega) ?_
          show X (EE s) d 100 37 [(0, zr 4 41), (1, zi y1), (2, zi y2)] [zi 0] m _
          refine X.ifeq 76 40 i100_37 rfl rfl rfl (fun h519 => ?_) (fun h519 => (by exfalso; omega))
          exact K76 y2 m (B) (hJ.up (by omega)) (by omega)  (by first | trivial | omega)
        · refine X.iconst 13 i101_12 rfl rfl (by decide) ?_
          refine X.goto 17 i101_13 rfl rfl ?_
          refine X.cut [] i101_17 rfl ?_
          refine X.retz i101_17 rfl t101 (by omega) ?_
          show X (EE s) d 100 37 [(0, zr 4 41), (1, zi y1), (2, zi y2)] [zi 1] m _
          refine X.ifeq 76 40 i100_37 rfl rfl rfl (fun h520 => (by exfalso; omega)) (fun h520 => ?_)
          refine X.iload_n 41 i100_40 rfl rfl rfl ?_
          refine X.bipush 43 i100_41 rfl rfl (by decide) ?_
          refine X.imul 44 i100_43 rfl rfl (by omega) ?_
          refine X.aload_n 45 i100_44 rfl rfl rfl ?_
          refine X.getF 48 i100_45 rfl rfl (by decide) rfl rfl ?_
          refine X.aload_n 49 i100_48 rfl rfl rfl ?_
          refine X.getI 52 7 i100_49 rfl rfl (by decide) rfl rfl rfl ?_
          refine X.iald 53 i100_52 rfl rfl (by decide) rfl (by omega) ?_
          refine X.iadd 54 i100_53 rfl rfl (by omega) ?_
          refine X.bipush 56 i100_54 rfl rfl (by decide) ?_
          refine X.isub 57 i100_56 rfl rfl (by omega) ?_
          refine X.ldc 59 i100_57 rfl rfl (by decide) ?_
          refine X.minI 62 i100_59 rfl rfl (by omega) (Nat.le_of_ble_eq_true rfl) ?_
          refine X.istore_n 63 [(0, zr 4 41), (1, zi y1), (2, zi (min (((y2 * 10) + (m 4 42 (m 4 41 7))) - 48) 1000000))] i100_62 rfl rfl rfl ?_
          refine X.aload_n 64 i100_63 rfl rfl rfl ?_
          refine X.dup 65 i100_64 rfl rfl rfl ?_
          refine X.getI 68 7 i100_65 rfl rfl (by decide) rfl rfl rfl ?_
          refine X.iconst 69 i100_68 rfl rfl (by decide) ?_
          refine X.iadd 70 i100_69 rfl rfl (by omega) ?_
          refine X.putI' 73 7 i100_70 rfl rfl (by decide) rfl rfl rfl (fun hrm521 m521 hm521 => ?_)
          have hJ522 := w41_7 hJ hm521 (by omega)
          have em521 : m521 4 41 7 = ((m 4 41 7) + 1) := by rw [hm521]; exact z_upd_same _ _ _ _ _
          refine X.goto 14 i100_73 rfl rfl ?_
          exact ih (min (((y2 * 10) + (m 4 42 (m 4 41 7))) - 48) 1000000) m521 (B) (hJ522.up (by omega)) (by omega)  (by omega) (by omega)
-- WorkMeter$CalendarText.readNumber
theorem c100_2 {s : Nat × (Nat → Int32)} {S : zS} {m0 m : zM} {B : Int} {d : Nat} {Q : Option zV → zM → Prop} (a1 : Int) (hd : 14 ≤ d) (hJ : J S m0 B m) (hB : B + 0 ≤ 1000000000) (ha1 : 364 ≤ a1 ∧ a1 ≤ 364) (hQ : ∀ (v : Int) m', ((-1) ≤ v ∧ v ≤ 364) → J S m0 (B) m' → Q (some (zi v)) m') : X (EE s) d 100 0 [(0, zr 4 41), (1, zi a1)] [] m Q := by
  refine X.aload_n 1 i100_0 rfl rfl rfl ?_
  refine X.callv 4 [] [] [(0, zr 4 41)] i100_1 rfl (by decide) rfl rfl (by omega) rfl rfl (by decide) rfl t93 (Nat.le_of_ble_eq_true rfl) (Nat.le_of_ble_eq_true rfl) rfl ?_
  refine c93_1 (B := B)   (by omega) (hJ.up (by omega)) (by omega)  (fun m501 hJ502 => ?_)
  show X (EE s) d 100 4 [(0, zr 4 41), (1, zi a1)] [] m501 _
  refine X.aload_n 5 i100_4 rfl rfl rfl ?_
  refine X.aload_n 6 i100_5 rfl rfl rfl ?_
  refine X.getI 9 7 i100_6 rfl rfl (by decide) rfl rfl rfl ?_
  have h504 := r41_7 hJ502 4
  refine X.putI' 12 8 i100_9 rfl rfl (by decide) rfl rfl rfl (fun hrm505 m505 hm505 => ?_)
  have hJ506 := w41_8 hJ502 hm505 (by omega) hrm505
  refine X.iconst 13 i100_12 rfl rfl (by decide) ?_
  refine X.istore_n 14 [(0, zr 4 41), (1, zi a1), (2, zi 0)] i100_13 rfl rfl rfl ?_
  refine l100_14_2 (s := s) (S := S) (m0 := m0) (d := d)  a1 (BE := B + 0) (by omega) (by omega) (by omega) (fun y507 m508 B509 hJ510 hBB509 hby507 => ?_) ((300 - m505 4 41 7 : Int).toNat + 1) 0 m505 (B) (hJ506.up (by omega)) (by omega)  (by omega) (by omega)
  refine X.aload_n 77 i100_76 rfl rfl rfl ?_
  refine X.getI 80 7 i100_77 rfl rfl (by decide) rfl rfl rfl ?_
  have h511 := r41_7 hJ510 4
  refine X.aload_n 81 i100_80 rfl rfl rfl ?_
  refine X.getIr 84 8 i100_81 rfl rfl (by decide) rfl rfl rfl (fun h512 => ?_)
  refine X.icmpne 99 87 i100_84 rfl rfl rfl (fun h513 => ?_) (fun h513 => ?_)
  · refine X.iload_n 100 i100_99 rfl rfl rfl ?_
    refine X.iload_n 101 i100_100 rfl rfl rfl ?_
    refine X.icmple 116 104 i100_101 rfl rfl rfl (fun h514 => ?_) (fun h514 => ?_)
    · refine X.cut [(2, zi y507)] i100_116 rfl ?_
      refine X.iload_n 117 i100_116 rfl rfl rfl ?_
      refine X.reti i100_117 rfl t100 ?_
      exact hQ y507 m508 (by first | trivial | omega) (hJ510.up (by omega)) 
    · refine X.aload_n 105 i100_104 rfl rfl rfl ?_
      refine X.iconst 106 i100_105 rfl rfl (by decide) ?_
      refine X.aload_n 107 i100_106 rfl rfl rfl ?_
      refine X.getI 110 8 i100_107 rfl rfl (by decide) rfl rfl rfl ?_
      refine X.callv 113 [zi 2, zi (m508 4 41 8)] [] [(0, zr 4 41), (1, zi 2), (2, zi (m508 4 41 8))] i100_110 rfl (by decide) rfl rfl (by omega) rfl rfl (by decide) rfl t102 (Nat.le_of_ble_eq_true rfl) (Nat.le_of_ble_eq_true rfl) rfl ?_
      refine X.aload_n 1 i102_0 rfl rfl rfl ?_
      refine X.iload_n 2 i102_1 rfl rfl rfl ?_
      refine X.putI' 5 4 i102_2 rfl rfl (by decide) rfl rfl rfl (fun hrm515 m515 hm515 => ?_)
      have hJ516 := w41_4 hJ510 hm515 (by omega) hrm515
      refine X.aload_n 6 i102_5 rfl rfl rfl ?_
      refine X.iload_n 7 i102_6 rfl rfl rfl ?_
      refine X.putI' 10 5 i102_7 rfl rfl (by decide) rfl rfl rfl (fun hrm517 m517 hm517 => ?_)
      have hJ518 := w41_4 hJ516 hm517 (by omega) hrm517
      refine X.iconst 11 i102_10 rfl rfl (by decide) ?_
      refine X.retz i102_11 rfl t102 (by omega) ?_
      show X (EE s) d 100 113 [(0, zr 4 41), (1, zi a1), (2, zi y507)] [zi 0] m517 _
      refine X.pop 114 i100_113 rfl rfl rfl ?_
      refine X.iconst 115 i100_114 rfl rfl (by decide) ?_
      refine X.reti i100_115 rfl t100 ?_
      exact hQ (-1) m517 (by first | trivial | omega) (hJ518.up (by omega)) 
  · refine X.aload_n 88 i100_87 rfl rfl rfl ?_
    refine X.iconst 89 i100_88 rfl rfl (by decide) ?_
    refine X.aload_n 90 i100_89 rfl rfl rfl ?_
    refine X.getI 93 8 i100_90 rfl rfl (by decide) rfl rfl rfl ?_
    refine X.callv 96 [zi 1, zi (m508 4 41 8)] [] [(0, zr 4 41), (1, zi 1), (2, zi (m508 4 41 8))] i100_93 rfl (by decide) rfl rfl (by omega) rfl rfl (by decide) rfl t102 (Nat.le_of_ble_eq_true rfl) (Nat.le_of_ble_eq_true rfl) rfl ?_
    refine X.aload_n 1 i102_0 rfl rfl rfl ?_
    refine X.iload_n 2 i102_1 rfl rfl rfl ?_
    refine X.putI' 5 4 i102_2 rfl rfl (by decide) rfl rfl rfl (fun hrm519 m519 hm519 => ?_)
    have hJ520 := w41_4 hJ510 hm519 (by omega) hrm519
    refine X.aload_n 6 i102_5 rfl rfl rfl ?_
    refine X.iload_n 7 i102_6 rfl rfl rfl ?_
    refine X.putI' 10 5 i102_7 rfl rfl (by decide) rfl rfl rfl (fun hrm521 m521 hm521 => ?_)
    have hJ522 := w41_4 hJ520 hm521 (by omega) hrm521
    refine X.iconst 11 i102_10 rfl rfl (by decide) ?_
    refine X.retz i102_11 rfl t102 (by omega) ?_
    show X (EE s) d 100 96 [(0, zr 4 41), (1, zi a1), (2, zi y507)] [zi 0] m521 _
    refine X.pop 97 i100_96 rfl rfl rfl ?_
    refine X.iconst 98 i100_97 rfl rfl (by decide) ?_
    refine X.reti i100_98 rfl t100 ?_
    exact hQ (-1) m521 (by first | trivial | omega) (hJ522.up (by omega)) 
theorem l100_14_3 {s : Nat × (Nat → Int32)} {S : zS} {m0 : zM} {d : Nat} {Q : Option zV → zM → Prop} (y1 : Int) (BE : Int) (hE : BE ≤ 1000000000) (hd : 13 ≤ d) (hy1 : 7 ≤ y1 ∧ y1 ≤ 7)
    (K76 : ∀ (x2 : Int) (m' : zM) (B' : Int), J S m0 B' m' → B' ≤ BE → (0 ≤ x2 ∧ x2 ≤ 1000000) → X (EE s) d 100 76 [(0, zr 4 41), (1, zi y1), (2, zi x2)] [] m' Q) :
    ∀ (n : Nat) (y2 : Int) (m : zM) (B : Int), J S m0 B m → B + 0 * (n : Int) ≤ BE → (0 ≤ y2 ∧ y2 ≤ 1000000) → 300 - m 4 41 7 < (n : Int) → X (EE s) d 100 14 [(0, zr 4 41), (1, zi y1), (2, zi y2)] [] m Q := by
  intro n
  induction n with
  | zero =>
    intro y2 m B hJ hB  hy2 hn
    have zf0 := r41_7 hJ 4
    exfalso
    omega
  | succ n ih =>
    intro y2 m B hJ hB  hy2 hn
    refine X.aload_n 15 i100_14 rfl rfl rfl ?_
    refine X.getI 18 7 i100_15 rfl rfl (by decide) rfl rfl rfl ?_
    have h512 := r41_7 hJ 4
    refine X.aload_n 19 i100_18 rfl rfl rfl ?_
    refine X.getI 22 3 i100_19 rfl rfl (by decide) rfl rfl rfl ?_
    have h513 := r41_3 hJ 4
    refine X.icmpge 76 25 i100_22 rfl rfl rfl (fun h514 => ?_) (fun h514 => ?_)
    · exact K76 y2 m (B) (hJ.up (by omega)) (by omega)  (by first | trivial | omega)
    · refine X.aload_n 26 i100_25 rfl rfl rfl ?_
      refine X.getF 29 i100_26 rfl rfl (by decide) rfl rfl ?_
      refine X.aload_n 30 i100_29 rfl rfl rfl ?_
      refine X.getI 33 7 i100_30 rfl rfl (by decide) rfl rfl rfl ?_
      refine X.iald 34 i100_33 rfl rfl (by decide) rfl (by omega) ?_
      have h515 := r42_0 hJ 4 (i := (m 4 41 7)) (by omega)
      refine X.calls 37 [zi (m 4 42 (m 4 41 7))] [] [(0, zi (m 4 42 (m 4 41 7)))] i100_34 (by decide) rfl rfl (by omega) rfl rfl t101 (Nat.le_of_ble_eq_true rfl) (Nat.le_of_ble_eq_true rfl) rfl ?_
      refine X.iload_n 1 i101_0 rfl rfl rfl ?_
      refine X.bipush 3 i101_1 rfl rfl (by decide) ?_
      refine X.icmplt 16 6 i101_3 rfl rfl rfl (fun h516 => ?_) (fun h516 => ?_)
      · refine X.cut [] i101_16 rfl ?_
        refine X.iconst 17 i101_16 rfl rfl (by decide) ?_
        refine X.retz i101_17 rfl t101 (by omega) ?_
        show X (EE s) d 100 37 [(0, zr 4 41), (1, zi y1), (2, zi y2)] [zi 0] m _
        refine X.ifeq 76 40 i100_37 rfl rfl rfl (fun h517 => ?_) (fun h517 => (by exfalso; omega))
        exact K76 y2 m (B) (hJ.up (by omega)) (by omega)  (by first | trivial | omega)
      · refine X.iload_n 7 i101_6 rfl rfl rfl ?_
        refine X.bipush 9 i101_7 rfl rfl (by decide) ?_
        refine X.icmpgt 16 12 i101_9 rfl rfl rfl (fun h518 => ?_) (fun h518 => ?_)
        · refine X.cut [] i101_16 rfl ?_
          refine X.iconst 17 i101_16 rfl rfl (by decide) ?_
          refine X.retz i101_17 rfl t101 (by omega) ?_
          show X (EE s) d 100 37 [(0, zr 4 41), (1, zi y1), (2, zi y2)] [zi 0] m _
          refine X.ifeq 76 40 i100_37 rfl rfl rfl (fun h519 => ?_) (fun h519 => (by exfalso; omega))
          exact K76 y2 m (B) (hJ.up (by omega)) (by omega)  (by first | trivial | omega)
        · refine X.iconst 13 i101_12 rfl rfl (by decide) ?_
          refine X.goto 17 i101_13 rfl rfl ?_
          refine X.cut [] i101_17 rfl ?_
          refine X.retz i101_17 rfl t101 (by omega) ?_
          show X (EE s) d 100 37 [(0, zr 4 41), (1, zi y1), (2, zi y2)] [zi 1] m _
          refine X.ifeq 76 40 i100_37 rfl rfl rfl (fun h520 => (by exfalso; omega)) (fun h520 => ?_)
          refine X.iload_n 41 i100_40 rfl rfl rfl ?_
          refine X.bipush 43 i100_41 rfl rfl (by decide) ?_
          refine X.imul 44 i100_43 rfl rfl (by omega) ?_
          refine X.aload_n 45 i100_44 rfl rfl rfl ?_
          refine X.getF 48 i100_45 rfl rfl (by decide) rfl rfl ?_
          refine X.aload_n 49 i100_48 rfl rfl rfl ?_
          refine X.getI 52 7 i100_49 rfl rfl (by decide) rfl rfl rfl ?_
          refine X.iald 53 i100_52 rfl rfl (by decide) rfl (by omega) ?_
          refine X.iadd 54 i100_53 rfl rfl (by omega) ?_
          refine X.bipush 56 i100_54 rfl rfl (by decide) ?_
          refine X.isub 57 i100_56 rfl rfl (by omega) ?_
          refine X.ldc 59 i100_57 rfl rfl (by decide) ?_
          refine X.minI 62 i100_59 rfl rfl (by omega) (Nat.le_of_ble_eq_true rfl) ?_
          refine X.istore_n 63 [(0, zr 4 41), (1, zi y1), (2, zi (min (((y2 * 10) + (m 4 42 (m 4 41 7))) - 48) 1000000))] i100_62 rfl rfl rfl ?_
          refine X.aload_n 64 i100_63 rfl rfl rfl ?_
          refine X.dup 65 i100_64 rfl rfl rfl ?_
          refine X.getI 68 7 i100_65 rfl rfl (by decide) rfl rfl rfl ?_
          refine X.iconst 69 i100_68 rfl rfl (by decide) ?_
          refine X.iadd 70 i100_69 rfl rfl (by omega) ?_
          refine X.putI' 73 7 i100_70 rfl rfl (by decide) rfl rfl rfl (fun hrm521 m521 hm521 => ?_)
          have hJ522 := w41_7 hJ hm521 (by omega)
          have em521 : m521 4 41 7 = ((m 4 41 7) + 1) := by rw [hm521]; exact z_upd_same _ _ _ _ _
          refine X.goto 14 i100_73 rfl rfl ?_
          exact ih (min (((y2 * 10) + (m 4 42 (m 4 41 7))) - 48) 1000000) m521 (B) (hJ522.up (by omega)) (by omega)  (by omega) (by omega)
-- WorkMeter$CalendarText.readNumber
theorem c100_3 {s : Nat × (Nat → Int32)} {S : zS} {m0 m : zM} {B : Int} {d : Nat} {Q : Option zV → zM → Prop} (a1 : Int) (hd : 14 ≤ d) (hJ : J S m0 B m) (hB : B + 0 ≤ 1000000000) (ha1 : 7 ≤ a1 ∧ a1 ≤ 7) (hQ : ∀ (v : Int) m', ((-1) ≤ v ∧ v ≤ 7) → J S m0 (B) m' → Q (some (zi v)) m') : X (EE s) d 100 0 [(0, zr 4 41), (1, zi a1)] [] m Q := by
  refine X.aload_n 1 i100_0 rfl rfl rfl ?_
  refine X.callv 4 [] [] [(0, zr 4 41)] i100_1 rfl (by decide) rfl rfl (by omega) rfl rfl (by decide) rfl t93 (Nat.le_of_ble_eq_true rfl) (Nat.le_of_ble_eq_true rfl) rfl ?_
  refine c93_1 (B := B)   (by omega) (hJ.up (by omega)) (by omega)  (fun m501 hJ502 => ?_)
  show X (EE s) d 100 4 [(0, zr 4 41), (1, zi a1)] [] m501 _
  refine X.aload_n 5 i100_4 rfl rfl rfl ?_
  refine X.aload_n 6 i100_5 rfl rfl rfl ?_
  refine X.getI 9 7 i100_6 rfl rfl (by decide) rfl rfl rfl ?_
  have h504 := r41_7 hJ502 4
  refine X.putI' 12 8 i100_9 rfl rfl (by decide) rfl rfl rfl (fun hrm505 m505 hm505 => ?_)
  have hJ506 := w41_8 hJ502 hm505 (by omega) hrm505
  refine X.iconst 13 i100_12 rfl rfl (by decide) ?_
  refine X.istore_n 14 [(0, zr 4 41), (1, zi a1), (2, zi 0)] i100_13 rfl rfl rfl ?_
  refine l100_14_3 (s := s) (S := S) (m0 := m0) (d := d)  a1 (BE := B + 0) (by omega) (by omega) (by omega) (fun y507 m508 B509 hJ510 hBB509 hby507 => ?_) ((300 - m505 4 41 7 : Int).toNat + 1) 0 m505 (B) (hJ506.up (by omega)) (by omega)  (by omega) (by omega)
  refine X.aload_n 77 i100_76 rfl rfl rfl ?_
  refine X.getI 80 7 i100_77 rfl rfl (by decide) rfl rfl rfl ?_
  have h511 := r41_7 hJ510 4
  refine X.aload_n 81 i100_80 rfl rfl rfl ?_
  refine X.getIr 84 8 i100_81 rfl rfl (by decide) rfl rfl rfl (fun h512 => ?_)
  refine X.icmpne 99 87 i100_84 rfl rfl rfl (fun h513 => ?_) (fun h513 => ?_)
  · refine X.iload_n 100 i100_99 rfl rfl rfl ?_
    refine X.iload_n 101 i100_100 rfl rfl rfl ?_
    refine X.icmple 116 104 i100_101 rfl rfl rfl (fun h514 => ?_) (fun h514 => ?_)
    · refine X.cut [(2, zi y507)] i100_116 rfl ?_
      refine X.iload_n 117 i100_116 rfl rfl rfl ?_
      refine X.reti i100_117 rfl t100 ?_
      exact hQ y507 m508 (by first | trivial | omega) (hJ510.up (by omega)) 
    · refine X.aload_n 105 i100_104 rfl rfl rfl ?_
      refine X.iconst 106 i100_105 rfl rfl (by decide) ?_
      refine X.aload_n 107 i100_106 rfl rfl rfl ?_
      refine X.getI 110 8 i100_107 rfl rfl (by decide) rfl rfl rfl ?_
      refine X.callv 113 [zi 2, zi (m508 4 41 8)] [] [(0, zr 4 41), (1, zi 2), (2, zi (m508 4 41 8))] i100_110 rfl (by decide) rfl rfl (by omega) rfl rfl (by decide) rfl t102 (Nat.le_of_ble_eq_true rfl) (Nat.le_of_ble_eq_true rfl) rfl ?_
      refine X.aload_n 1 i102_0 rfl rfl rfl ?_
      refine X.iload_n 2 i102_1 rfl rfl rfl ?_
      refine X.putI' 5 4 i102_2 rfl rfl (by decide) rfl rfl rfl (fun hrm515 m515 hm515 => ?_)
      have hJ516 := w41_4 hJ510 hm515 (by omega) hrm515
      refine X.aload_n 6 i102_5 rfl rfl rfl ?_
      refine X.iload_n 7 i102_6 rfl rfl rfl ?_
      refine X.putI' 10 5 i102_7 rfl rfl (by decide) rfl rfl rfl (fun hrm517 m517 hm517 => ?_)
      have hJ518 := w41_4 hJ516 hm517 (by omega) hrm517
      refine X.iconst 11 i102_10 rfl rfl (by decide) ?_
      refine X.retz i102_11 rfl t102 (by omega) ?_
      show X (EE s) d 100 113 [(0, zr 4 41), (1, zi a1), (2, zi y507)] [zi 0] m517 _
      refine X.pop 114 i100_113 rfl rfl rfl ?_
      refine X.iconst 115 i100_114 rfl rfl (by decide) ?_
      refine X.reti i100_115 rfl t100 ?_
      exact hQ (-1) m517 (by first | trivial | omega) (hJ518.up (by omega)) 
  · refine X.aload_n 88 i100_87 rfl rfl rfl ?_
    refine X.iconst 89 i100_88 rfl rfl (by decide) ?_
    refine X.aload_n 90 i100_89 rfl rfl rfl ?_
    refine X.getI 93 8 i100_90 rfl rfl (by decide) rfl rfl rfl ?_
    refine X.callv 96 [zi 1, zi (m508 4 41 8)] [] [(0, zr 4 41), (1, zi 1), (2, zi (m508 4 41 8))] i100_93 rfl (by decide) rfl rfl (by omega) rfl rfl (by decide) rfl t102 (Nat.le_of_ble_eq_true rfl) (Nat.le_of_ble_eq_true rfl) rfl ?_
    refine X.aload_n 1 i102_0 rfl rfl rfl ?_
    refine X.iload_n 2 i102_1 rfl rfl rfl ?_
    refine X.putI' 5 4 i102_2 rfl rfl (by decide) rfl rfl rfl (fun hrm519 m519 hm519 => ?_)
    have hJ520 := w41_4 hJ510 hm519 (by omega) hrm519
    refine X.aload_n 6 i102_5 rfl rfl rfl ?_
    refine X.iload_n 7 i102_6 rfl rfl rfl ?_
    refine X.putI' 10 5 i102_7 rfl rfl (by decide) rfl rfl rfl (fun hrm521 m521 hm521 => ?_)
    have hJ522 := w41_4 hJ520 hm521 (by omega) hrm521
    refine X.iconst 11 i102_10 rfl rfl (by decide) ?_
    refine X.retz i102_11 rfl t102 (by omega) ?_
    show X (EE s) d 100 96 [(0, zr 4 41), (1, zi a1), (2, zi y507)] [zi 0] m521 _
    refine X.pop 97 i100_96 rfl rfl rfl ?_
    refine X.iconst 98 i100_97 rfl rfl (by decide) ?_
    refine X.reti i100_98 rfl t100 ?_
    exact hQ (-1) m521 (by first | trivial | omega) (hJ522.up (by omega)) 
-- WorkMeter$Calendar.putSpecial
theorem c109_1 {s : Nat × (Nat → Int32)} {S : zS} {m0 m : zM} {B : Int} {d : Nat} {Q : Option zV → zM → Prop} (g0 : Nat) (a1 a2 : Int) (hd : 14 ≤ d) (hJ : J S m0 B m) (hB : B + 0 ≤ 1000000000) (ha1 : 0 ≤ a1 ∧ a1 ≤ 364) (ha2 : 0 ≤ a2 ∧ a2 ≤ 7) (hQ : ∀ (v : Int) m', (0 ≤ v ∧ v ≤ 1) → J S m0 (B) m' → Q (some (zi v)) m') : X (EE s) d 109 0 [(0, zr g0 11), (1, zi a1), (2, zi a2)] [] m Q := by
  refine X.aload_n 1 i109_0 rfl rfl rfl ?_
  refine X.iload_n 2 i109_1 rfl rfl rfl ?_
  refine X.callv 5 [zi a1] [] [(0, zr g0 11), (1, zi a1)] i109_2 rfl (by decide) rfl rfl (by omega) rfl rfl (by decide) rfl t29 (Nat.le_of_ble_eq_true rfl) (Nat.le_of_ble_eq_true rfl) rfl ?_
  refine c29_1 (B := B) g0 a1 (by omega) (hJ.up (by omega)) (by omega) (by omega) (fun v503 hv503 hqv5030 => ?_)
  show X (EE s) d 109 5 [(0, zr g0 11), (1, zi a1), (2, zi a2)] [zi v503] m _
  refine X.istore_n 6 [(0, zr g0 11), (1, zi a1), (2, zi a2), (3, zi v503)] i109_5 rfl rfl rfl ?_
  refine X.iload_n 7 i109_6 rfl rfl rfl ?_
  refine X.iconst 8 i109_7 rfl rfl (by decide) ?_
  refine X.icmpne 37 11 i109_8 rfl rfl rfl (fun h504 => ?_) (fun h504 => ?_)
  · refine X.aload_n 38 i109_37 rfl rfl rfl ?_
    refine X.getR 41 i109_38 rfl rfl (by decide) rfl rfl ?_
    refine X.iload_n 42 i109_41 rfl rfl rfl ?_
    refine X.iload_n 43 i109_42 rfl rfl rfl ?_
    refine X.iast' 44 i109_43 rfl rfl (by decide) rfl (by omega) (fun hrm505 m505 hm505 => ?_)
    have hJ506 := w17_0 hJ hm505 (by omega) (by omega)
    refine X.aload_n 45 i109_44 rfl rfl rfl ?_
    refine X.getR 48 i109_45 rfl rfl (by decide) rfl rfl ?_
    refine X.iload_n 49 i109_48 rfl rfl rfl ?_
    refine X.iload_n 50 i109_49 rfl rfl rfl ?_
    refine X.iast' 51 i109_50 rfl rfl (by decide) rfl (by omega) (fun hrm507 m507 hm507 => ?_)
    have hJ508 := w18_0 hJ506 hm507 (by omega) (by omega)
    refine X.iconst 52 i109_51 rfl rfl (by decide) ?_
    refine X.retz i109_52 rfl t109 (by omega) ?_
    exact hQ 1 m507 (by first | trivial | omega) (hJ508.up (by omega)) 
  · refine X.aload_n 12 i109_11 rfl rfl rfl ?_
    refine X.getI 15 7 i109_12 rfl rfl (by decide) rfl rfl rfl ?_
    have h509 := r11_7 hJ g0
    refine X.bipush 17 i109_15 rfl rfl (by decide) ?_
    refine X.icmplt 22 20 i109_17 rfl rfl rfl (fun h510 => ?_) (fun h510 => ?_)
    · refine X.cut [(0, zr g0 11), (1, zi a1), (2, zi a2)] i109_22 rfl ?_
      refine X.aload_n 23 i109_22 rfl rfl rfl ?_
      refine X.getI 26 7 i109_23 rfl rfl (by decide) rfl rfl rfl ?_
      refine X.istore_n 27 [(0, zr g0 11), (1, zi a1), (2, zi a2), (3, zi (m g0 11 7))] i109_26 rfl rfl rfl ?_
      refine X.aload_n 28 i109_27 rfl rfl rfl ?_
      refine X.dup 29 i109_28 rfl rfl rfl ?_
      refine X.getI 32 7 i109_29 rfl rfl (by decide) rfl rfl rfl ?_
      refine X.iconst 33 i109_32 rfl rfl (by decide) ?_
      refine X.iadd 34 i109_33 rfl rfl (by omega) ?_
      refine X.putI' 37 7 i109_34 rfl rfl (by decide) rfl rfl rfl (fun hrm511 m511 hm511 => ?_)
      have hJ512 := w11_7 hJ hm511 (by omega)
      have em511 : m511 g0 11 7 = ((m g0 11 7) + 1) := by rw [hm511]; exact z_upd_same _ _ _ _ _
      refine X.aload_n 38 i109_37 rfl rfl rfl ?_
      refine X.getR 41 i109_38 rfl rfl (by decide) rfl rfl ?_
      refine X.iload_n 42 i109_41 rfl rfl rfl ?_
      refine X.iload_n 43 i109_42 rfl rfl rfl ?_
      refine X.iast' 44 i109_43 rfl rfl (by decide) rfl (by omega) (fun hrm513 m513 hm513 => ?_)
      have hJ514 := w17_0 hJ512 hm513 (by omega) (by omega)
      refine X.aload_n 45 i109_44 rfl rfl rfl ?_
      refine X.getR 48 i109_45 rfl rfl (by decide) rfl rfl ?_
      refine X.iload_n 49 i109_48 rfl rfl rfl ?_
      refine X.iload_n 50 i109_49 rfl rfl rfl ?_
      refine X.iast' 51 i109_50 rfl rfl (by decide) rfl (by omega) (fun hrm515 m515 hm515 => ?_)
      have hJ516 := w18_0 hJ514 hm515 (by omega) (by omega)
      refine X.iconst 52 i109_51 rfl rfl (by decide) ?_
      refine X.retz i109_52 rfl t109 (by omega) ?_
      exact hQ 1 m515 (by first | trivial | omega) (hJ516.up (by omega)) 
    · refine X.iconst 21 i109_20 rfl rfl (by decide) ?_
      refine X.retz i109_21 rfl t109 (by omega) ?_
      exact hQ 0 m (by first | trivial | omega) (hJ.up (by omega)) 
-- WorkMeter$CalendarText.readSpecial
theorem c107_1 {s : Nat × (Nat → Int32)} {S : zS} {m0 m : zM} {B : Int} {d : Nat} {Q : Option zV → zM → Prop} (hd : 15 ≤ d) (hJ : J S m0 B m) (hB : B + 0 ≤ 1000000000) (hp0 : m 4 41 7 + 7 ≤ 300) (hQ : ∀ (v : Int) m', (0 ≤ v ∧ v ≤ 1) → J S m0 (B) m' → Q (some (zi v)) m') : X (EE s) d 107 0 [(0, zr 4 41)] [] m Q := by
  refine X.aload_n 1 i107_0 rfl rfl rfl ?_
  refine X.getF 4 i107_1 rfl rfl (by decide) rfl rfl ?_
  refine X.getI 7 7 i107_4 rfl rfl (by decide) rfl rfl rfl ?_
  have h501 := r11_7 hJ 3
  refine X.bipush 9 i107_7 rfl rfl (by decide) ?_
  refine X.icmplt 22 12 i107_9 rfl rfl rfl (fun h502 => ?_) (fun h502 => ?_)
  · refine X.aload_n 23 i107_22 rfl rfl rfl ?_
    refine X.ldcS 25 i107_23 rfl rfl (by decide) ?_
    refine X.callv 28 [zr 99 6] [] [(0, zr 4 41), (1, zr 99 6)] i107_25 rfl (by decide) rfl rfl (by omega) rfl rfl (by decide) rfl t98 (Nat.le_of_ble_eq_true rfl) (Nat.le_of_ble_eq_true rfl) rfl ?_
    refine X.aload_n 1 i98_0 rfl rfl rfl ?_
    refine X.dup 2 i98_1 rfl rfl rfl ?_
    refine X.getI 5 7 i98_2 rfl rfl (by decide) rfl rfl rfl ?_
    have h503 := r41_7 hJ 4
    refine X.aload_n 6 i98_5 rfl rfl rfl ?_
    refine X.slen 9 i98_6 rfl rfl (by omega) (Nat.le_of_ble_eq_true rfl) (by decide) (show (7 : Nat) < 2147483648 by decide) ?_
    show X (EE s) (d - 1) 98 9 [(0, zr 4 41), (1, zr 99 6)] [zi 7, zi (m 4 41 7), zr 4 41] m _
    refine X.iadd 10 i98_9 rfl rfl (by omega) ?_
    refine X.putI' 13 7 i98_10 rfl rfl (by decide) rfl rfl rfl (fun hrm504 m504 hm504 => ?_)
    have hJ505 := w41_7 hJ hm504 (by omega)
    have em504 : m504 4 41 7 = ((m 4 41 7) + 7) := by rw [hm504]; exact z_upd_same _ _ _ _ _
    refine X.retv i98_13 rfl t98 ?_
    show X (EE s) d 107 28 [(0, zr 4 41)] [] m504 _
    refine X.aload_n 29 i107_28 rfl rfl rfl ?_
    refine X.sipush 32 i107_29 rfl rfl (by decide) ?_
    refine X.callv 35 [zi 364] [] [(0, zr 4 41), (1, zi 364)] i107_32 rfl (by decide) rfl rfl (by omega) rfl rfl (by decide) rfl t100 (Nat.le_of_ble_eq_true rfl) (Nat.le_of_ble_eq_true rfl) rfl ?_
    refine c100_2 (B := B)  364 (by omega) (hJ505.up (by omega)) (by omega) (by omega) (fun v508 m506 hv508 hJ507 => ?_)
    show X (EE s) d 107 35 [(0, zr 4 41)] [zi v508] m506 _
    refine X.istore_n 36 [(0, zr 4 41), (1, zi v508)] i107_35 rfl rfl rfl ?_
    refine X.iload_n 37 i107_36 rfl rfl rfl ?_
    refine X.iconst 38 i107_37 rfl rfl (by decide) ?_
    refine X.icmpne 43 41 i107_38 rfl rfl rfl (fun h509 => ?_) (fun h509 => ?_)
    · refine X.aload_n 44 i107_43 rfl rfl rfl ?_
      refine X.getF 47 i107_44 rfl rfl (by decide) rfl rfl ?_
      refine X.iload_n 48 i107_47 rfl rfl rfl ?_
      refine X.callv 51 [zi v508] [] [(0, zr 3 11), (1, zi v508)] i107_48 rfl (by decide) rfl rfl (by omega) rfl rfl (by decide) rfl t108 (Nat.le_of_ble_eq_true rfl) (Nat.le_of_ble_eq_true rfl) rfl ?_
      refine X.aload_n 1 i108_0 rfl rfl rfl ?_
      refine X.iload_n 2 i108_1 rfl rfl rfl ?_
      refine X.callv 5 [zi v508] [] [(0, zr 3 11), (1, zi v508)] i108_2 rfl (by decide) rfl rfl (by omega) rfl rfl (by decide) rfl t29 (Nat.le_of_ble_eq_true rfl) (Nat.le_of_ble_eq_true rfl) rfl ?_
      refine c29_1 (B := B) 3 v508 (by omega) (hJ507.up (by omega)) (by omega) (by omega) (fun v512 hv512 hqv5120 => ?_)
      show X (EE s) (d - 1) 108 5 [(0, zr 3 11), (1, zi v508)] [zi v512] m506 _
      refine X.iconst 6 i108_5 rfl rfl (by decide) ?_
      refine X.icmpeq 13 9 i108_6 rfl rfl rfl (fun h513 => ?_) (fun h513 => ?_)
      · refine X.cut [] i108_13 rfl ?_
        refine X.iconst 14 i108_13 rfl rfl (by decide) ?_
        refine X.retz i108_14 rfl t108 (by omega) ?_
        show X (EE s) d 107 51 [(0, zr 4 41), (1, zi v508)] [zi 0] m506 _
        refine X.ifeq 64 54 i107_51 rfl rfl rfl (fun h514 => ?_) (fun h514 => (by exfalso; omega))
        refine X.aload_n 65 i107_64 rfl rfl rfl ?_
        refine X.bipush 67 i107_65 rfl rfl (by decide) ?_
        refine X.callv 70 [zi 7] [] [(0, zr 4 41), (1, zi 7)] i107_67 rfl (by decide) rfl rfl (by omega) rfl rfl (by decide) rfl t100 (Nat.le_of_ble_eq_true rfl) (Nat.le_of_ble_eq_true rfl) rfl ?_
        refine c100_3 (B := B)  7 (by omega) (hJ507.up (by omega)) (by omega) (by omega) (fun v517 m515 hv517 hJ516 => ?_)
        show X (EE s) d 107 70 [(0, zr 4 41), (1, zi v508)] [zi v517] m515 _
        refine X.istore_n 71 [(0, zr 4 41), (1, zi v508), (2, zi v517)] i107_70 rfl rfl rfl ?_
        refine X.iload_n 72 i107_71 rfl rfl rfl ?_
        refine X.iconst 73 i107_72 rfl rfl (by decide) ?_
        refine X.icmpeq 92 76 i107_73 rfl rfl rfl (fun h518 => ?_) (fun h518 => ?_)
        · refine X.cut [] i107_92 rfl ?_
          refine X.iconst 93 i107_92 rfl rfl (by decide) ?_
          refine X.retz i107_93 rfl t107 (by omega) ?_
          exact hQ 0 m515 (by first | trivial | omega) (hJ516.up (by omega)) 
        · refine X.aload_n 77 i107_76 rfl rfl rfl ?_
          refine X.getF 80 i107_77 rfl rfl (by decide) rfl rfl ?_
          refine X.iload_n 81 i107_80 rfl rfl rfl ?_
          refine X.iload_n 82 i107_81 rfl rfl rfl ?_
          refine X.callv 85 [zi v508, zi v517] [] [(0, zr 3 11), (1, zi v508), (2, zi v517)] i107_82 rfl (by decide) rfl rfl (by omega) rfl rfl (by decide) rfl t109 (Nat.le_of_ble_eq_true rfl) (Nat.le_of_ble_eq_true rfl) rfl ?_
          refine c109_1 (B := B) 3 v508 v517 (by omega) (hJ516.up (by omega)) (by omega) (by omega) (by omega) (fun v521 m519 hv521 hJ520 => ?_)
          show X (EE s) d 107 85 [(0, zr 4 41), (1, zi v508), (2, zi v517)] [zi v521] m519 _
          refine X.ifeq 92 88 i107_85 rfl rfl rfl (fun h522 => ?_) (fun h522 => ?_)
          · refine X.cut [] i107_92 rfl ?_
            refine X.iconst 93 i107_92 rfl rfl (by decide) ?_
            refine X.retz i107_93 rfl t107 (by omega) ?_
            exact hQ 0 m519 (by first | trivial | omega) (hJ520.up (by omega)) 
          · refine X.iconst 89 i107_88 rfl rfl (by decide) ?_
            refine X.goto 93 i107_89 rfl rfl ?_
            refine X.cut [] i107_93 rfl ?_
            refine X.retz i107_93 rfl t107 (by omega) ?_
            exact hQ 1 m519 (by first | trivial | omega) (hJ520.up (by omega)) 
      · refine X.iconst 10 i108_9 rfl rfl (by decide) ?_
        refine X.goto 14 i108_10 rfl rfl ?_
        refine X.cut [] i108_14 rfl ?_
        refine X.retz i108_14 rfl t108 (by omega) ?_
        show X (EE s) d 107 51 [(0, zr 4 41), (1, zi v508)] [zi 1] m506 _
        refine X.ifeq 64 54 i107_51 rfl rfl rfl (fun h523 => (by exfalso; omega)) (fun h523 => ?_)
        refine X.aload_n 55 i107_54 rfl rfl rfl ?_
        refine X.iconst 56 i107_55 rfl rfl (by decide) ?_
        refine X.aload_n 57 i107_56 rfl rfl rfl ?_
        refine X.getIr 60 8 i107_57 rfl rfl (by decide) rfl rfl rfl (fun h524 => ?_)
        refine X.callv 63 [zi 3, zi (m506 4 41 8)] [] [(0, zr 4 41), (1, zi 3), (2, zi (m506 4 41 8))] i107_60 rfl (by decide) rfl rfl (by omega) rfl rfl (by decide) rfl t102 (Nat.le_of_ble_eq_true rfl) (Nat.le_of_ble_eq_true rfl) rfl ?_
        refine X.aload_n 1 i102_0 rfl rfl rfl ?_
        refine X.iload_n 2 i102_1 rfl rfl rfl ?_
        refine X.putI' 5 4 i102_2 rfl rfl (by decide) rfl rfl rfl (fun hrm525 m525 hm525 => ?_)
        have hJ526 := w41_4 hJ507 hm525 (by omega) hrm525
        refine X.aload_n 6 i102_5 rfl rfl rfl ?_
        refine X.iload_n 7 i102_6 rfl rfl rfl ?_
        refine X.putI' 10 5 i102_7 rfl rfl (by decide) rfl rfl rfl (fun hrm527 m527 hm527 => ?_)
        have hJ528 := w41_4 hJ526 hm527 (by omega) hrm527
        refine X.iconst 11 i102_10 rfl rfl (by decide) ?_
        refine X.retz i102_11 rfl t102 (by omega) ?_
        show X (EE s) d 107 63 [(0, zr 4 41), (1, zi v508)] [zi 0] m527 _
        refine X.retz i107_63 rfl t107 (by omega) ?_
        exact hQ 0 m527 (by first | trivial | omega) (hJ528.up (by omega)) 
    · refine X.iconst 42 i107_41 rfl rfl (by decide) ?_
      refine X.retz i107_42 rfl t107 (by omega) ?_
      exact hQ 0 m506 (by first | trivial | omega) (hJ507.up (by omega)) 
  · refine X.aload_n 13 i107_12 rfl rfl rfl ?_
    refine X.iconst 14 i107_13 rfl rfl (by decide) ?_
    refine X.aload_n 15 i107_14 rfl rfl rfl ?_
    refine X.getI 18 7 i107_15 rfl rfl (by decide) rfl rfl rfl ?_
    have h529 := r41_7 hJ 4
    refine X.callv 21 [zi 4, zi (m 4 41 7)] [] [(0, zr 4 41), (1, zi 4), (2, zi (m 4 41 7))] i107_18 rfl (by decide) rfl rfl (by omega) rfl rfl (by decide) rfl t102 (Nat.le_of_ble_eq_true rfl) (Nat.le_of_ble_eq_true rfl) rfl ?_
    refine X.aload_n 1 i102_0 rfl rfl rfl ?_
    refine X.iload_n 2 i102_1 rfl rfl rfl ?_
    refine X.putI' 5 4 i102_2 rfl rfl (by decide) rfl rfl rfl (fun hrm530 m530 hm530 => ?_)
    have hJ531 := w41_4 hJ hm530 (by omega) hrm530
    refine X.aload_n 6 i102_5 rfl rfl rfl ?_
    refine X.iload_n 7 i102_6 rfl rfl rfl ?_
    refine X.putI' 10 5 i102_7 rfl rfl (by decide) rfl rfl rfl (fun hrm532 m532 hm532 => ?_)
    have hJ533 := w41_4 hJ531 hm532 (by omega) hrm532
    refine X.iconst 11 i102_10 rfl rfl (by decide) ?_
    refine X.retz i102_11 rfl t102 (by omega) ?_
    show X (EE s) d 107 21 [(0, zr 4 41)] [zi 0] m532 _
    refine X.retz i107_21 rfl t107 (by omega) ?_
    exact hQ 0 m532 (by first | trivial | omega) (hJ533.up (by omega)) 
theorem l100_14_4 {s : Nat × (Nat → Int32)} {S : zS} {m0 : zM} {d : Nat} {Q : Option zV → zM → Prop} (y1 : Int) (BE : Int) (hE : BE ≤ 1000000000) (hd : 13 ≤ d) (hy1 : 3 ≤ y1 ∧ y1 ≤ 3)
    (K76 : ∀ (x2 : Int) (m' : zM) (B' : Int), J S m0 B' m' → B' ≤ BE → (0 ≤ x2 ∧ x2 ≤ 1000000) → X (EE s) d 100 76 [(0, zr 4 41), (1, zi y1), (2, zi x2)] [] m' Q) :
    ∀ (n : Nat) (y2 : Int) (m : zM) (B : Int), J S m0 B m → B + 0 * (n : Int) ≤ BE → (0 ≤ y2 ∧ y2 ≤ 1000000) → 300 - m 4 41 7 < (n : Int) → X (EE s) d 100 14 [(0, zr 4 41), (1, zi y1), (2, zi y2)] [] m Q := by
  intro n
  induction n with
  | zero =>
    intro y2 m B hJ hB  hy2 hn
    have zf0 := r41_7 hJ 4
    exfalso
    omega
  | succ n ih =>
    intro y2 m B hJ hB  hy2 hn
    refine X.aload_n 15 i100_14 rfl rfl rfl ?_
    refine X.getI 18 7 i100_15 rfl rfl (by decide) rfl rfl rfl ?_
    have h512 := r41_7 hJ 4
    refine X.aload_n 19 i100_18 rfl rfl rfl ?_
    refine X.getI 22 3 i100_19 rfl rfl (by decide) rfl rfl rfl ?_
    have h513 := r41_3 hJ 4
    refine X.icmpge 76 25 i100_22 rfl rfl rfl (fun h514 => ?_) (fun h514 => ?_)
    · exact K76 y2 m (B) (hJ.up (by omega)) (by omega)  (by first | trivial | omega)
    · refine X.aload_n 26 i100_25 rfl rfl rfl ?_
      refine X.getF 29 i100_26 rfl rfl (by decide) rfl rfl ?_
      refine X.aload_n 30 i100_29 rfl rfl rfl ?_
      refine X.getI 33 7 i100_30 rfl rfl (by decide) rfl rfl rfl ?_
      refine X.iald 34 i100_33 rfl rfl (by decide) rfl (by omega) ?_
      have h515 := r42_0 hJ 4 (i := (m 4 41 7)) (by omega)
      refine X.calls 37 [zi (m 4 42 (m 4 41 7))] [] [(0, zi (m 4 42 (m 4 41 7)))] i100_34 (by decide) rfl rfl (by omega) rfl rfl t101 (Nat.le_of_ble_eq_true rfl) (Nat.le_of_ble_eq_true rfl) rfl ?_
      refine X.iload_n 1 i101_0 rfl rfl rfl ?_
      refine X.bipush 3 i101_1 rfl rfl (by decide) ?_
      refine X.icmplt 16 6 i101_3 rfl rfl rfl (fun h516 => ?_) (fun h516 => ?_)
      · refine X.cut [] i101_16 rfl ?_
        refine X.iconst 17 i101_16 rfl rfl (by decide) ?_
        refine X.retz i101_17 rfl t101 (by omega) ?_
        show X (EE s) d 100 37 [(0, zr 4 41), (1, zi y1), (2, zi y2)] [zi 0] m _
        refine X.ifeq 76 40 i100_37 rfl rfl rfl (fun h517 => ?_) (fun h517 => (by exfalso; omega))
        exact K76 y2 m (B) (hJ.up (by omega)) (by omega)  (by first | trivial | omega)
      · refine X.iload_n 7 i101_6 rfl rfl rfl ?_
        refine X.bipush 9 i101_7 rfl rfl (by decide) ?_
        refine X.icmpgt 16 12 i101_9 rfl rfl rfl (fun h518 => ?_) (fun h518 => ?_)
        · refine X.cut [] i101_16 rfl ?_
          refine X.iconst 17 i101_16 rfl rfl (by decide) ?_
          refine X.retz i101_17 rfl t101 (by omega) ?_
          show X (EE s) d 100 37 [(0, zr 4 41), (1, zi y1), (2, zi y2)] [zi 0] m _
          refine X.ifeq 76 40 i100_37 rfl rfl rfl (fun h519 => ?_) (fun h519 => (by exfalso; omega))
          exact K76 y2 m (B) (hJ.up (by omega)) (by omega)  (by first | trivial | omega)
        · refine X.iconst 13 i101_12 rfl rfl (by decide) ?_
          refine X.goto 17 i101_13 rfl rfl ?_
          refine X.cut [] i101_17 rfl ?_
          refine X.retz i101_17 rfl t101 (by omega) ?_
          show X (EE s) d 100 37 [(0, zr 4 41), (1, zi y1), (2, zi y2)] [zi 1] m _
          refine X.ifeq 76 40 i100_37 rfl rfl rfl (fun h520 => (by exfalso; omega)) (fun h520 => ?_)
          refine X.iload_n 41 i100_40 rfl rfl rfl ?_
          refine X.bipush 43 i100_41 rfl rfl (by decide) ?_
          refine X.imul 44 i100_43 rfl rfl (by omega) ?_
          refine X.aload_n 45 i100_44 rfl rfl rfl ?_
          refine X.getF 48 i100_45 rfl rfl (by decide) rfl rfl ?_
          refine X.aload_n 49 i100_48 rfl rfl rfl ?_
          refine X.getI 52 7 i100_49 rfl rfl (by decide) rfl rfl rfl ?_
          refine X.iald 53 i100_52 rfl rfl (by decide) rfl (by omega) ?_
          refine X.iadd 54 i100_53 rfl rfl (by omega) ?_
          refine X.bipush 56 i100_54 rfl rfl (by decide) ?_
          refine X.isub 57 i100_56 rfl rfl (by omega) ?_
          refine X.ldc 59 i100_57 rfl rfl (by decide) ?_
          refine X.minI 62 i100_59 rfl rfl (by omega) (Nat.le_of_ble_eq_true rfl) ?_
          refine X.istore_n 63 [(0, zr 4 41), (1, zi y1), (2, zi (min (((y2 * 10) + (m 4 42 (m 4 41 7))) - 48) 1000000))] i100_62 rfl rfl rfl ?_
          refine X.aload_n 64 i100_63 rfl rfl rfl ?_
          refine X.dup 65 i100_64 rfl rfl rfl ?_
          refine X.getI 68 7 i100_65 rfl rfl (by decide) rfl rfl rfl ?_
          refine X.iconst 69 i100_68 rfl rfl (by decide) ?_
          refine X.iadd 70 i100_69 rfl rfl (by omega) ?_
          refine X.putI' 73 7 i100_70 rfl rfl (by decide) rfl rfl rfl (fun hrm521 m521 hm521 => ?_)
          have hJ522 := w41_7 hJ hm521 (by omega)
          have em521 : m521 4 41 7 = ((m 4 41 7) + 1) := by rw [hm521]; exact z_upd_same _ _ _ _ _
          refine X.goto 14 i100_73 rfl rfl ?_
          exact ih (min (((y2 * 10) + (m 4 42 (m 4 41 7))) - 48) 1000000) m521 (B) (hJ522.up (by omega)) (by omega)  (by omega) (by omega)
-- WorkMeter$CalendarText.readNumber
theorem c100_4 {s : Nat × (Nat → Int32)} {S : zS} {m0 m : zM} {B : Int} {d : Nat} {Q : Option zV → zM → Prop} (a1 : Int) (hd : 14 ≤ d) (hJ : J S m0 B m) (hB : B + 0 ≤ 1000000000) (ha1 : 3 ≤ a1 ∧ a1 ≤ 3) (hQ : ∀ (v : Int) m', ((-1) ≤ v ∧ v ≤ 3) → J S m0 (B) m' → Q (some (zi v)) m') : X (EE s) d 100 0 [(0, zr 4 41), (1, zi a1)] [] m Q := by
  refine X.aload_n 1 i100_0 rfl rfl rfl ?_
  refine X.callv 4 [] [] [(0, zr 4 41)] i100_1 rfl (by decide) rfl rfl (by omega) rfl rfl (by decide) rfl t93 (Nat.le_of_ble_eq_true rfl) (Nat.le_of_ble_eq_true rfl) rfl ?_
  refine c93_1 (B := B)   (by omega) (hJ.up (by omega)) (by omega)  (fun m501 hJ502 => ?_)
  show X (EE s) d 100 4 [(0, zr 4 41), (1, zi a1)] [] m501 _
  refine X.aload_n 5 i100_4 rfl rfl rfl ?_
  refine X.aload_n 6 i100_5 rfl rfl rfl ?_
  refine X.getI 9 7 i100_6 rfl rfl (by decide) rfl rfl rfl ?_
  have h504 := r41_7 hJ502 4
  refine X.putI' 12 8 i100_9 rfl rfl (by decide) rfl rfl rfl (fun hrm505 m505 hm505 => ?_)
  have hJ506 := w41_8 hJ502 hm505 (by omega) hrm505
  refine X.iconst 13 i100_12 rfl rfl (by decide) ?_
  refine X.istore_n 14 [(0, zr 4 41), (1, zi a1), (2, zi 0)] i100_13 rfl rfl rfl ?_
  refine l100_14_4 (s := s) (S := S) (m0 := m0) (d := d)  a1 (BE := B + 0) (by omega) (by omega) (by omega) (fun y507 m508 B509 hJ510 hBB509 hby507 => ?_) ((300 - m505 4 41 7 : Int).toNat + 1) 0 m505 (B) (hJ506.up (by omega)) (by omega)  (by omega) (by omega)
  refine X.aload_n 77 i100_76 rfl rfl rfl ?_
  refine X.getI 80 7 i100_77 rfl rfl (by decide) rfl rfl rfl ?_
  have h511 := r41_7 hJ510 4
  refine X.aload_n 81 i100_80 rfl rfl rfl ?_
  refine X.getIr 84 8 i100_81 rfl rfl (by decide) rfl rfl rfl (fun h512 => ?_)
  refine X.icmpne 99 87 i100_84 rfl rfl rfl (fun h513 => ?_) (fun h513 => ?_)
  · refine X.iload_n 100 i100_99 rfl rfl rfl ?_
    refine X.iload_n 101 i100_100 rfl rfl rfl ?_
    refine X.icmple 116 104 i100_101 rfl rfl rfl (fun h514 => ?_) (fun h514 => ?_)
    · refine X.cut [(2, zi y507)] i100_116 rfl ?_
      refine X.iload_n 117 i100_116 rfl rfl rfl ?_
      refine X.reti i100_117 rfl t100 ?_
      exact hQ y507 m508 (by first | trivial | omega) (hJ510.up (by omega)) 
    · refine X.aload_n 105 i100_104 rfl rfl rfl ?_
      refine X.iconst 106 i100_105 rfl rfl (by decide) ?_
      refine X.aload_n 107 i100_106 rfl rfl rfl ?_
      refine X.getI 110 8 i100_107 rfl rfl (by decide) rfl rfl rfl ?_
      refine X.callv 113 [zi 2, zi (m508 4 41 8)] [] [(0, zr 4 41), (1, zi 2), (2, zi (m508 4 41 8))] i100_110 rfl (by decide) rfl rfl (by omega) rfl rfl (by decide) rfl t102 (Nat.le_of_ble_eq_true rfl) (Nat.le_of_ble_eq_true rfl) rfl ?_
      refine X.aload_n 1 i102_0 rfl rfl rfl ?_
      refine X.iload_n 2 i102_1 rfl rfl rfl ?_
      refine X.putI' 5 4 i102_2 rfl rfl (by decide) rfl rfl rfl (fun hrm515 m515 hm515 => ?_)
      have hJ516 := w41_4 hJ510 hm515 (by omega) hrm515
      refine X.aload_n 6 i102_5 rfl rfl rfl ?_
      refine X.iload_n 7 i102_6 rfl rfl rfl ?_
      refine X.putI' 10 5 i102_7 rfl rfl (by decide) rfl rfl rfl (fun hrm517 m517 hm517 => ?_)
      have hJ518 := w41_4 hJ516 hm517 (by omega) hrm517
      refine X.iconst 11 i102_10 rfl rfl (by decide) ?_
      refine X.retz i102_11 rfl t102 (by omega) ?_
      show X (EE s) d 100 113 [(0, zr 4 41), (1, zi a1), (2, zi y507)] [zi 0] m517 _
      refine X.pop 114 i100_113 rfl rfl rfl ?_
      refine X.iconst 115 i100_114 rfl rfl (by decide) ?_
      refine X.reti i100_115 rfl t100 ?_
      exact hQ (-1) m517 (by first | trivial | omega) (hJ518.up (by omega)) 
  · refine X.aload_n 88 i100_87 rfl rfl rfl ?_
    refine X.iconst 89 i100_88 rfl rfl (by decide) ?_
    refine X.aload_n 90 i100_89 rfl rfl rfl ?_
    refine X.getI 93 8 i100_90 rfl rfl (by decide) rfl rfl rfl ?_
    refine X.callv 96 [zi 1, zi (m508 4 41 8)] [] [(0, zr 4 41), (1, zi 1), (2, zi (m508 4 41 8))] i100_93 rfl (by decide) rfl rfl (by omega) rfl rfl (by decide) rfl t102 (Nat.le_of_ble_eq_true rfl) (Nat.le_of_ble_eq_true rfl) rfl ?_
    refine X.aload_n 1 i102_0 rfl rfl rfl ?_
    refine X.iload_n 2 i102_1 rfl rfl rfl ?_
    refine X.putI' 5 4 i102_2 rfl rfl (by decide) rfl rfl rfl (fun hrm519 m519 hm519 => ?_)
    have hJ520 := w41_4 hJ510 hm519 (by omega) hrm519
    refine X.aload_n 6 i102_5 rfl rfl rfl ?_
    refine X.iload_n 7 i102_6 rfl rfl rfl ?_
    refine X.putI' 10 5 i102_7 rfl rfl (by decide) rfl rfl rfl (fun hrm521 m521 hm521 => ?_)
    have hJ522 := w41_4 hJ520 hm521 (by omega) hrm521
    refine X.iconst 11 i102_10 rfl rfl (by decide) ?_
    refine X.retz i102_11 rfl t102 (by omega) ?_
    show X (EE s) d 100 96 [(0, zr 4 41), (1, zi a1), (2, zi y507)] [zi 0] m521 _
    refine X.pop 97 i100_96 rfl rfl rfl ?_
    refine X.iconst 98 i100_97 rfl rfl (by decide) ?_
    refine X.reti i100_98 rfl t100 ?_
    exact hQ (-1) m521 (by first | trivial | omega) (hJ522.up (by omega)) 
-- WorkMeter$CalendarText.readNewNumber
theorem c99_1 {s : Nat × (Nat → Int32)} {S : zS} {m0 m : zM} {B : Int} {d : Nat} {Q : Option zV → zM → Prop} (a1 a2 : Int) (hd : 15 ≤ d) (hJ : J S m0 B m) (hB : B + 0 ≤ 1000000000) (ha1 : 3 ≤ a1 ∧ a1 ≤ 3) (ha2 : (-2147483648) ≤ a2 ∧ a2 ≤ 2147483647) (hQ : ∀ (v : Int) m', ((-1) ≤ v ∧ v ≤ 3) → J S m0 (B) m' → Q (some (zi v)) m') : X (EE s) d 99 0 [(0, zr 4 41), (1, zi a1), (2, zi a2)] [] m Q := by
  refine X.aload_n 1 i99_0 rfl rfl rfl ?_
  refine X.iload_n 2 i99_1 rfl rfl rfl ?_
  refine X.callv 5 [zi a1] [] [(0, zr 4 41), (1, zi a1)] i99_2 rfl (by decide) rfl rfl (by omega) rfl rfl (by decide) rfl t100 (Nat.le_of_ble_eq_true rfl) (Nat.le_of_ble_eq_true rfl) rfl ?_
  refine c100_4 (B := B)  a1 (by omega) (hJ.up (by omega)) (by omega) (by omega) (fun v503 m501 hv503 hJ502 => ?_)
  show X (EE s) d 99 5 [(0, zr 4 41), (1, zi a1), (2, zi a2)] [zi v503] m501 _
  refine X.istore_n 6 [(0, zr 4 41), (1, zi a1), (2, zi a2), (3, zi v503)] i99_5 rfl rfl rfl ?_
  refine X.iload_n 7 i99_6 rfl rfl rfl ?_
  refine X.iconst 8 i99_7 rfl rfl (by decide) ?_
  refine X.icmpeq 32 11 i99_8 rfl rfl rfl (fun h504 => ?_) (fun h504 => ?_)
  · refine X.cut [(3, zi v503)] i99_32 rfl ?_
    refine X.iload_n 33 i99_32 rfl rfl rfl ?_
    refine X.reti i99_33 rfl t99 ?_
    exact hQ v503 m501 (by first | trivial | omega) (hJ502.up (by omega)) 
  · refine X.iload_n 12 i99_11 rfl rfl rfl ?_
    refine X.iload_n 13 i99_12 rfl rfl rfl ?_
    refine X.iiF 14 .ishr (fun x y => x >>> (y &&& 31)) i99_13 rfl rfl rfl (fun _ _ => rfl) (fun z505 hz505 => ?_)
    refine X.iconst 15 i99_14 rfl rfl (by decide) ?_
    refine X.andF 16 1 i99_15 rfl rfl (by decide) (.inl rfl) (fun z506 hz506 => ?_)
    refine X.iconst 17 i99_16 rfl rfl (by decide) ?_
    refine X.icmpne 32 20 i99_17 rfl rfl rfl (fun h507 => ?_) (fun h507 => ?_)
    · refine X.cut [(3, zi v503)] i99_32 rfl ?_
      refine X.iload_n 33 i99_32 rfl rfl rfl ?_
      refine X.reti i99_33 rfl t99 ?_
      exact hQ v503 m501 (by first | trivial | omega) (hJ502.up (by omega)) 
    · refine X.aload_n 21 i99_20 rfl rfl rfl ?_
      refine X.iconst 22 i99_21 rfl rfl (by decide) ?_
      refine X.aload_n 23 i99_22 rfl rfl rfl ?_
      refine X.getIr 26 8 i99_23 rfl rfl (by decide) rfl rfl rfl (fun h508 => ?_)
      refine X.callv 29 [zi 3, zi (m501 4 41 8)] [] [(0, zr 4 41), (1, zi 3), (2, zi (m501 4 41 8))] i99_26 rfl (by decide) rfl rfl (by omega) rfl rfl (by decide) rfl t102 (Nat.le_of_ble_eq_true rfl) (Nat.le_of_ble_eq_true rfl) rfl ?_
      refine X.aload_n 1 i102_0 rfl rfl rfl ?_
      refine X.iload_n 2 i102_1 rfl rfl rfl ?_
      refine X.putI' 5 4 i102_2 rfl rfl (by decide) rfl rfl rfl (fun hrm509 m509 hm509 => ?_)
      have hJ510 := w41_4 hJ502 hm509 (by omega) hrm509
      refine X.aload_n 6 i102_5 rfl rfl rfl ?_
      refine X.iload_n 7 i102_6 rfl rfl rfl ?_
      refine X.putI' 10 5 i102_7 rfl rfl (by decide) rfl rfl rfl (fun hrm511 m511 hm511 => ?_)
      have hJ512 := w41_4 hJ510 hm511 (by omega) hrm511
      refine X.iconst 11 i102_10 rfl rfl (by decide) ?_
      refine X.retz i102_11 rfl t102 (by omega) ?_
      show X (EE s) d 99 29 [(0, zr 4 41), (1, zi a1), (2, zi a2), (3, zi v503)] [zi 0] m511 _
      refine X.pop 30 i99_29 rfl rfl rfl ?_
      refine X.iconst 31 i99_30 rfl rfl (by decide) ?_
      refine X.reti i99_31 rfl t99 ?_
      exact hQ (-1) m511 (by first | trivial | omega) (hJ512.up (by omega)) 
theorem l106_62_1 {s : Nat × (Nat → Int32)} {S : zS} {m0 : zM} {d : Nat} {Q : Option zV → zM → Prop} (y1 : Int) (BE : Int) (hE : BE ≤ 1000000000) (hd : 15 ≤ d) (hy1 : 0 ≤ y1 ∧ y1 ≤ 3)
    (K82 : ∀ (x3 x4 : Int) (m' : zM) (B' : Int), J S m0 B' m' → B' ≤ BE → (0 ≤ x3 ∧ x3 ≤ 6) → ((-1) ≤ x4 ∧ x4 ≤ (-1)) → X (EE s) d 106 82 [(0, zr 4 41), (1, zi y1), (3, zi x3), (4, zi x4)] [] m' Q)
    (K106 : ∀ (m' : zM) (B' : Int), J S m0 B' m' → B' ≤ BE → X (EE s) d 106 106 [] [] m' Q) :
    ∀ (n : Nat) (y3 : Int) (m : zM) (B : Int), J S m0 B m → B + 0 * (n : Int) ≤ BE → (0 ≤ y3 ∧ y3 ≤ 7) → 7 - y3 < (n : Int) → X (EE s) d 106 62 [(0, zr 4 41), (1, zi y1), (3, zi y3)] [] m Q := by
  intro n
  induction n with
  | zero =>
    intro y3 m B hJ hB  hy3 hn
    exfalso
    omega
  | succ n ih =>
    intro y3 m B hJ hB  hy3 hn
    refine X.iload_n 63 i106_62 rfl rfl rfl ?_
    refine X.bipush 65 i106_63 rfl rfl (by decide) ?_
    refine X.icmpge 106 68 i106_65 rfl rfl rfl (fun h508 => ?_) (fun h508 => ?_)
    · refine X.cut [] i106_106 rfl ?_
      exact K106  m (B) (hJ.up (by omega)) (by omega)  
    · refine X.aload_n 69 i106_68 rfl rfl rfl ?_
      refine X.bipush 71 i106_69 rfl rfl (by decide) ?_
      refine X.callv 74 [zi 7] [] [(0, zr 4 41), (1, zi 7)] i106_71 rfl (by decide) rfl rfl (by omega) rfl rfl (by decide) rfl t100 (Nat.le_of_ble_eq_true rfl) (Nat.le_of_ble_eq_true rfl) rfl ?_
      refine c100_3 (B := B)  7 (by omega) (hJ.up (by omega)) (by omega) (by omega) (fun v511 m509 hv511 hJ510 => ?_)
      show X (EE s) d 106 74 [(0, zr 4 41), (1, zi y1), (3, zi y3)] [zi v511] m509 _
      refine X.istore 76 [(0, zr 4 41), (1, zi y1), (3, zi y3), (4, zi v511)] i106_74 rfl rfl rfl ?_
      refine X.iload 78 i106_76 rfl rfl rfl ?_
      refine X.iconst 79 i106_78 rfl rfl (by decide) ?_
      refine X.icmpne 84 82 i106_79 rfl rfl rfl (fun h512 => ?_) (fun h512 => ?_)
      · refine X.aload_n 85 i106_84 rfl rfl rfl ?_
        refine X.getF 88 i106_85 rfl rfl (by decide) rfl rfl ?_
        refine X.getR 91 i106_88 rfl rfl (by decide) rfl rfl ?_
        refine X.iload_n 92 i106_91 rfl rfl rfl ?_
        refine X.bipush 94 i106_92 rfl rfl (by decide) ?_
        refine X.imul 95 i106_94 rfl rfl (by omega) ?_
        refine X.iload_n 96 i106_95 rfl rfl rfl ?_
        refine X.iadd 97 i106_96 rfl rfl (by omega) ?_
        refine X.iload 99 i106_97 rfl rfl rfl ?_
        refine X.iast' 100 i106_99 rfl rfl (by decide) rfl (by omega) (fun hrm513 m513 hm513 => ?_)
        have hJ514 := w16_0 hJ510 hm513 (by omega) (by omega)
        refine X.iinc 103 [(0, zr 4 41), (1, zi y1), (3, zi (y3 + 1)), (4, zi v511)] i106_100 rfl rfl rfl (by omega) rfl ?_
        refine X.goto 62 i106_103 rfl rfl ?_
        refine X.cut [(0, zr 4 41), (1, zi y1), (3, zi (y3 + 1))] i106_62 rfl ?_
        exact ih (y3 + 1) m513 (B) (hJ514.up (by omega)) (by omega)  (by omega) (by omega)
      · exact K82 y3 v511 m509 (B) (hJ510.up (by omega)) (by omega)  (by first | trivial | omega) (by first | trivial | omega)
-- WorkMeter$CalendarText.readSeason
theorem c106_1 {s : Nat × (Nat → Int32)} {S : zS} {m0 m : zM} {B : Int} {d : Nat} {Q : Option zV → zM → Prop} (hd : 16 ≤ d) (hJ : J S m0 B m) (hB : B + 0 ≤ 1000000000) (hp0 : m 4 41 7 + 6 ≤ 300) (hQ : ∀ (v : Int) m', (0 ≤ v ∧ v ≤ 1) → J S m0 (B) m' → Q (some (zi v)) m') : X (EE s) d 106 0 [(0, zr 4 41)] [] m Q := by
  refine X.aload_n 1 i106_0 rfl rfl rfl ?_
  refine X.ldcS 3 i106_1 rfl rfl (by decide) ?_
  refine X.callv 6 [zr 99 5] [] [(0, zr 4 41), (1, zr 99 5)] i106_3 rfl (by decide) rfl rfl (by omega) rfl rfl (by decide) rfl t98 (Nat.le_of_ble_eq_true rfl) (Nat.le_of_ble_eq_true rfl) rfl ?_
  refine X.aload_n 1 i98_0 rfl rfl rfl ?_
  refine X.dup 2 i98_1 rfl rfl rfl ?_
  refine X.getI 5 7 i98_2 rfl rfl (by decide) rfl rfl rfl ?_
  have h501 := r41_7 hJ 4
  refine X.aload_n 6 i98_5 rfl rfl rfl ?_
  refine X.slen 9 i98_6 rfl rfl (by omega) (Nat.le_of_ble_eq_true rfl) (by decide) (show (6 : Nat) < 2147483648 by decide) ?_
  show X (EE s) (d - 1) 98 9 [(0, zr 4 41), (1, zr 99 5)] [zi 6, zi (m 4 41 7), zr 4 41] m _
  refine X.iadd 10 i98_9 rfl rfl (by omega) ?_
  refine X.putI' 13 7 i98_10 rfl rfl (by decide) rfl rfl rfl (fun hrm502 m502 hm502 => ?_)
  have hJ503 := w41_7 hJ hm502 (by omega)
  have em502 : m502 4 41 7 = ((m 4 41 7) + 6) := by rw [hm502]; exact z_upd_same _ _ _ _ _
  refine X.retv i98_13 rfl t98 ?_
  show X (EE s) d 106 6 [(0, zr 4 41)] [] m502 _
  refine X.aload_n 7 i106_6 rfl rfl rfl ?_
  refine X.iconst 8 i106_7 rfl rfl (by decide) ?_
  refine X.aload_n 9 i106_8 rfl rfl rfl ?_
  refine X.getIr 12 10 i106_9 rfl rfl (by decide) rfl rfl rfl (fun h504 => ?_)
  refine X.callv 15 [zi 3, zi (m502 4 41 10)] [] [(0, zr 4 41), (1, zi 3), (2, zi (m502 4 41 10))] i106_12 rfl (by decide) rfl rfl (by omega) rfl rfl (by decide) rfl t99 (Nat.le_of_ble_eq_true rfl) (Nat.le_of_ble_eq_true rfl) rfl ?_
  refine c99_1 (B := B)  3 (m502 4 41 10) (by omega) (hJ503.up (by omega)) (by omega) (by omega) (by omega) (fun v507 m505 hv507 hJ506 => ?_)
  show X (EE s) d 106 15 [(0, zr 4 41)] [zi v507] m505 _
  refine X.istore_n 16 [(0, zr 4 41), (1, zi v507)] i106_15 rfl rfl rfl ?_
  refine X.iload_n 17 i106_16 rfl rfl rfl ?_
  refine X.iconst 18 i106_17 rfl rfl (by decide) ?_
  refine X.icmpne 23 21 i106_18 rfl rfl rfl (fun h508 => ?_) (fun h508 => ?_)
  · refine X.aload_n 24 i106_23 rfl rfl rfl ?_
    refine X.dup 25 i106_24 rfl rfl rfl ?_
    refine X.getIr 28 10 i106_25 rfl rfl (by decide) rfl rfl rfl (fun h509 => ?_)
    refine X.iconst 29 i106_28 rfl rfl (by decide) ?_
    refine X.iload_n 30 i106_29 rfl rfl rfl ?_
    refine X.iiF 31 .ishl (fun x y => x <<< (y &&& 31)) i106_30 rfl rfl rfl (fun _ _ => rfl) (fun z510 hz510 => ?_)
    refine X.iiF 32 .ior (fun x y => x ||| y) i106_31 rfl rfl rfl (fun _ _ => rfl) (fun z511 hz511 => ?_)
    refine X.putI' 35 10 i106_32 rfl rfl (by decide) rfl rfl rfl (fun hrm512 m512 hm512 => ?_)
    have hJ513 := w41_8 hJ506 hm512 (by omega) hrm512
    refine X.aload_n 36 i106_35 rfl rfl rfl ?_
    refine X.sipush 39 i106_36 rfl rfl (by decide) ?_
    refine X.callv 42 [zi 364] [] [(0, zr 4 41), (1, zi 364)] i106_39 rfl (by decide) rfl rfl (by omega) rfl rfl (by decide) rfl t100 (Nat.le_of_ble_eq_true rfl) (Nat.le_of_ble_eq_true rfl) rfl ?_
    refine c100_2 (B := B)  364 (by omega) (hJ513.up (by omega)) (by omega) (by omega) (fun v516 m514 hv516 hJ515 => ?_)
    show X (EE s) d 106 42 [(0, zr 4 41), (1, zi v507)] [zi v516] m514 _
    refine X.istore_n 43 [(0, zr 4 41), (1, zi v507), (2, zi v516)] i106_42 rfl rfl rfl ?_
    refine X.iload_n 44 i106_43 rfl rfl rfl ?_
    refine X.iconst 45 i106_44 rfl rfl (by decide) ?_
    refine X.icmpne 50 48 i106_45 rfl rfl rfl (fun h517 => ?_) (fun h517 => ?_)
    · refine X.aload_n 51 i106_50 rfl rfl rfl ?_
      refine X.getF 54 i106_51 rfl rfl (by decide) rfl rfl ?_
      refine X.getR 57 i106_54 rfl rfl (by decide) rfl rfl ?_
      refine X.iload_n 58 i106_57 rfl rfl rfl ?_
      refine X.iload_n 59 i106_58 rfl rfl rfl ?_
      refine X.iast' 60 i106_59 rfl rfl (by decide) rfl (by omega) (fun hrm518 m518 hm518 => ?_)
      have hJ519 := w15_0 hJ515 hm518 (by omega) (by omega)
      refine X.iconst 61 i106_60 rfl rfl (by decide) ?_
      refine X.istore_n 62 [(0, zr 4 41), (1, zi v507), (2, zi v516), (3, zi 0)] i106_61 rfl rfl rfl ?_
      refine X.cut [(0, zr 4 41), (1, zi v507), (3, zi 0)] i106_62 rfl ?_
      refine l106_62_1 (s := s) (S := S) (m0 := m0) (d := d)  v507 (BE := B + 0) (by omega) (by omega) (by omega) (fun y520 y521 m522 B523 hJ524 hBB523 hby520 hby521 => ?_) (fun  m525 B526 hJ527 hBB526 => ?_) ((7 - 0 : Int).toNat + 1) 0 m518 (B) (hJ519.up (by omega)) (by omega)  (by omega) (by omega)
      · refine X.iconst 83 i106_82 rfl rfl (by decide) ?_
        refine X.retz i106_83 rfl t106 (by omega) ?_
        exact hQ 0 m522 (by first | trivial | omega) (hJ524.up (by omega)) 
      · refine X.iconst 107 i106_106 rfl rfl (by decide) ?_
        refine X.retz i106_107 rfl t106 (by omega) ?_
        exact hQ 1 m525 (by first | trivial | omega) (hJ527.up (by omega)) 
    · refine X.iconst 49 i106_48 rfl rfl (by decide) ?_
      refine X.retz i106_49 rfl t106 (by omega) ?_
      exact hQ 0 m514 (by first | trivial | omega) (hJ515.up (by omega)) 
  · refine X.iconst 22 i106_21 rfl rfl (by decide) ?_
    refine X.retz i106_22 rfl t106 (by omega) ?_
    exact hQ 0 m505 (by first | trivial | omega) (hJ506.up (by omega)) 
-- WorkMeter$CalendarText.readNewNumber
theorem c99_2 {s : Nat × (Nat → Int32)} {S : zS} {m0 m : zM} {B : Int} {d : Nat} {Q : Option zV → zM → Prop} (a1 a2 : Int) (hd : 15 ≤ d) (hJ : J S m0 B m) (hB : B + 0 ≤ 1000000000) (ha1 : 7 ≤ a1 ∧ a1 ≤ 7) (ha2 : (-2147483648) ≤ a2 ∧ a2 ≤ 2147483647) (hQ : ∀ (v : Int) m', ((-1) ≤ v ∧ v ≤ 7) → J S m0 (B) m' → Q (some (zi v)) m') : X (EE s) d 99 0 [(0, zr 4 41), (1, zi a1), (2, zi a2)] [] m Q := by
  refine X.aload_n 1 i99_0 rfl rfl rfl ?_
  refine X.iload_n 2 i99_1 rfl rfl rfl ?_
  refine X.callv 5 [zi a1] [] [(0, zr 4 41), (1, zi a1)] i99_2 rfl (by decide) rfl rfl (by omega) rfl rfl (by decide) rfl t100 (Nat.le_of_ble_eq_true rfl) (Nat.le_of_ble_eq_true rfl) rfl ?_
  refine c100_3 (B := B)  a1 (by omega) (hJ.up (by omega)) (by omega) (by omega) (fun v503 m501 hv503 hJ502 => ?_)
  show X (EE s) d 99 5 [(0, zr 4 41), (1, zi a1), (2, zi a2)] [zi v503] m501 _
  refine X.istore_n 6 [(0, zr 4 41), (1, zi a1), (2, zi a2), (3, zi v503)] i99_5 rfl rfl rfl ?_
  refine X.iload_n 7 i99_6 rfl rfl rfl ?_
  refine X.iconst 8 i99_7 rfl rfl (by decide) ?_
  refine X.icmpeq 32 11 i99_8 rfl rfl rfl (fun h504 => ?_) (fun h504 => ?_)
  · refine X.cut [(3, zi v503)] i99_32 rfl ?_
    refine X.iload_n 33 i99_32 rfl rfl rfl ?_
    refine X.reti i99_33 rfl t99 ?_
    exact hQ v503 m501 (by first | trivial | omega) (hJ502.up (by omega)) 
  · refine X.iload_n 12 i99_11 rfl rfl rfl ?_
    refine X.iload_n 13 i99_12 rfl rfl rfl ?_
    refine X.iiF 14 .ishr (fun x y => x >>> (y &&& 31)) i99_13 rfl rfl rfl (fun _ _ => rfl) (fun z505 hz505 => ?_)
    refine X.iconst 15 i99_14 rfl rfl (by decide) ?_
    refine X.andF 16 1 i99_15 rfl rfl (by decide) (.inl rfl) (fun z506 hz506 => ?_)
    refine X.iconst 17 i99_16 rfl rfl (by decide) ?_
    refine X.icmpne 32 20 i99_17 rfl rfl rfl (fun h507 => ?_) (fun h507 => ?_)
    · refine X.cut [(3, zi v503)] i99_32 rfl ?_
      refine X.iload_n 33 i99_32 rfl rfl rfl ?_
      refine X.reti i99_33 rfl t99 ?_
      exact hQ v503 m501 (by first | trivial | omega) (hJ502.up (by omega)) 
    · refine X.aload_n 21 i99_20 rfl rfl rfl ?_
      refine X.iconst 22 i99_21 rfl rfl (by decide) ?_
      refine X.aload_n 23 i99_22 rfl rfl rfl ?_
      refine X.getIr 26 8 i99_23 rfl rfl (by decide) rfl rfl rfl (fun h508 => ?_)
      refine X.callv 29 [zi 3, zi (m501 4 41 8)] [] [(0, zr 4 41), (1, zi 3), (2, zi (m501 4 41 8))] i99_26 rfl (by decide) rfl rfl (by omega) rfl rfl (by decide) rfl t102 (Nat.le_of_ble_eq_true rfl) (Nat.le_of_ble_eq_true rfl) rfl ?_
      refine X.aload_n 1 i102_0 rfl rfl rfl ?_
      refine X.iload_n 2 i102_1 rfl rfl rfl ?_
      refine X.putI' 5 4 i102_2 rfl rfl (by decide) rfl rfl rfl (fun hrm509 m509 hm509 => ?_)
      have hJ510 := w41_4 hJ502 hm509 (by omega) hrm509
      refine X.aload_n 6 i102_5 rfl rfl rfl ?_
      refine X.iload_n 7 i102_6 rfl rfl rfl ?_
      refine X.putI' 10 5 i102_7 rfl rfl (by decide) rfl rfl rfl (fun hrm511 m511 hm511 => ?_)
      have hJ512 := w41_4 hJ510 hm511 (by omega) hrm511
      refine X.iconst 11 i102_10 rfl rfl (by decide) ?_
      refine X.retz i102_11 rfl t102 (by omega) ?_
      show X (EE s) d 99 29 [(0, zr 4 41), (1, zi a1), (2, zi a2), (3, zi v503)] [zi 0] m511 _
      refine X.pop 30 i99_29 rfl rfl rfl ?_
      refine X.iconst 31 i99_30 rfl rfl (by decide) ?_
      refine X.reti i99_31 rfl t99 ?_
      exact hQ (-1) m511 (by first | trivial | omega) (hJ512.up (by omega)) 
-- WorkMeter$CalendarText.digitHere
theorem c103_1 {s : Nat × (Nat → Int32)} {S : zS} {m0 m : zM} {B : Int} {d : Nat} {Q : Option zV → zM → Prop} (hd : 14 ≤ d) (hJ : J S m0 B m) (hB : B + 0 ≤ 1000000000) (hQ : ∀ (v : Int) m', (0 ≤ v ∧ v ≤ 1) → J S m0 (B) m' → Q (some (zi v)) m') : X (EE s) d 103 0 [(0, zr 4 41)] [] m Q := by
  refine X.aload_n 1 i103_0 rfl rfl rfl ?_
  refine X.callv 4 [] [] [(0, zr 4 41)] i103_1 rfl (by decide) rfl rfl (by omega) rfl rfl (by decide) rfl t93 (Nat.le_of_ble_eq_true rfl) (Nat.le_of_ble_eq_true rfl) rfl ?_
  refine c93_1 (B := B)   (by omega) (hJ.up (by omega)) (by omega)  (fun m501 hJ502 => ?_)
  show X (EE s) d 103 4 [(0, zr 4 41)] [] m501 _
  refine X.aload_n 5 i103_4 rfl rfl rfl ?_
  refine X.getI 8 7 i103_5 rfl rfl (by decide) rfl rfl rfl ?_
  have h504 := r41_7 hJ502 4
  refine X.aload_n 9 i103_8 rfl rfl rfl ?_
  refine X.getI 12 3 i103_9 rfl rfl (by decide) rfl rfl rfl ?_
  have h505 := r41_3 hJ502 4
  refine X.icmpge 34 15 i103_12 rfl rfl rfl (fun h506 => ?_) (fun h506 => ?_)
  · refine X.cut [] i103_34 rfl ?_
    refine X.iconst 35 i103_34 rfl rfl (by decide) ?_
    refine X.retz i103_35 rfl t103 (by omega) ?_
    exact hQ 0 m501 (by first | trivial | omega) (hJ502.up (by omega)) 
  · refine X.aload_n 16 i103_15 rfl rfl rfl ?_
    refine X.getF 19 i103_16 rfl rfl (by decide) rfl rfl ?_
    refine X.aload_n 20 i103_19 rfl rfl rfl ?_
    refine X.getI 23 7 i103_20 rfl rfl (by decide) rfl rfl rfl ?_
    refine X.iald 24 i103_23 rfl rfl (by decide) rfl (by omega) ?_
    have h507 := r42_0 hJ502 4 (i := (m501 4 41 7)) (by omega)
    refine X.calls 27 [zi (m501 4 42 (m501 4 41 7))] [] [(0, zi (m501 4 42 (m501 4 41 7)))] i103_24 (by decide) rfl rfl (by omega) rfl rfl t101 (Nat.le_of_ble_eq_true rfl) (Nat.le_of_ble_eq_true rfl) rfl ?_
    refine X.iload_n 1 i101_0 rfl rfl rfl ?_
    refine X.bipush 3 i101_1 rfl rfl (by decide) ?_
    refine X.icmplt 16 6 i101_3 rfl rfl rfl (fun h508 => ?_) (fun h508 => ?_)
    · refine X.cut [] i101_16 rfl ?_
      refine X.iconst 17 i101_16 rfl rfl (by decide) ?_
      refine X.retz i101_17 rfl t101 (by omega) ?_
      show X (EE s) d 103 27 [(0, zr 4 41)] [zi 0] m501 _
      refine X.ifeq 34 30 i103_27 rfl rfl rfl (fun h509 => ?_) (fun h509 => (by exfalso; omega))
      refine X.cut [] i103_34 rfl ?_
      refine X.iconst 35 i103_34 rfl rfl (by decide) ?_
      refine X.retz i103_35 rfl t103 (by omega) ?_
      exact hQ 0 m501 (by first | trivial | omega) (hJ502.up (by omega)) 
    · refine X.iload_n 7 i101_6 rfl rfl rfl ?_
      refine X.bipush 9 i101_7 rfl rfl (by decide) ?_
      refine X.icmpgt 16 12 i101_9 rfl rfl rfl (fun h510 => ?_) (fun h510 => ?_)
      · refine X.cut [] i101_16 rfl ?_
        refine X.iconst 17 i101_16 rfl rfl (by decide) ?_
        refine X.retz i101_17 rfl t101 (by omega) ?_
        show X (EE s) d 103 27 [(0, zr 4 41)] [zi 0] m501 _
        refine X.ifeq 34 30 i103_27 rfl rfl rfl (fun h511 => ?_) (fun h511 => (by exfalso; omega))
        refine X.cut [] i103_34 rfl ?_
        refine X.iconst 35 i103_34 rfl rfl (by decide) ?_
        refine X.retz i103_35 rfl t103 (by omega) ?_
        exact hQ 0 m501 (by first | trivial | omega) (hJ502.up (by omega)) 
      · refine X.iconst 13 i101_12 rfl rfl (by decide) ?_
        refine X.goto 17 i101_13 rfl rfl ?_
        refine X.cut [] i101_17 rfl ?_
        refine X.retz i101_17 rfl t101 (by omega) ?_
        show X (EE s) d 103 27 [(0, zr 4 41)] [zi 1] m501 _
        refine X.ifeq 34 30 i103_27 rfl rfl rfl (fun h512 => (by exfalso; omega)) (fun h512 => ?_)
        refine X.iconst 31 i103_30 rfl rfl (by decide) ?_
        refine X.goto 35 i103_31 rfl rfl ?_
        refine X.cut [] i103_35 rfl ?_
        refine X.retz i103_35 rfl t103 (by omega) ?_
        exact hQ 1 m501 (by first | trivial | omega) (hJ502.up (by omega)) 
theorem l100_14_5 {s : Nat × (Nat → Int32)} {S : zS} {m0 : zM} {d : Nat} {Q : Option zV → zM → Prop} (y1 : Int) (BE : Int) (hE : BE ≤ 1000000000) (hd : 13 ≤ d) (hy1 : 23 ≤ y1 ∧ y1 ≤ 23)
    (K76 : ∀ (x2 : Int) (m' : zM) (B' : Int), J S m0 B' m' → B' ≤ BE → (0 ≤ x2 ∧ x2 ≤ 1000000) → X (EE s) d 100 76 [(0, zr 4 41), (1, zi y1), (2, zi x2)] [] m' Q) :
    ∀ (n : Nat) (y2 : Int) (m : zM) (B : Int), J S m0 B m → B + 0 * (n : Int) ≤ BE → (0 ≤ y2 ∧ y2 ≤ 1000000) → 300 - m 4 41 7 < (n : Int) → X (EE s) d 100 14 [(0, zr 4 41), (1, zi y1), (2, zi y2)] [] m Q := by
  intro n
  induction n with
  | zero =>
    intro y2 m B hJ hB  hy2 hn
    have zf0 := r41_7 hJ 4
    exfalso
    omega
  | succ n ih =>
    intro y2 m B hJ hB  hy2 hn
    refine X.aload_n 15 i100_14 rfl rfl rfl ?_
    refine X.getI 18 7 i100_15 rfl rfl (by decide) rfl rfl rfl ?_
    have h512 := r41_7 hJ 4
    refine X.aload_n 19 i100_18 rfl rfl rfl ?_
    refine X.getI 22 3 i100_19 rfl rfl (by decide) rfl rfl rfl ?_
    have h513 := r41_3 hJ 4
    refine X.icmpge 76 25 i100_22 rfl rfl rfl (fun h514 => ?_) (fun h514 => ?_)
    · exact K76 y2 m (B) (hJ.up (by omega)) (by omega)  (by first | trivial | omega)
    · refine X.aload_n 26 i100_25 rfl rfl rfl ?_
      refine X.getF 29 i100_26 rfl rfl (by decide) rfl rfl ?_
      refine X.aload_n 30 i100_29 rfl rfl rfl ?_
      refine X.getI 33 7 i100_30 rfl rfl (by decide) rfl rfl rfl ?_
      refine X.iald 34 i100_33 rfl rfl (by decide) rfl (by omega) ?_
      have h515 := r42_0 hJ 4 (i := (m 4 41 7)) (by omega)
      refine X.calls 37 [zi (m 4 42 (m 4 41 7))] [] [(0, zi (m 4 42 (m 4 41 7)))] i100_34 (by decide) rfl rfl (by omega) rfl rfl t101 (Nat.le_of_ble_eq_true rfl) (Nat.le_of_ble_eq_true rfl) rfl ?_
      refine X.iload_n 1 i101_0 rfl rfl rfl ?_
      refine X.bipush 3 i101_1 rfl rfl (by decide) ?_
      refine X.icmplt 16 6 i101_3 rfl rfl rfl (fun h516 => ?_) (fun h516 => ?_)
      · refine X.cut [] i101_16 rfl ?_
        refine X.iconst 17 i101_16 rfl rfl (by decide) ?_
        refine X.retz i101_17 rfl t101 (by omega) ?_
        show X (EE s) d 100 37 [(0, zr 4 41), (1, zi y1), (2, zi y2)] [zi 0] m _
        refine X.ifeq 76 40 i100_37 rfl rfl rfl (fun h517 => ?_) (fun h517 => (by exfalso; omega))
        exact K76 y2 m (B) (hJ.up (by omega)) (by omega)  (by first | trivial | omega)
      · refine X.iload_n 7 i101_6 rfl rfl rfl ?_
        refine X.bipush 9 i101_7 rfl rfl (by decide) ?_
        refine X.icmpgt 16 12 i101_9 rfl rfl rfl (fun h518 => ?_) (fun h518 => ?_)
        · refine X.cut [] i101_16 rfl ?_
          refine X.iconst 17 i101_16 rfl rfl (by decide) ?_
          refine X.retz i101_17 rfl t101 (by omega) ?_
          show X (EE s) d 100 37 [(0, zr 4 41), (1, zi y1), (2, zi y2)] [zi 0] m _
          refine X.ifeq 76 40 i100_37 rfl rfl rfl (fun h519 => ?_) (fun h519 => (by exfalso; omega))
          exact K76 y2 m (B) (hJ.up (by omega)) (by omega)  (by first | trivial | omega)
        · refine X.iconst 13 i101_12 rfl rfl (by decide) ?_
          refine X.goto 17 i101_13 rfl rfl ?_
          refine X.cut [] i101_17 rfl ?_
          refine X.retz i101_17 rfl t101 (by omega) ?_
          show X (EE s) d 100 37 [(0, zr 4 41), (1, zi y1), (2, zi y2)] [zi 1] m _
          refine X.ifeq 76 40 i100_37 rfl rfl rfl (fun h520 => (by exfalso; omega)) (fun h520 => ?_)
          refine X.iload_n 41 i100_40 rfl rfl rfl ?_
          refine X.bipush 43 i100_41 rfl rfl (by decide) ?_
          refine X.imul 44 i100_43 rfl rfl (by omega) ?_
          refine X.aload_n 45 i100_44 rfl rfl rfl ?_
          refine X.getF 48 i100_45 rfl rfl (by decide) rfl rfl ?_
          refine X.aload_n 49 i100_48 rfl rfl rfl ?_
          refine X.getI 52 7 i100_49 rfl rfl (by decide) rfl rfl rfl ?_
          refine X.iald 53 i100_52 rfl rfl (by decide) rfl (by omega) ?_
          refine X.iadd 54 i100_53 rfl rfl (by omega) ?_
          refine X.bipush 56 i100_54 rfl rfl (by decide) ?_
          refine X.isub 57 i100_56 rfl rfl (by omega) ?_
          refine X.ldc 59 i100_57 rfl rfl (by decide) ?_
          refine X.minI 62 i100_59 rfl rfl (by omega) (Nat.le_of_ble_eq_true rfl) ?_
          refine X.istore_n 63 [(0, zr 4 41), (1, zi y1), (2, zi (min (((y2 * 10) + (m 4 42 (m 4 41 7))) - 48) 1000000))] i100_62 rfl rfl rfl ?_
          refine X.aload_n 64 i100_63 rfl rfl rfl ?_
          refine X.dup 65 i100_64 rfl rfl rfl ?_
          refine X.getI 68 7 i100_65 rfl rfl (by decide) rfl rfl rfl ?_
          refine X.iconst 69 i100_68 rfl rfl (by decide) ?_
          refine X.iadd 70 i100_69 rfl rfl (by omega) ?_
          refine X.putI' 73 7 i100_70 rfl rfl (by decide) rfl rfl rfl (fun hrm521 m521 hm521 => ?_)
          have hJ522 := w41_7 hJ hm521 (by omega)
          have em521 : m521 4 41 7 = ((m 4 41 7) + 1) := by rw [hm521]; exact z_upd_same _ _ _ _ _
          refine X.goto 14 i100_73 rfl rfl ?_
          exact ih (min (((y2 * 10) + (m 4 42 (m 4 41 7))) - 48) 1000000) m521 (B) (hJ522.up (by omega)) (by omega)  (by omega) (by omega)
-- WorkMeter$CalendarText.readNumber
theorem c100_5 {s : Nat × (Nat → Int32)} {S : zS} {m0 m : zM} {B : Int} {d : Nat} {Q : Option zV → zM → Prop} (a1 : Int) (hd : 14 ≤ d) (hJ : J S m0 B m) (hB : B + 0 ≤ 1000000000) (ha1 : 23 ≤ a1 ∧ a1 ≤ 23) (hQ : ∀ (v : Int) m', ((-1) ≤ v ∧ v ≤ 23) → J S m0 (B) m' → Q (some (zi v)) m') : X (EE s) d 100 0 [(0, zr 4 41), (1, zi a1)] [] m Q := by
  refine X.aload_n 1 i100_0 rfl rfl rfl ?_
  refine X.callv 4 [] [] [(0, zr 4 41)] i100_1 rfl (by decide) rfl rfl (by omega) rfl rfl (by decide) rfl t93 (Nat.le_of_ble_eq_true rfl) (Nat.le_of_ble_eq_true rfl) rfl ?_
  refine c93_1 (B := B)   (by omega) (hJ.up (by omega)) (by omega)  (fun m501 hJ502 => ?_)
  show X (EE s) d 100 4 [(0, zr 4 41), (1, zi a1)] [] m501 _
  refine X.aload_n 5 i100_4 rfl rfl rfl ?_
  refine X.aload_n 6 i100_5 rfl rfl rfl ?_
  refine X.getI 9 7 i100_6 rfl rfl (by decide) rfl rfl rfl ?_
  have h504 := r41_7 hJ502 4
  refine X.putI' 12 8 i100_9 rfl rfl (by decide) rfl rfl rfl (fun hrm505 m505 hm505 => ?_)
  have hJ506 := w41_8 hJ502 hm505 (by omega) hrm505
  refine X.iconst 13 i100_12 rfl rfl (by decide) ?_
  refine X.istore_n 14 [(0, zr 4 41), (1, zi a1), (2, zi 0)] i100_13 rfl rfl rfl ?_
  refine l100_14_5 (s := s) (S := S) (m0 := m0) (d := d)  a1 (BE := B + 0) (by omega) (by omega) (by omega) (fun y507 m508 B509 hJ510 hBB509 hby507 => ?_) ((300 - m505 4 41 7 : Int).toNat + 1) 0 m505 (B) (hJ506.up (by omega)) (by omega)  (by omega) (by omega)
  refine X.aload_n 77 i100_76 rfl rfl rfl ?_
  refine X.getI 80 7 i100_77 rfl rfl (by decide) rfl rfl rfl ?_
  have h511 := r41_7 hJ510 4
  refine X.aload_n 81 i100_80 rfl rfl rfl ?_
  refine X.getIr 84 8 i100_81 rfl rfl (by decide) rfl rfl rfl (fun h512 => ?_)
  refine X.icmpne 99 87 i100_84 rfl rfl rfl (fun h513 => ?_) (fun h513 => ?_)
  · refine X.iload_n 100 i100_99 rfl rfl rfl ?_
    refine X.iload_n 101 i100_100 rfl rfl rfl ?_
    refine X.icmple 116 104 i100_101 rfl rfl rfl (fun h514 => ?_) (fun h514 => ?_)
    · refine X.cut [(2, zi y507)] i100_116 rfl ?_
      refine X.iload_n 117 i100_116 rfl rfl rfl ?_
      refine X.reti i100_117 rfl t100 ?_
      exact hQ y507 m508 (by first | trivial | omega) (hJ510.up (by omega)) 
    · refine X.aload_n 105 i100_104 rfl rfl rfl ?_
      refine X.iconst 106 i100_105 rfl rfl (by decide) ?_
      refine X.aload_n 107 i100_106 rfl rfl rfl ?_
      refine X.getI 110 8 i100_107 rfl rfl (by decide) rfl rfl rfl ?_
      refine X.callv 113 [zi 2, zi (m508 4 41 8)] [] [(0, zr 4 41), (1, zi 2), (2, zi (m508 4 41 8))] i100_110 rfl (by decide) rfl rfl (by omega) rfl rfl (by decide) rfl t102 (Nat.le_of_ble_eq_true rfl) (Nat.le_of_ble_eq_true rfl) rfl ?_
      refine X.aload_n 1 i102_0 rfl rfl rfl ?_
      refine X.iload_n 2 i102_1 rfl rfl rfl ?_
      refine X.putI' 5 4 i102_2 rfl rfl (by decide) rfl rfl rfl (fun hrm515 m515 hm515 => ?_)
      have hJ516 := w41_4 hJ510 hm515 (by omega) hrm515
      refine X.aload_n 6 i102_5 rfl rfl rfl ?_
      refine X.iload_n 7 i102_6 rfl rfl rfl ?_
      refine X.putI' 10 5 i102_7 rfl rfl (by decide) rfl rfl rfl (fun hrm517 m517 hm517 => ?_)
      have hJ518 := w41_4 hJ516 hm517 (by omega) hrm517
      refine X.iconst 11 i102_10 rfl rfl (by decide) ?_
      refine X.retz i102_11 rfl t102 (by omega) ?_
      show X (EE s) d 100 113 [(0, zr 4 41), (1, zi a1), (2, zi y507)] [zi 0] m517 _
      refine X.pop 114 i100_113 rfl rfl rfl ?_
      refine X.iconst 115 i100_114 rfl rfl (by decide) ?_
      refine X.reti i100_115 rfl t100 ?_
      exact hQ (-1) m517 (by first | trivial | omega) (hJ518.up (by omega)) 
  · refine X.aload_n 88 i100_87 rfl rfl rfl ?_
    refine X.iconst 89 i100_88 rfl rfl (by decide) ?_
    refine X.aload_n 90 i100_89 rfl rfl rfl ?_
    refine X.getI 93 8 i100_90 rfl rfl (by decide) rfl rfl rfl ?_
    refine X.callv 96 [zi 1, zi (m508 4 41 8)] [] [(0, zr 4 41), (1, zi 1), (2, zi (m508 4 41 8))] i100_93 rfl (by decide) rfl rfl (by omega) rfl rfl (by decide) rfl t102 (Nat.le_of_ble_eq_true rfl) (Nat.le_of_ble_eq_true rfl) rfl ?_
    refine X.aload_n 1 i102_0 rfl rfl rfl ?_
    refine X.iload_n 2 i102_1 rfl rfl rfl ?_
    refine X.putI' 5 4 i102_2 rfl rfl (by decide) rfl rfl rfl (fun hrm519 m519 hm519 => ?_)
    have hJ520 := w41_4 hJ510 hm519 (by omega) hrm519
    refine X.aload_n 6 i102_5 rfl rfl rfl ?_
    refine X.iload_n 7 i102_6 rfl rfl rfl ?_
    refine X.putI' 10 5 i102_7 rfl rfl (by decide) rfl rfl rfl (fun hrm521 m521 hm521 => ?_)
    have hJ522 := w41_4 hJ520 hm521 (by omega) hrm521
    refine X.iconst 11 i102_10 rfl rfl (by decide) ?_
    refine X.retz i102_11 rfl t102 (by omega) ?_
    show X (EE s) d 100 96 [(0, zr 4 41), (1, zi a1), (2, zi y507)] [zi 0] m521 _
    refine X.pop 97 i100_96 rfl rfl rfl ?_
    refine X.iconst 98 i100_97 rfl rfl (by decide) ?_
    refine X.reti i100_98 rfl t100 ?_
    exact hQ (-1) m521 (by first | trivial | omega) (hJ522.up (by omega)) 
-- WorkMeter$CalendarText.readSign
theorem c105_1 {s : Nat × (Nat → Int32)} {S : zS} {m0 m : zM} {B : Int} {d : Nat} {Q : Option zV → zM → Prop} (a1 : Int) (hd : 14 ≤ d) (hJ : J S m0 B m) (hB : B + 0 ≤ 1000000000) (ha1 : 58 ≤ a1 ∧ a1 ≤ 58) (hQ : ∀ (v : Int) m', (0 ≤ v ∧ v ≤ 1) → J S m0 (B) m' → Q (some (zi v)) m') : X (EE s) d 105 0 [(0, zr 4 41), (1, zi a1)] [] m Q := by
  refine X.aload_n 1 i105_0 rfl rfl rfl ?_
  refine X.callv 4 [] [] [(0, zr 4 41)] i105_1 rfl (by decide) rfl rfl (by omega) rfl rfl (by decide) rfl t93 (Nat.le_of_ble_eq_true rfl) (Nat.le_of_ble_eq_true rfl) rfl ?_
  refine c93_1 (B := B)   (by omega) (hJ.up (by omega)) (by omega)  (fun m501 hJ502 => ?_)
  show X (EE s) d 105 4 [(0, zr 4 41), (1, zi a1)] [] m501 _
  refine X.aload_n 5 i105_4 rfl rfl rfl ?_
  refine X.getI 8 7 i105_5 rfl rfl (by decide) rfl rfl rfl ?_
  have h504 := r41_7 hJ502 4
  refine X.aload_n 9 i105_8 rfl rfl rfl ?_
  refine X.getI 12 3 i105_9 rfl rfl (by decide) rfl rfl rfl ?_
  have h505 := r41_3 hJ502 4
  refine X.icmpge 28 15 i105_12 rfl rfl rfl (fun h506 => ?_) (fun h506 => ?_)
  · refine X.cut [(0, zr 4 41)] i105_28 rfl ?_
    refine X.aload_n 29 i105_28 rfl rfl rfl ?_
    refine X.iconst 30 i105_29 rfl rfl (by decide) ?_
    refine X.aload_n 31 i105_30 rfl rfl rfl ?_
    refine X.getI 34 7 i105_31 rfl rfl (by decide) rfl rfl rfl ?_
    refine X.callv 37 [zi 1, zi (m501 4 41 7)] [] [(0, zr 4 41), (1, zi 1), (2, zi (m501 4 41 7))] i105_34 rfl (by decide) rfl rfl (by omega) rfl rfl (by decide) rfl t102 (Nat.le_of_ble_eq_true rfl) (Nat.le_of_ble_eq_true rfl) rfl ?_
    refine X.aload_n 1 i102_0 rfl rfl rfl ?_
    refine X.iload_n 2 i102_1 rfl rfl rfl ?_
    refine X.putI' 5 4 i102_2 rfl rfl (by decide) rfl rfl rfl (fun hrm507 m507 hm507 => ?_)
    have hJ508 := w41_4 hJ502 hm507 (by omega) hrm507
    refine X.aload_n 6 i102_5 rfl rfl rfl ?_
    refine X.iload_n 7 i102_6 rfl rfl rfl ?_
    refine X.putI' 10 5 i102_7 rfl rfl (by decide) rfl rfl rfl (fun hrm509 m509 hm509 => ?_)
    have hJ510 := w41_4 hJ508 hm509 (by omega) hrm509
    refine X.iconst 11 i102_10 rfl rfl (by decide) ?_
    refine X.retz i102_11 rfl t102 (by omega) ?_
    show X (EE s) d 105 37 [(0, zr 4 41)] [zi 0] m509 _
    refine X.retz i105_37 rfl t105 (by omega) ?_
    exact hQ 0 m509 (by first | trivial | omega) (hJ510.up (by omega)) 
  · refine X.aload_n 16 i105_15 rfl rfl rfl ?_
    refine X.getF 19 i105_16 rfl rfl (by decide) rfl rfl ?_
    refine X.aload_n 20 i105_19 rfl rfl rfl ?_
    refine X.getI 23 7 i105_20 rfl rfl (by decide) rfl rfl rfl ?_
    refine X.iald 24 i105_23 rfl rfl (by decide) rfl (by omega) ?_
    have h511 := r42_0 hJ502 4 (i := (m501 4 41 7)) (by omega)
    refine X.iload_n 25 i105_24 rfl rfl rfl ?_
    refine X.icmpeq 38 28 i105_25 rfl rfl rfl (fun h512 => ?_) (fun h512 => ?_)
    · refine X.cut [(0, zr 4 41)] i105_38 rfl ?_
      refine X.aload_n 39 i105_38 rfl rfl rfl ?_
      refine X.dup 40 i105_39 rfl rfl rfl ?_
      refine X.getI 43 7 i105_40 rfl rfl (by decide) rfl rfl rfl ?_
      refine X.iconst 44 i105_43 rfl rfl (by decide) ?_
      refine X.iadd 45 i105_44 rfl rfl (by omega) ?_
      refine X.putI' 48 7 i105_45 rfl rfl (by decide) rfl rfl rfl (fun hrm513 m513 hm513 => ?_)
      have hJ514 := w41_7 hJ502 hm513 (by omega)
      have em513 : m513 4 41 7 = ((m501 4 41 7) + 1) := by rw [hm513]; exact z_upd_same _ _ _ _ _
      refine X.iconst 49 i105_48 rfl rfl (by decide) ?_
      refine X.retz i105_49 rfl t105 (by omega) ?_
      exact hQ 1 m513 (by first | trivial | omega) (hJ514.up (by omega)) 
    · refine X.cut [(0, zr 4 41)] i105_28 rfl ?_
      refine X.aload_n 29 i105_28 rfl rfl rfl ?_
      refine X.iconst 30 i105_29 rfl rfl (by decide) ?_
      refine X.aload_n 31 i105_30 rfl rfl rfl ?_
      refine X.getI 34 7 i105_31 rfl rfl (by decide) rfl rfl rfl ?_
      refine X.callv 37 [zi 1, zi (m501 4 41 7)] [] [(0, zr 4 41), (1, zi 1), (2, zi (m501 4 41 7))] i105_34 rfl (by decide) rfl rfl (by omega) rfl rfl (by decide) rfl t102 (Nat.le_of_ble_eq_true rfl) (Nat.le_of_ble_eq_true rfl) rfl ?_
      refine X.aload_n 1 i102_0 rfl rfl rfl ?_
      refine X.iload_n 2 i102_1 rfl rfl rfl ?_
      refine X.putI' 5 4 i102_2 rfl rfl (by decide) rfl rfl rfl (fun hrm515 m515 hm515 => ?_)
      have hJ516 := w41_4 hJ502 hm515 (by omega) hrm515
      refine X.aload_n 6 i102_5 rfl rfl rfl ?_
      refine X.iload_n 7 i102_6 rfl rfl rfl ?_
      refine X.putI' 10 5 i102_7 rfl rfl (by decide) rfl rfl rfl (fun hrm517 m517 hm517 => ?_)
      have hJ518 := w41_4 hJ516 hm517 (by omega) hrm517
      refine X.iconst 11 i102_10 rfl rfl (by decide) ?_
      refine X.retz i102_11 rfl t102 (by omega) ?_
      show X (EE s) d 105 37 [(0, zr 4 41)] [zi 0] m517 _
      refine X.retz i105_37 rfl t105 (by omega) ?_
      exact hQ 0 m517 (by first | trivial | omega) (hJ518.up (by omega)) 
theorem l100_14_6 {s : Nat × (Nat → Int32)} {S : zS} {m0 : zM} {d : Nat} {Q : Option zV → zM → Prop} (y1 : Int) (BE : Int) (hE : BE ≤ 1000000000) (hd : 13 ≤ d) (hy1 : 59 ≤ y1 ∧ y1 ≤ 59)
    (K76 : ∀ (x2 : Int) (m' : zM) (B' : Int), J S m0 B' m' → B' ≤ BE → (0 ≤ x2 ∧ x2 ≤ 1000000) → X (EE s) d 100 76 [(0, zr 4 41), (1, zi y1), (2, zi x2)] [] m' Q) :
    ∀ (n : Nat) (y2 : Int) (m : zM) (B : Int), J S m0 B m → B + 0 * (n : Int) ≤ BE → (0 ≤ y2 ∧ y2 ≤ 1000000) → 300 - m 4 41 7 < (n : Int) → X (EE s) d 100 14 [(0, zr 4 41), (1, zi y1), (2, zi y2)] [] m Q := by
  intro n
  induction n with
  | zero =>
    intro y2 m B hJ hB  hy2 hn
    have zf0 := r41_7 hJ 4
    exfalso
    omega
  | succ n ih =>
    intro y2 m B hJ hB  hy2 hn
    refine X.aload_n 15 i100_14 rfl rfl rfl ?_
    refine X.getI 18 7 i100_15 rfl rfl (by decide) rfl rfl rfl ?_
    have h512 := r41_7 hJ 4
    refine X.aload_n 19 i100_18 rfl rfl rfl ?_
    refine X.getI 22 3 i100_19 rfl rfl (by decide) rfl rfl rfl ?_
    have h513 := r41_3 hJ 4
    refine X.icmpge 76 25 i100_22 rfl rfl rfl (fun h514 => ?_) (fun h514 => ?_)
    · exact K76 y2 m (B) (hJ.up (by omega)) (by omega)  (by first | trivial | omega)
    · refine X.aload_n 26 i100_25 rfl rfl rfl ?_
      refine X.getF 29 i100_26 rfl rfl (by decide) rfl rfl ?_
      refine X.aload_n 30 i100_29 rfl rfl rfl ?_
      refine X.getI 33 7 i100_30 rfl rfl (by decide) rfl rfl rfl ?_
      refine X.iald 34 i100_33 rfl rfl (by decide) rfl (by omega) ?_
      have h515 := r42_0 hJ 4 (i := (m 4 41 7)) (by omega)
      refine X.calls 37 [zi (m 4 42 (m 4 41 7))] [] [(0, zi (m 4 42 (m 4 41 7)))] i100_34 (by decide) rfl rfl (by omega) rfl rfl t101 (Nat.le_of_ble_eq_true rfl) (Nat.le_of_ble_eq_true rfl) rfl ?_
      refine X.iload_n 1 i101_0 rfl rfl rfl ?_
      refine X.bipush 3 i101_1 rfl rfl (by decide) ?_
      refine X.icmplt 16 6 i101_3 rfl rfl rfl (fun h516 => ?_) (fun h516 => ?_)
      · refine X.cut [] i101_16 rfl ?_
        refine X.iconst 17 i101_16 rfl rfl (by decide) ?_
        refine X.retz i101_17 rfl t101 (by omega) ?_
        show X (EE s) d 100 37 [(0, zr 4 41), (1, zi y1), (2, zi y2)] [zi 0] m _
        refine X.ifeq 76 40 i100_37 rfl rfl rfl (fun h517 => ?_) (fun h517 => (by exfalso; omega))
        exact K76 y2 m (B) (hJ.up (by omega)) (by omega)  (by first | trivial | omega)
      · refine X.iload_n 7 i101_6 rfl rfl rfl ?_
        refine X.bipush 9 i101_7 rfl rfl (by decide) ?_
        refine X.icmpgt 16 12 i101_9 rfl rfl rfl (fun h518 => ?_) (fun h518 => ?_)
        · refine X.cut [] i101_16 rfl ?_
          refine X.iconst 17 i101_16 rfl rfl (by decide) ?_
          refine X.retz i101_17 rfl t101 (by omega) ?_
          show X (EE s) d 100 37 [(0, zr 4 41), (1, zi y1), (2, zi y2)] [zi 0] m _
          refine X.ifeq 76 40 i100_37 rfl rfl rfl (fun h519 => ?_) (fun h519 => (by exfalso; omega))
          exact K76 y2 m (B) (hJ.up (by omega)) (by omega)  (by first | trivial | omega)
        · refine X.iconst 13 i101_12 rfl rfl (by decide) ?_
          refine X.goto 17 i101_13 rfl rfl ?_
          refine X.cut [] i101_17 rfl ?_
          refine X.retz i101_17 rfl t101 (by omega) ?_
          show X (EE s) d 100 37 [(0, zr 4 41), (1, zi y1), (2, zi y2)] [zi 1] m _
          refine X.ifeq 76 40 i100_37 rfl rfl rfl (fun h520 => (by exfalso; omega)) (fun h520 => ?_)
          refine X.iload_n 41 i100_40 rfl rfl rfl ?_
          refine X.bipush 43 i100_41 rfl rfl (by decide) ?_
          refine X.imul 44 i100_43 rfl rfl (by omega) ?_
          refine X.aload_n 45 i100_44 rfl rfl rfl ?_
          refine X.getF 48 i100_45 rfl rfl (by decide) rfl rfl ?_
          refine X.aload_n 49 i100_48 rfl rfl rfl ?_
          refine X.getI 52 7 i100_49 rfl rfl (by decide) rfl rfl rfl ?_
          refine X.iald 53 i100_52 rfl rfl (by decide) rfl (by omega) ?_
          refine X.iadd 54 i100_53 rfl rfl (by omega) ?_
          refine X.bipush 56 i100_54 rfl rfl (by decide) ?_
          refine X.isub 57 i100_56 rfl rfl (by omega) ?_
          refine X.ldc 59 i100_57 rfl rfl (by decide) ?_
          refine X.minI 62 i100_59 rfl rfl (by omega) (Nat.le_of_ble_eq_true rfl) ?_
          refine X.istore_n 63 [(0, zr 4 41), (1, zi y1), (2, zi (min (((y2 * 10) + (m 4 42 (m 4 41 7))) - 48) 1000000))] i100_62 rfl rfl rfl ?_
          refine X.aload_n 64 i100_63 rfl rfl rfl ?_
          refine X.dup 65 i100_64 rfl rfl rfl ?_
          refine X.getI 68 7 i100_65 rfl rfl (by decide) rfl rfl rfl ?_
          refine X.iconst 69 i100_68 rfl rfl (by decide) ?_
          refine X.iadd 70 i100_69 rfl rfl (by omega) ?_
          refine X.putI' 73 7 i100_70 rfl rfl (by decide) rfl rfl rfl (fun hrm521 m521 hm521 => ?_)
          have hJ522 := w41_7 hJ hm521 (by omega)
          have em521 : m521 4 41 7 = ((m 4 41 7) + 1) := by rw [hm521]; exact z_upd_same _ _ _ _ _
          refine X.goto 14 i100_73 rfl rfl ?_
          exact ih (min (((y2 * 10) + (m 4 42 (m 4 41 7))) - 48) 1000000) m521 (B) (hJ522.up (by omega)) (by omega)  (by omega) (by omega)
-- WorkMeter$CalendarText.readNumber
theorem c100_6 {s : Nat × (Nat → Int32)} {S : zS} {m0 m : zM} {B : Int} {d : Nat} {Q : Option zV → zM → Prop} (a1 : Int) (hd : 14 ≤ d) (hJ : J S m0 B m) (hB : B + 0 ≤ 1000000000) (ha1 : 59 ≤ a1 ∧ a1 ≤ 59) (hQ : ∀ (v : Int) m', ((-1) ≤ v ∧ v ≤ 59) → J S m0 (B) m' → Q (some (zi v)) m') : X (EE s) d 100 0 [(0, zr 4 41), (1, zi a1)] [] m Q := by
  refine X.aload_n 1 i100_0 rfl rfl rfl ?_
  refine X.callv 4 [] [] [(0, zr 4 41)] i100_1 rfl (by decide) rfl rfl (by omega) rfl rfl (by decide) rfl t93 (Nat.le_of_ble_eq_true rfl) (Nat.le_of_ble_eq_true rfl) rfl ?_
  refine c93_1 (B := B)   (by omega) (hJ.up (by omega)) (by omega)  (fun m501 hJ502 => ?_)
  show X (EE s) d 100 4 [(0, zr 4 41), (1, zi a1)] [] m501 _
  refine X.aload_n 5 i100_4 rfl rfl rfl ?_
  refine X.aload_n 6 i100_5 rfl rfl rfl ?_
  refine X.getI 9 7 i100_6 rfl rfl (by decide) rfl rfl rfl ?_
  have h504 := r41_7 hJ502 4
  refine X.putI' 12 8 i100_9 rfl rfl (by decide) rfl rfl rfl (fun hrm505 m505 hm505 => ?_)
  have hJ506 := w41_8 hJ502 hm505 (by omega) hrm505
  refine X.iconst 13 i100_12 rfl rfl (by decide) ?_
  refine X.istore_n 14 [(0, zr 4 41), (1, zi a1), (2, zi 0)] i100_13 rfl rfl rfl ?_
  refine l100_14_6 (s := s) (S := S) (m0 := m0) (d := d)  a1 (BE := B + 0) (by omega) (by omega) (by omega) (fun y507 m508 B509 hJ510 hBB509 hby507 => ?_) ((300 - m505 4 41 7 : Int).toNat + 1) 0 m505 (B) (hJ506.up (by omega)) (by omega)  (by omega) (by omega)
  refine X.aload_n 77 i100_76 rfl rfl rfl ?_
  refine X.getI 80 7 i100_77 rfl rfl (by decide) rfl rfl rfl ?_
  have h511 := r41_7 hJ510 4
  refine X.aload_n 81 i100_80 rfl rfl rfl ?_
  refine X.getIr 84 8 i100_81 rfl rfl (by decide) rfl rfl rfl (fun h512 => ?_)
  refine X.icmpne 99 87 i100_84 rfl rfl rfl (fun h513 => ?_) (fun h513 => ?_)
  · refine X.iload_n 100 i100_99 rfl rfl rfl ?_
    refine X.iload_n 101 i100_100 rfl rfl rfl ?_
    refine X.icmple 116 104 i100_101 rfl rfl rfl (fun h514 => ?_) (fun h514 => ?_)
    · refine X.cut [(2, zi y507)] i100_116 rfl ?_
      refine X.iload_n 117 i100_116 rfl rfl rfl ?_
      refine X.reti i100_117 rfl t100 ?_
      exact hQ y507 m508 (by first | trivial | omega) (hJ510.up (by omega)) 
    · refine X.aload_n 105 i100_104 rfl rfl rfl ?_
      refine X.iconst 106 i100_105 rfl rfl (by decide) ?_
      refine X.aload_n 107 i100_106 rfl rfl rfl ?_
      refine X.getI 110 8 i100_107 rfl rfl (by decide) rfl rfl rfl ?_
      refine X.callv 113 [zi 2, zi (m508 4 41 8)] [] [(0, zr 4 41), (1, zi 2), (2, zi (m508 4 41 8))] i100_110 rfl (by decide) rfl rfl (by omega) rfl rfl (by decide) rfl t102 (Nat.le_of_ble_eq_true rfl) (Nat.le_of_ble_eq_true rfl) rfl ?_
      refine X.aload_n 1 i102_0 rfl rfl rfl ?_
      refine X.iload_n 2 i102_1 rfl rfl rfl ?_
      refine X.putI' 5 4 i102_2 rfl rfl (by decide) rfl rfl rfl (fun hrm515 m515 hm515 => ?_)
      have hJ516 := w41_4 hJ510 hm515 (by omega) hrm515
      refine X.aload_n 6 i102_5 rfl rfl rfl ?_
      refine X.iload_n 7 i102_6 rfl rfl rfl ?_
      refine X.putI' 10 5 i102_7 rfl rfl (by decide) rfl rfl rfl (fun hrm517 m517 hm517 => ?_)
      have hJ518 := w41_4 hJ516 hm517 (by omega) hrm517
      refine X.iconst 11 i102_10 rfl rfl (by decide) ?_
      refine X.retz i102_11 rfl t102 (by omega) ?_
      show X (EE s) d 100 113 [(0, zr 4 41), (1, zi a1), (2, zi y507)] [zi 0] m517 _
      refine X.pop 114 i100_113 rfl rfl rfl ?_
      refine X.iconst 115 i100_114 rfl rfl (by decide) ?_
      refine X.reti i100_115 rfl t100 ?_
      exact hQ (-1) m517 (by first | trivial | omega) (hJ518.up (by omega)) 
  · refine X.aload_n 88 i100_87 rfl rfl rfl ?_
    refine X.iconst 89 i100_88 rfl rfl (by decide) ?_
    refine X.aload_n 90 i100_89 rfl rfl rfl ?_
    refine X.getI 93 8 i100_90 rfl rfl (by decide) rfl rfl rfl ?_
    refine X.callv 96 [zi 1, zi (m508 4 41 8)] [] [(0, zr 4 41), (1, zi 1), (2, zi (m508 4 41 8))] i100_93 rfl (by decide) rfl rfl (by omega) rfl rfl (by decide) rfl t102 (Nat.le_of_ble_eq_true rfl) (Nat.le_of_ble_eq_true rfl) rfl ?_
    refine X.aload_n 1 i102_0 rfl rfl rfl ?_
    refine X.iload_n 2 i102_1 rfl rfl rfl ?_
    refine X.putI' 5 4 i102_2 rfl rfl (by decide) rfl rfl rfl (fun hrm519 m519 hm519 => ?_)
    have hJ520 := w41_4 hJ510 hm519 (by omega) hrm519
    refine X.aload_n 6 i102_5 rfl rfl rfl ?_
    refine X.iload_n 7 i102_6 rfl rfl rfl ?_
    refine X.putI' 10 5 i102_7 rfl rfl (by decide) rfl rfl rfl (fun hrm521 m521 hm521 => ?_)
    have hJ522 := w41_4 hJ520 hm521 (by omega) hrm521
    refine X.iconst 11 i102_10 rfl rfl (by decide) ?_
    refine X.retz i102_11 rfl t102 (by omega) ?_
    show X (EE s) d 100 96 [(0, zr 4 41), (1, zi a1), (2, zi y507)] [zi 0] m521 _
    refine X.pop 97 i100_96 rfl rfl rfl ?_
    refine X.iconst 98 i100_97 rfl rfl (by decide) ?_
    refine X.reti i100_98 rfl t100 ?_
    exact hQ (-1) m521 (by first | trivial | omega) (hJ522.up (by omega)) 
-- WorkMeter$CalendarText.readSwitch
theorem c104_1 {s : Nat × (Nat → Int32)} {S : zS} {m0 m : zM} {B : Int} {d : Nat} {Q : Option zV → zM → Prop} (a1 : Int) (hd : 16 ≤ d) (hJ : J S m0 B m) (hB : B + 0 ≤ 1000000000) (ha1 : 0 ≤ a1 ∧ a1 ≤ 7) (hQ : ∀ (v : Int) m', (0 ≤ v ∧ v ≤ 1) → J S m0 (B) m' → Q (some (zi v)) m') : X (EE s) d 104 0 [(0, zr 4 41), (1, zi a1)] [] m Q := by
  refine X.aload_n 1 i104_0 rfl rfl rfl ?_
  refine X.bipush 3 i104_1 rfl rfl (by decide) ?_
  refine X.callv 6 [zi 23] [] [(0, zr 4 41), (1, zi 23)] i104_3 rfl (by decide) rfl rfl (by omega) rfl rfl (by decide) rfl t100 (Nat.le_of_ble_eq_true rfl) (Nat.le_of_ble_eq_true rfl) rfl ?_
  refine c100_5 (B := B)  23 (by omega) (hJ.up (by omega)) (by omega) (by omega) (fun v503 m501 hv503 hJ502 => ?_)
  show X (EE s) d 104 6 [(0, zr 4 41), (1, zi a1)] [zi v503] m501 _
  refine X.istore_n 7 [(0, zr 4 41), (1, zi a1), (2, zi v503)] i104_6 rfl rfl rfl ?_
  refine X.iload_n 8 i104_7 rfl rfl rfl ?_
  refine X.iconst 9 i104_8 rfl rfl (by decide) ?_
  refine X.icmpne 14 12 i104_9 rfl rfl rfl (fun h504 => ?_) (fun h504 => ?_)
  · refine X.aload_n 15 i104_14 rfl rfl rfl ?_
    refine X.getF 18 i104_15 rfl rfl (by decide) rfl rfl ?_
    refine X.getR 21 i104_18 rfl rfl (by decide) rfl rfl ?_
    refine X.iload_n 22 i104_21 rfl rfl rfl ?_
    refine X.iald 23 i104_22 rfl rfl (by decide) rfl (by omega) ?_
    have h505 := r12_0 hJ502 3 (i := a1) (by omega)
    refine X.bipush 25 i104_23 rfl rfl (by decide) ?_
    refine X.icmplt 38 28 i104_25 rfl rfl rfl (fun h506 => ?_) (fun h506 => ?_)
    · refine X.aload_n 39 i104_38 rfl rfl rfl ?_
      refine X.bipush 41 i104_39 rfl rfl (by decide) ?_
      refine X.callv 44 [zi 58] [] [(0, zr 4 41), (1, zi 58)] i104_41 rfl (by decide) rfl rfl (by omega) rfl rfl (by decide) rfl t105 (Nat.le_of_ble_eq_true rfl) (Nat.le_of_ble_eq_true rfl) rfl ?_
      refine c105_1 (B := B)  58 (by omega) (hJ502.up (by omega)) (by omega) (by omega) (fun v509 m507 hv509 hJ508 => ?_)
      show X (EE s) d 104 44 [(0, zr 4 41), (1, zi a1), (2, zi v503)] [zi v509] m507 _
      refine X.ifne 49 47 i104_44 rfl rfl rfl (fun h510 => ?_) (fun h510 => ?_)
      · refine X.aload_n 50 i104_49 rfl rfl rfl ?_
        refine X.bipush 52 i104_50 rfl rfl (by decide) ?_
        refine X.callv 55 [zi 59] [] [(0, zr 4 41), (1, zi 59)] i104_52 rfl (by decide) rfl rfl (by omega) rfl rfl (by decide) rfl t100 (Nat.le_of_ble_eq_true rfl) (Nat.le_of_ble_eq_true rfl) rfl ?_
        refine c100_6 (B := B)  59 (by omega) (hJ508.up (by omega)) (by omega) (by omega) (fun v513 m511 hv513 hJ512 => ?_)
        show X (EE s) d 104 55 [(0, zr 4 41), (1, zi a1), (2, zi v503)] [zi v513] m511 _
        refine X.istore_n 56 [(0, zr 4 41), (1, zi a1), (2, zi v503), (3, zi v513)] i104_55 rfl rfl rfl ?_
        refine X.iload_n 57 i104_56 rfl rfl rfl ?_
        refine X.iconst 58 i104_57 rfl rfl (by decide) ?_
        refine X.icmpne 63 61 i104_58 rfl rfl rfl (fun h514 => ?_) (fun h514 => ?_)
        · refine X.iload_n 64 i104_63 rfl rfl rfl ?_
          refine X.sipush 67 i104_64 rfl rfl (by decide) ?_
          refine X.imul 68 i104_67 rfl rfl (by omega) ?_
          refine X.iload_n 69 i104_68 rfl rfl rfl ?_
          refine X.bipush 71 i104_69 rfl rfl (by decide) ?_
          refine X.imul 72 i104_71 rfl rfl (by omega) ?_
          refine X.iadd 73 i104_72 rfl rfl (by omega) ?_
          refine X.istore 75 [(0, zr 4 41), (1, zi a1), (2, zi v503), (3, zi v513), (4, zi ((v503 * 3600) + (v513 * 60)))] i104_73 rfl rfl rfl ?_
          refine X.aload_n 76 i104_75 rfl rfl rfl ?_
          refine X.getF 79 i104_76 rfl rfl (by decide) rfl rfl ?_
          refine X.iload_n 80 i104_79 rfl rfl rfl ?_
          refine X.iload 82 i104_80 rfl rfl rfl ?_
          refine X.callv 85 [zi a1, zi ((v503 * 3600) + (v513 * 60))] [] [(0, zr 3 11), (1, zi a1), (2, zi ((v503 * 3600) + (v513 * 60)))] i104_82 rfl (by decide) rfl rfl (by omega) rfl rfl (by decide) rfl t82 (Nat.le_of_ble_eq_true rfl) (Nat.le_of_ble_eq_true rfl) rfl ?_
          refine c82_1 (B := B) 3 a1 ((v503 * 3600) + (v513 * 60)) (by omega) (hJ512.up (by omega)) (by omega) (by omega) (by omega) (fun v517 hv517 hqv5170 => ?_)
          show X (EE s) d 104 85 [(0, zr 4 41), (1, zi a1), (2, zi v503), (3, zi v513), (4, zi ((v503 * 3600) + (v513 * 60)))] [zi v517] m511 _
          refine X.ifeq 98 88 i104_85 rfl rfl rfl (fun h518 => ?_) (fun h518 => ?_)
          · refine X.cut [(0, zr 4 41), (1, zi a1), (4, zi ((v503 * 3600) + (v513 * 60)))] i104_98 rfl ?_
            refine X.aload_n 99 i104_98 rfl rfl rfl ?_
            refine X.iconst 100 i104_99 rfl rfl (by decide) ?_
            refine X.callv 103 [zi 3] [] [(0, zr 4 41), (1, zi 3)] i104_100 rfl (by decide) rfl rfl (by omega) rfl rfl (by decide) rfl t100 (Nat.le_of_ble_eq_true rfl) (Nat.le_of_ble_eq_true rfl) rfl ?_
            refine c100_4 (B := B)  3 (by omega) (hJ512.up (by omega)) (by omega) (by omega) (fun v521 m519 hv521 hJ520 => ?_)
            show X (EE s) d 104 103 [(0, zr 4 41), (1, zi a1), (4, zi ((v503 * 3600) + (v513 * 60)))] [zi v521] m519 _
            refine X.istore 105 [(0, zr 4 41), (1, zi a1), (4, zi ((v503 * 3600) + (v513 * 60))), (5, zi v521)] i104_103 rfl rfl rfl ?_
            refine X.iload 107 i104_105 rfl rfl rfl ?_
            refine X.iconst 108 i104_107 rfl rfl (by decide) ?_
            refine X.icmpne 113 111 i104_108 rfl rfl rfl (fun h522 => ?_) (fun h522 => ?_)
            · refine X.aload_n 114 i104_113 rfl rfl rfl ?_
              refine X.getF 117 i104_114 rfl rfl (by decide) rfl rfl ?_
              refine X.iload_n 118 i104_117 rfl rfl rfl ?_
              refine X.iload 120 i104_118 rfl rfl rfl ?_
              refine X.iload 122 i104_120 rfl rfl rfl ?_
              refine X.callv 125 [zi a1, zi ((v503 * 3600) + (v513 * 60)), zi v521] [] [(0, zr 3 11), (1, zi a1), (2, zi ((v503 * 3600) + (v513 * 60))), (3, zi v521)] i104_122 rfl (by decide) rfl rfl (by omega) rfl rfl (by decide) rfl t81 (Nat.le_of_ble_eq_true rfl) (Nat.le_of_ble_eq_true rfl) rfl ?_
              refine c81_1 (B := B) 3 a1 ((v503 * 3600) + (v513 * 60)) v521 (by omega) (hJ520.up (by omega)) (by omega) (by omega) (by omega) (by omega) (fun v525 m523 hv525 hJ524 => ?_)
              show X (EE s) d 104 125 [(0, zr 4 41), (1, zi a1), (4, zi ((v503 * 3600) + (v513 * 60))), (5, zi v521)] [zi v525] m523 _
              refine X.pop 126 i104_125 rfl rfl rfl ?_
              refine X.iconst 127 i104_126 rfl rfl (by decide) ?_
              refine X.retz i104_127 rfl t104 (by omega) ?_
              exact hQ 1 m523 (by first | trivial | omega) (hJ524.up (by omega)) 
            · refine X.iconst 112 i104_111 rfl rfl (by decide) ?_
              refine X.retz i104_112 rfl t104 (by omega) ?_
              exact hQ 0 m519 (by first | trivial | omega) (hJ520.up (by omega)) 
          · refine X.aload_n 89 i104_88 rfl rfl rfl ?_
            refine X.iconst 90 i104_89 rfl rfl (by decide) ?_
            refine X.aload_n 91 i104_90 rfl rfl rfl ?_
            refine X.getIr 94 8 i104_91 rfl rfl (by decide) rfl rfl rfl (fun h526 => ?_)
            refine X.callv 97 [zi 3, zi (m511 4 41 8)] [] [(0, zr 4 41), (1, zi 3), (2, zi (m511 4 41 8))] i104_94 rfl (by decide) rfl rfl (by omega) rfl rfl (by decide) rfl t102 (Nat.le_of_ble_eq_true rfl) (Nat.le_of_ble_eq_true rfl) rfl ?_
            refine X.aload_n 1 i102_0 rfl rfl rfl ?_
            refine X.iload_n 2 i102_1 rfl rfl rfl ?_
            refine X.putI' 5 4 i102_2 rfl rfl (by decide) rfl rfl rfl (fun hrm527 m527 hm527 => ?_)
            have hJ528 := w41_4 hJ512 hm527 (by omega) hrm527
            refine X.aload_n 6 i102_5 rfl rfl rfl ?_
            refine X.iload_n 7 i102_6 rfl rfl rfl ?_
            refine X.putI' 10 5 i102_7 rfl rfl (by decide) rfl rfl rfl (fun hrm529 m529 hm529 => ?_)
            have hJ530 := w41_4 hJ528 hm529 (by omega) hrm529
            refine X.iconst 11 i102_10 rfl rfl (by decide) ?_
            refine X.retz i102_11 rfl t102 (by omega) ?_
            show X (EE s) d 104 97 [(0, zr 4 41), (1, zi a1), (2, zi v503), (3, zi v513), (4, zi ((v503 * 3600) + (v513 * 60)))] [zi 0] m529 _
            refine X.retz i104_97 rfl t104 (by omega) ?_
            exact hQ 0 m529 (by first | trivial | omega) (hJ530.up (by omega)) 
        · refine X.iconst 62 i104_61 rfl rfl (by decide) ?_
          refine X.retz i104_62 rfl t104 (by omega) ?_
          exact hQ 0 m511 (by first | trivial | omega) (hJ512.up (by omega)) 
      · refine X.iconst 48 i104_47 rfl rfl (by decide) ?_
        refine X.retz i104_48 rfl t104 (by omega) ?_
        exact hQ 0 m507 (by first | trivial | omega) (hJ508.up (by omega)) 
    · refine X.aload_n 29 i104_28 rfl rfl rfl ?_
      refine X.iconst 30 i104_29 rfl rfl (by decide) ?_
      refine X.aload_n 31 i104_30 rfl rfl rfl ?_
      refine X.getIr 34 8 i104_31 rfl rfl (by decide) rfl rfl rfl (fun h531 => ?_)
      refine X.callv 37 [zi 4, zi (m501 4 41 8)] [] [(0, zr 4 41), (1, zi 4), (2, zi (m501 4 41 8))] i104_34 rfl (by decide) rfl rfl (by omega) rfl rfl (by decide) rfl t102 (Nat.le_of_ble_eq_true rfl) (Nat.le_of_ble_eq_true rfl) rfl ?_
      refine X.aload_n 1 i102_0 rfl rfl rfl ?_
      refine X.iload_n 2 i102_1 rfl rfl rfl ?_
      refine X.putI' 5 4 i102_2 rfl rfl (by decide) rfl rfl rfl (fun hrm532 m532 hm532 => ?_)
      have hJ533 := w41_4 hJ502 hm532 (by omega) hrm532
      refine X.aload_n 6 i102_5 rfl rfl rfl ?_
      refine X.iload_n 7 i102_6 rfl rfl rfl ?_
      refine X.putI' 10 5 i102_7 rfl rfl (by decide) rfl rfl rfl (fun hrm534 m534 hm534 => ?_)
      have hJ535 := w41_4 hJ533 hm534 (by omega) hrm534
      refine X.iconst 11 i102_10 rfl rfl (by decide) ?_
      refine X.retz i102_11 rfl t102 (by omega) ?_
      show X (EE s) d 104 37 [(0, zr 4 41), (1, zi a1), (2, zi v503)] [zi 0] m534 _
      refine X.retz i104_37 rfl t104 (by omega) ?_
      exact hQ 0 m534 (by first | trivial | omega) (hJ535.up (by omega)) 
  · refine X.iconst 13 i104_12 rfl rfl (by decide) ?_
    refine X.retz i104_13 rfl t104 (by omega) ?_
    exact hQ 0 m501 (by first | trivial | omega) (hJ502.up (by omega)) 
theorem l97_38_1 {s : Nat × (Nat → Int32)} {S : zS} {m0 : zM} {d : Nat} {Q : Option zV → zM → Prop} (y1 : Int) (BE : Int) (hE : BE ≤ 1000000000) (hd : 17 ≤ d) (hy1 : 0 ≤ y1 ∧ y1 ≤ 7)
    (K59 : ∀ (x2 : Int) (m' : zM) (B' : Int), J S m0 B' m' → B' ≤ BE → (0 ≤ x2 ∧ x2 ≤ 6) → X (EE s) d 97 59 [(0, zr 4 41), (1, zi y1), (2, zi x2)] [] m' Q)
    (K67 : ∀ (m' : zM) (B' : Int), J S m0 B' m' → B' ≤ BE → X (EE s) d 97 67 [] [] m' Q) :
    ∀ (n : Nat) (y2 : Int) (m : zM) (B : Int), J S m0 B m → B + 0 * (n : Int) ≤ BE → (0 ≤ y2 ∧ y2 ≤ 7) → 7 - y2 < (n : Int) → X (EE s) d 97 38 [(0, zr 4 41), (1, zi y1), (2, zi y2)] [] m Q := by
  intro n
  induction n with
  | zero =>
    intro y2 m B hJ hB  hy2 hn
    exfalso
    omega
  | succ n ih =>
    intro y2 m B hJ hB  hy2 hn
    refine X.iload_n 39 i97_38 rfl rfl rfl ?_
    refine X.bipush 41 i97_39 rfl rfl (by decide) ?_
    refine X.icmpgt 67 44 i97_41 rfl rfl rfl (fun h510 => ?_) (fun h510 => ?_)
    · refine X.cut [] i97_67 rfl ?_
      exact K67  m (B) (hJ.up (by omega)) (by omega)  
    · refine X.aload_n 45 i97_44 rfl rfl rfl ?_
      refine X.callv 48 [] [] [(0, zr 4 41)] i97_45 rfl (by decide) rfl rfl (by omega) rfl rfl (by decide) rfl t103 (Nat.le_of_ble_eq_true rfl) (Nat.le_of_ble_eq_true rfl) rfl ?_
      refine c103_1 (B := B)   (by omega) (hJ.up (by omega)) (by omega)  (fun v513 m511 hv513 hJ512 => ?_)
      show X (EE s) d 97 48 [(0, zr 4 41), (1, zi y1), (2, zi y2)] [zi v513] m511 _
      refine X.ifeq 67 51 i97_48 rfl rfl rfl (fun h514 => ?_) (fun h514 => ?_)
      · refine X.cut [] i97_67 rfl ?_
        exact K67  m511 (B) (hJ512.up (by omega)) (by omega)  
      · refine X.aload_n 52 i97_51 rfl rfl rfl ?_
        refine X.iload_n 53 i97_52 rfl rfl rfl ?_
        refine X.callv 56 [zi y1] [] [(0, zr 4 41), (1, zi y1)] i97_53 rfl (by decide) rfl rfl (by omega) rfl rfl (by decide) rfl t104 (Nat.le_of_ble_eq_true rfl) (Nat.le_of_ble_eq_true rfl) rfl ?_
        refine c104_1 (B := B)  y1 (by omega) (hJ512.up (by omega)) (by omega) (by omega) (fun v517 m515 hv517 hJ516 => ?_)
        show X (EE s) d 97 56 [(0, zr 4 41), (1, zi y1), (2, zi y2)] [zi v517] m515 _
        refine X.ifne 61 59 i97_56 rfl rfl rfl (fun h518 => ?_) (fun h518 => ?_)
        · refine X.iinc 64 [(0, zr 4 41), (1, zi y1), (2, zi (y2 + 1))] i97_61 rfl rfl rfl (by omega) rfl ?_
          refine X.goto 38 i97_64 rfl rfl ?_
          exact ih (y2 + 1) m515 (B) (hJ516.up (by omega)) (by omega)  (by omega) (by omega)
        · exact K59 y2 m515 (B) (hJ516.up (by omega)) (by omega)  (by first | trivial | omega)
-- WorkMeter$CalendarText.readTable
theorem c97_1 {s : Nat × (Nat → Int32)} {S : zS} {m0 m : zM} {B : Int} {d : Nat} {Q : Option zV → zM → Prop} (hd : 17 ≤ d) (hJ : J S m0 B m) (hB : B + 0 ≤ 1000000000) (hp0 : m 4 41 7 + 5 ≤ 300) (hQ : ∀ (v : Int) m', (0 ≤ v ∧ v ≤ 1) → J S m0 (B) m' → Q (some (zi v)) m') : X (EE s) d 97 0 [(0, zr 4 41)] [] m Q := by
  refine X.aload_n 1 i97_0 rfl rfl rfl ?_
  refine X.ldcS 3 i97_1 rfl rfl (by decide) ?_
  refine X.callv 6 [zr 99 4] [] [(0, zr 4 41), (1, zr 99 4)] i97_3 rfl (by decide) rfl rfl (by omega) rfl rfl (by decide) rfl t98 (Nat.le_of_ble_eq_true rfl) (Nat.le_of_ble_eq_true rfl) rfl ?_
  refine X.aload_n 1 i98_0 rfl rfl rfl ?_
  refine X.dup 2 i98_1 rfl rfl rfl ?_
  refine X.getI 5 7 i98_2 rfl rfl (by decide) rfl rfl rfl ?_
  have h501 := r41_7 hJ 4
  refine X.aload_n 6 i98_5 rfl rfl rfl ?_
  refine X.slen 9 i98_6 rfl rfl (by omega) (Nat.le_of_ble_eq_true rfl) (by decide) (show (5 : Nat) < 2147483648 by decide) ?_
  show X (EE s) (d - 1) 98 9 [(0, zr 4 41), (1, zr 99 4)] [zi 5, zi (m 4 41 7), zr 4 41] m _
  refine X.iadd 10 i98_9 rfl rfl (by omega) ?_
  refine X.putI' 13 7 i98_10 rfl rfl (by decide) rfl rfl rfl (fun hrm502 m502 hm502 => ?_)
  have hJ503 := w41_7 hJ hm502 (by omega)
  have em502 : m502 4 41 7 = ((m 4 41 7) + 5) := by rw [hm502]; exact z_upd_same _ _ _ _ _
  refine X.retv i98_13 rfl t98 ?_
  show X (EE s) d 97 6 [(0, zr 4 41)] [] m502 _
  refine X.aload_n 7 i97_6 rfl rfl rfl ?_
  refine X.bipush 9 i97_7 rfl rfl (by decide) ?_
  refine X.aload_n 10 i97_9 rfl rfl rfl ?_
  refine X.getIr 13 9 i97_10 rfl rfl (by decide) rfl rfl rfl (fun h504 => ?_)
  refine X.callv 16 [zi 7, zi (m502 4 41 9)] [] [(0, zr 4 41), (1, zi 7), (2, zi (m502 4 41 9))] i97_13 rfl (by decide) rfl rfl (by omega) rfl rfl (by decide) rfl t99 (Nat.le_of_ble_eq_true rfl) (Nat.le_of_ble_eq_true rfl) rfl ?_
  refine c99_2 (B := B)  7 (m502 4 41 9) (by omega) (hJ503.up (by omega)) (by omega) (by omega) (by omega) (fun v507 m505 hv507 hJ506 => ?_)
  show X (EE s) d 97 16 [(0, zr 4 41)] [zi v507] m505 _
  refine X.istore_n 17 [(0, zr 4 41), (1, zi v507)] i97_16 rfl rfl rfl ?_
  refine X.iload_n 18 i97_17 rfl rfl rfl ?_
  refine X.iconst 19 i97_18 rfl rfl (by decide) ?_
  refine X.icmpne 24 22 i97_19 rfl rfl rfl (fun h508 => ?_) (fun h508 => ?_)
  · refine X.aload_n 25 i97_24 rfl rfl rfl ?_
    refine X.dup 26 i97_25 rfl rfl rfl ?_
    refine X.getIr 29 9 i97_26 rfl rfl (by decide) rfl rfl rfl (fun h509 => ?_)
    refine X.iconst 30 i97_29 rfl rfl (by decide) ?_
    refine X.iload_n 31 i97_30 rfl rfl rfl ?_
    refine X.iiF 32 .ishl (fun x y => x <<< (y &&& 31)) i97_31 rfl rfl rfl (fun _ _ => rfl) (fun z510 hz510 => ?_)
    refine X.iiF 33 .ior (fun x y => x ||| y) i97_32 rfl rfl rfl (fun _ _ => rfl) (fun z511 hz511 => ?_)
    refine X.putI' 36 9 i97_33 rfl rfl (by decide) rfl rfl rfl (fun hrm512 m512 hm512 => ?_)
    have hJ513 := w41_8 hJ506 hm512 (by omega) hrm512
    refine X.iconst 37 i97_36 rfl rfl (by decide) ?_
    refine X.istore_n 38 [(0, zr 4 41), (1, zi v507), (2, zi 0)] i97_37 rfl rfl rfl ?_
    refine l97_38_1 (s := s) (S := S) (m0 := m0) (d := d)  v507 (BE := B + 0) (by omega) (by omega) (by omega) (fun y514 m515 B516 hJ517 hBB516 hby514 => ?_) (fun  m518 B519 hJ520 hBB519 => ?_) ((7 - 0 : Int).toNat + 1) 0 m512 (B) (hJ513.up (by omega)) (by omega)  (by omega) (by omega)
    · refine X.iconst 60 i97_59 rfl rfl (by decide) ?_
      refine X.retz i97_60 rfl t97 (by omega) ?_
      exact hQ 0 m515 (by first | trivial | omega) (hJ517.up (by omega)) 
    · refine X.iconst 68 i97_67 rfl rfl (by decide) ?_
      refine X.retz i97_68 rfl t97 (by omega) ?_
      exact hQ 1 m518 (by first | trivial | omega) (hJ520.up (by omega)) 
  · refine X.iconst 23 i97_22 rfl rfl (by decide) ?_
    refine X.retz i97_23 rfl t97 (by omega) ?_
    exact hQ 0 m505 (by first | trivial | omega) (hJ506.up (by omega)) 
-- WorkMeter$CalendarText.readLine
theorem c94_1 {s : Nat × (Nat → Int32)} {S : zS} {m0 m : zM} {B : Int} {d : Nat} {Q : Option zV → zM → Prop} (hd : 18 ≤ d) (hJ : J S m0 B m) (hB : B + 0 ≤ 1000000000) (hQ : ∀ (v : Int) m', (0 ≤ v ∧ v ≤ 1) → J S m0 (B) m' → Q (some (zi v)) m') : X (EE s) d 94 0 [(0, zr 4 41)] [] m Q := by
  refine X.aload_n 1 i94_0 rfl rfl rfl ?_
  refine X.callv 4 [] [] [(0, zr 4 41)] i94_1 rfl (by decide) rfl rfl (by omega) rfl rfl (by decide) rfl t95 (Nat.le_of_ble_eq_true rfl) (Nat.le_of_ble_eq_true rfl) rfl ?_
  refine c95_1 (B := B)   (by omega) (hJ.up (by omega)) (by omega)  (fun v503 hv503 => ?_)
  show X (EE s) d 94 4 [(0, zr 4 41)] [zi v503] m _
  refine X.istore_n 5 [(0, zr 4 41), (1, zi v503)] i94_4 rfl rfl rfl ?_
  refine X.aload_n 6 i94_5 rfl rfl rfl ?_
  refine X.ldcS 8 i94_6 rfl rfl (by decide) ?_
  refine X.iload_n 9 i94_8 rfl rfl rfl ?_
  refine X.callv 12 [zr 99 4, zi v503] [] [(0, zr 4 41), (1, zr 99 4), (2, zi v503)] i94_9 rfl (by decide) rfl rfl (by omega) rfl rfl (by decide) rfl t96 (Nat.le_of_ble_eq_true rfl) (Nat.le_of_ble_eq_true rfl) rfl ?_
  refine c96_1 (B := B)  v503 (by omega) (hJ.up (by omega)) (by omega) (by omega) (fun v506 hv506 hqv5060 => ?_)
  show X (EE s) d 94 12 [(0, zr 4 41), (1, zi v503)] [zi v506] m _
  refine X.ifeq 20 15 i94_12 rfl rfl rfl (fun h507 => ?_) (fun h507 => ?_)
  · refine X.aload_n 21 i94_20 rfl rfl rfl ?_
    refine X.ldcS 23 i94_21 rfl rfl (by decide) ?_
    refine X.iload_n 24 i94_23 rfl rfl rfl ?_
    refine X.callv 27 [zr 99 5, zi v503] [] [(0, zr 4 41), (1, zr 99 5), (2, zi v503)] i94_24 rfl (by decide) rfl rfl (by omega) rfl rfl (by decide) rfl t96 (Nat.le_of_ble_eq_true rfl) (Nat.le_of_ble_eq_true rfl) rfl ?_
    refine c96_2 (B := B)  v503 (by omega) (hJ.up (by omega)) (by omega) (by omega) (fun v510 hv510 hqv5100 => ?_)
    show X (EE s) d 94 27 [(0, zr 4 41), (1, zi v503)] [zi v510] m _
    refine X.ifeq 35 30 i94_27 rfl rfl rfl (fun h511 => ?_) (fun h511 => ?_)
    · refine X.aload_n 36 i94_35 rfl rfl rfl ?_
      refine X.ldcS 38 i94_36 rfl rfl (by decide) ?_
      refine X.iload_n 39 i94_38 rfl rfl rfl ?_
      refine X.callv 42 [zr 99 6, zi v503] [] [(0, zr 4 41), (1, zr 99 6), (2, zi v503)] i94_39 rfl (by decide) rfl rfl (by omega) rfl rfl (by decide) rfl t96 (Nat.le_of_ble_eq_true rfl) (Nat.le_of_ble_eq_true rfl) rfl ?_
      refine c96_3 (B := B)  v503 (by omega) (hJ.up (by omega)) (by omega) (by omega) (fun v514 hv514 hqv5140 => ?_)
      show X (EE s) d 94 42 [(0, zr 4 41), (1, zi v503)] [zi v514] m _
      refine X.ifeq 50 45 i94_42 rfl rfl rfl (fun h515 => ?_) (fun h515 => ?_)
      · refine X.aload_n 51 i94_50 rfl rfl rfl ?_
        refine X.ldcS 53 i94_51 rfl rfl (by decide) ?_
        refine X.iload_n 54 i94_53 rfl rfl rfl ?_
        refine X.callv 57 [zr 99 7, zi v503] [] [(0, zr 4 41), (1, zr 99 7), (2, zi v503)] i94_54 rfl (by decide) rfl rfl (by omega) rfl rfl (by decide) rfl t96 (Nat.le_of_ble_eq_true rfl) (Nat.le_of_ble_eq_true rfl) rfl ?_
        refine c96_4 (B := B)  v503 (by omega) (hJ.up (by omega)) (by omega) (by omega) (fun v518 hv518 hqv5180 => ?_)
        show X (EE s) d 94 57 [(0, zr 4 41), (1, zi v503)] [zi v518] m _
        refine X.ifeq 65 60 i94_57 rfl rfl rfl (fun h519 => ?_) (fun h519 => ?_)
        · refine X.cut [(0, zr 4 41)] i94_65 rfl ?_
          refine X.aload_n 66 i94_65 rfl rfl rfl ?_
          refine X.iconst 67 i94_66 rfl rfl (by decide) ?_
          refine X.aload_n 68 i94_67 rfl rfl rfl ?_
          refine X.getI 71 7 i94_68 rfl rfl (by decide) rfl rfl rfl ?_
          have h520 := r41_7 hJ 4
          refine X.callv 74 [zi 1, zi (m 4 41 7)] [] [(0, zr 4 41), (1, zi 1), (2, zi (m 4 41 7))] i94_71 rfl (by decide) rfl rfl (by omega) rfl rfl (by decide) rfl t102 (Nat.le_of_ble_eq_true rfl) (Nat.le_of_ble_eq_true rfl) rfl ?_
          refine X.aload_n 1 i102_0 rfl rfl rfl ?_
          refine X.iload_n 2 i102_1 rfl rfl rfl ?_
          refine X.putI' 5 4 i102_2 rfl rfl (by decide) rfl rfl rfl (fun hrm521 m521 hm521 => ?_)
          have hJ522 := w41_4 hJ hm521 (by omega) hrm521
          refine X.aload_n 6 i102_5 rfl rfl rfl ?_
          refine X.iload_n 7 i102_6 rfl rfl rfl ?_
          refine X.putI' 10 5 i102_7 rfl rfl (by decide) rfl rfl rfl (fun hrm523 m523 hm523 => ?_)
          have hJ524 := w41_4 hJ522 hm523 (by omega) hrm523
          refine X.iconst 11 i102_10 rfl rfl (by decide) ?_
          refine X.retz i102_11 rfl t102 (by omega) ?_
          show X (EE s) d 94 74 [(0, zr 4 41)] [zi 0] m523 _
          refine X.retz i94_74 rfl t94 (by omega) ?_
          exact hQ 0 m523 (by first | trivial | omega) (hJ524.up (by omega)) 
        · refine X.aload_n 61 i94_60 rfl rfl rfl ?_
          refine X.callv 64 [] [] [(0, zr 4 41)] i94_61 rfl (by decide) rfl rfl (by omega) rfl rfl (by decide) rfl t110 (Nat.le_of_ble_eq_true rfl) (Nat.le_of_ble_eq_true rfl) rfl ?_
          refine c110_1 (B := B)   (by omega) (hJ.up (by omega)) (by omega) (by omega) (fun v527 m525 hv527 hJ526 => ?_)
          show X (EE s) d 94 64 [(0, zr 4 41), (1, zi v503)] [zi v527] m525 _
          refine X.retz i94_64 rfl t94 (by omega) ?_
          exact hQ v527 m525 (by first | trivial | omega) (hJ526.up (by omega)) 
      · refine X.aload_n 46 i94_45 rfl rfl rfl ?_
        refine X.callv 49 [] [] [(0, zr 4 41)] i94_46 rfl (by decide) rfl rfl (by omega) rfl rfl (by decide) rfl t107 (Nat.le_of_ble_eq_true rfl) (Nat.le_of_ble_eq_true rfl) rfl ?_
        refine c107_1 (B := B)   (by omega) (hJ.up (by omega)) (by omega) (by omega) (fun v530 m528 hv530 hJ529 => ?_)
        show X (EE s) d 94 49 [(0, zr 4 41), (1, zi v503)] [zi v530] m528 _
        refine X.retz i94_49 rfl t94 (by omega) ?_
        exact hQ v530 m528 (by first | trivial | omega) (hJ529.up (by omega)) 
    · refine X.aload_n 31 i94_30 rfl rfl rfl ?_
      refine X.callv 34 [] [] [(0, zr 4 41)] i94_31 rfl (by decide) rfl rfl (by omega) rfl rfl (by decide) rfl t106 (Nat.le_of_ble_eq_true rfl) (Nat.le_of_ble_eq_true rfl) rfl ?_
      refine c106_1 (B := B)   (by omega) (hJ.up (by omega)) (by omega) (by omega) (fun v533 m531 hv533 hJ532 => ?_)
      show X (EE s) d 94 34 [(0, zr 4 41), (1, zi v503)] [zi v533] m531 _
      refine X.retz i94_34 rfl t94 (by omega) ?_
      exact hQ v533 m531 (by first | trivial | omega) (hJ532.up (by omega)) 
  · refine X.aload_n 16 i94_15 rfl rfl rfl ?_
    refine X.callv 19 [] [] [(0, zr 4 41)] i94_16 rfl (by decide) rfl rfl (by omega) rfl rfl (by decide) rfl t97 (Nat.le_of_ble_eq_true rfl) (Nat.le_of_ble_eq_true rfl) rfl ?_
    refine c97_1 (B := B)   (by omega) (hJ.up (by omega)) (by omega) (by omega) (fun v536 m534 hv536 hJ535 => ?_)
    show X (EE s) d 94 19 [(0, zr 4 41), (1, zi v503)] [zi v536] m534 _
    refine X.retz i94_19 rfl t94 (by omega) ?_
    exact hQ v536 m534 (by first | trivial | omega) (hJ535.up (by omega)) 
-- WorkMeter$CalendarText.readSign
theorem c105_2 {s : Nat × (Nat → Int32)} {S : zS} {m0 m : zM} {B : Int} {d : Nat} {Q : Option zV → zM → Prop} (a1 : Int) (hd : 14 ≤ d) (hJ : J S m0 B m) (hB : B + 0 ≤ 1000000000) (ha1 : 59 ≤ a1 ∧ a1 ≤ 59) (hQ : ∀ (v : Int) m', (0 ≤ v ∧ v ≤ 1) → J S m0 (B) m' → Q (some (zi v)) m') : X (EE s) d 105 0 [(0, zr 4 41), (1, zi a1)] [] m Q := by
  refine X.aload_n 1 i105_0 rfl rfl rfl ?_
  refine X.callv 4 [] [] [(0, zr 4 41)] i105_1 rfl (by decide) rfl rfl (by omega) rfl rfl (by decide) rfl t93 (Nat.le_of_ble_eq_true rfl) (Nat.le_of_ble_eq_true rfl) rfl ?_
  refine c93_1 (B := B)   (by omega) (hJ.up (by omega)) (by omega)  (fun m501 hJ502 => ?_)
  show X (EE s) d 105 4 [(0, zr 4 41), (1, zi a1)] [] m501 _
  refine X.aload_n 5 i105_4 rfl rfl rfl ?_
  refine X.getI 8 7 i105_5 rfl rfl (by decide) rfl rfl rfl ?_
  have h504 := r41_7 hJ502 4
  refine X.aload_n 9 i105_8 rfl rfl rfl ?_
  refine X.getI 12 3 i105_9 rfl rfl (by decide) rfl rfl rfl ?_
  have h505 := r41_3 hJ502 4
  refine X.icmpge 28 15 i105_12 rfl rfl rfl (fun h506 => ?_) (fun h506 => ?_)
  · refine X.cut [(0, zr 4 41)] i105_28 rfl ?_
    refine X.aload_n 29 i105_28 rfl rfl rfl ?_
    refine X.iconst 30 i105_29 rfl rfl (by decide) ?_
    refine X.aload_n 31 i105_30 rfl rfl rfl ?_
    refine X.getI 34 7 i105_31 rfl rfl (by decide) rfl rfl rfl ?_
    refine X.callv 37 [zi 1, zi (m501 4 41 7)] [] [(0, zr 4 41), (1, zi 1), (2, zi (m501 4 41 7))] i105_34 rfl (by decide) rfl rfl (by omega) rfl rfl (by decide) rfl t102 (Nat.le_of_ble_eq_true rfl) (Nat.le_of_ble_eq_true rfl) rfl ?_
    refine X.aload_n 1 i102_0 rfl rfl rfl ?_
    refine X.iload_n 2 i102_1 rfl rfl rfl ?_
    refine X.putI' 5 4 i102_2 rfl rfl (by decide) rfl rfl rfl (fun hrm507 m507 hm507 => ?_)
    have hJ508 := w41_4 hJ502 hm507 (by omega) hrm507
    refine X.aload_n 6 i102_5 rfl rfl rfl ?_
    refine X.iload_n 7 i102_6 rfl rfl rfl ?_
    refine X.putI' 10 5 i102_7 rfl rfl (by decide) rfl rfl rfl (fun hrm509 m509 hm509 => ?_)
    have hJ510 := w41_4 hJ508 hm509 (by omega) hrm509
    refine X.iconst 11 i102_10 rfl rfl (by decide) ?_
    refine X.retz i102_11 rfl t102 (by omega) ?_
    show X (EE s) d 105 37 [(0, zr 4 41)] [zi 0] m509 _
    refine X.retz i105_37 rfl t105 (by omega) ?_
    exact hQ 0 m509 (by first | trivial | omega) (hJ510.up (by omega)) 
  · refine X.aload_n 16 i105_15 rfl rfl rfl ?_
    refine X.getF 19 i105_16 rfl rfl (by decide) rfl rfl ?_
    refine X.aload_n 20 i105_19 rfl rfl rfl ?_
    refine X.getI 23 7 i105_20 rfl rfl (by decide) rfl rfl rfl ?_
    refine X.iald 24 i105_23 rfl rfl (by decide) rfl (by omega) ?_
    have h511 := r42_0 hJ502 4 (i := (m501 4 41 7)) (by omega)
    refine X.iload_n 25 i105_24 rfl rfl rfl ?_
    refine X.icmpeq 38 28 i105_25 rfl rfl rfl (fun h512 => ?_) (fun h512 => ?_)
    · refine X.cut [(0, zr 4 41)] i105_38 rfl ?_
      refine X.aload_n 39 i105_38 rfl rfl rfl ?_
      refine X.dup 40 i105_39 rfl rfl rfl ?_
      refine X.getI 43 7 i105_40 rfl rfl (by decide) rfl rfl rfl ?_
      refine X.iconst 44 i105_43 rfl rfl (by decide) ?_
      refine X.iadd 45 i105_44 rfl rfl (by omega) ?_
      refine X.putI' 48 7 i105_45 rfl rfl (by decide) rfl rfl rfl (fun hrm513 m513 hm513 => ?_)
      have hJ514 := w41_7 hJ502 hm513 (by omega)
      have em513 : m513 4 41 7 = ((m501 4 41 7) + 1) := by rw [hm513]; exact z_upd_same _ _ _ _ _
      refine X.iconst 49 i105_48 rfl rfl (by decide) ?_
      refine X.retz i105_49 rfl t105 (by omega) ?_
      exact hQ 1 m513 (by first | trivial | omega) (hJ514.up (by omega)) 
    · refine X.cut [(0, zr 4 41)] i105_28 rfl ?_
      refine X.aload_n 29 i105_28 rfl rfl rfl ?_
      refine X.iconst 30 i105_29 rfl rfl (by decide) ?_
      refine X.aload_n 31 i105_30 rfl rfl rfl ?_
      refine X.getI 34 7 i105_31 rfl rfl (by decide) rfl rfl rfl ?_
      refine X.callv 37 [zi 1, zi (m501 4 41 7)] [] [(0, zr 4 41), (1, zi 1), (2, zi (m501 4 41 7))] i105_34 rfl (by decide) rfl rfl (by omega) rfl rfl (by decide) rfl t102 (Nat.le_of_ble_eq_true rfl) (Nat.le_of_ble_eq_true rfl) rfl ?_
      refine X.aload_n 1 i102_0 rfl rfl rfl ?_
      refine X.iload_n 2 i102_1 rfl rfl rfl ?_
      refine X.putI' 5 4 i102_2 rfl rfl (by decide) rfl rfl rfl (fun hrm515 m515 hm515 => ?_)
      have hJ516 := w41_4 hJ502 hm515 (by omega) hrm515
      refine X.aload_n 6 i102_5 rfl rfl rfl ?_
      refine X.iload_n 7 i102_6 rfl rfl rfl ?_
      refine X.putI' 10 5 i102_7 rfl rfl (by decide) rfl rfl rfl (fun hrm517 m517 hm517 => ?_)
      have hJ518 := w41_4 hJ516 hm517 (by omega) hrm517
      refine X.iconst 11 i102_10 rfl rfl (by decide) ?_
      refine X.retz i102_11 rfl t102 (by omega) ?_
      show X (EE s) d 105 37 [(0, zr 4 41)] [zi 0] m517 _
      refine X.retz i105_37 rfl t105 (by omega) ?_
      exact hQ 0 m517 (by first | trivial | omega) (hJ518.up (by omega)) 
theorem l92_45_1 {s : Nat × (Nat → Int32)} {S : zS} {m0 : zM} {d : Nat} {Q : Option zV → zM → Prop} (BE : Int) (hE : BE ≤ 1000000000) (hd : 19 ≤ d)
    (K99 : ∀ (x1 : Int) (m' : zM) (B' : Int), J S m0 B' m' → B' ≤ BE → ((-2147483648) ≤ x1 ∧ x1 ≤ 2147483647) → X (EE s) d 92 99 [(0, zr 4 41), (1, zi x1)] [] m' Q) :
    ∀ (n : Nat) (y1 y2 : Int) (m : zM) (B : Int), J S m0 B m → B + 0 * (n : Int) ≤ BE → ((-2147483648) ≤ y1 ∧ y1 ≤ 2147483647) → (0 ≤ y2 ∧ y2 ≤ 301) → 301 - y2 < (n : Int) → X (EE s) d 92 45 [(0, zr 4 41), (1, zi y1), (2, zi y2)] [] m Q := by
  intro n
  induction n with
  | zero =>
    intro y1 y2 m B hJ hB  hy1 hy2 hn
    exfalso
    omega
  | succ n ih =>
    intro y1 y2 m B hJ hB  hy1 hy2 hn
    refine X.iload_n 46 i92_45 rfl rfl rfl ?_
    refine X.sipush 49 i92_46 rfl rfl (by decide) ?_
    refine X.icmpgt 99 52 i92_49 rfl rfl rfl (fun h617 => ?_) (fun h617 => ?_)
    · refine X.cut [(0, zr 4 41), (1, zi y1)] i92_99 rfl ?_
      exact K99 y1 m (B) (hJ.up (by omega)) (by omega)  (by first | trivial | omega)
    · refine X.aload_n 53 i92_52 rfl rfl rfl ?_
      refine X.getI 56 7 i92_53 rfl rfl (by decide) rfl rfl rfl ?_
      have h618 := r41_7 hJ 4
      refine X.aload_n 57 i92_56 rfl rfl rfl ?_
      refine X.getI 60 3 i92_57 rfl rfl (by decide) rfl rfl rfl ?_
      have h619 := r41_3 hJ 4
      refine X.icmpge 99 63 i92_60 rfl rfl rfl (fun h620 => ?_) (fun h620 => ?_)
      · refine X.cut [(0, zr 4 41), (1, zi y1)] i92_99 rfl ?_
        exact K99 y1 m (B) (hJ.up (by omega)) (by omega)  (by first | trivial | omega)
      · refine X.aload_n 64 i92_63 rfl rfl rfl ?_
        refine X.getIr 67 4 i92_64 rfl rfl (by decide) rfl rfl rfl (fun h621 => ?_)
        refine X.ifne 99 70 i92_67 rfl rfl rfl (fun h622 => ?_) (fun h622 => ?_)
        · refine X.cut [(0, zr 4 41), (1, zi y1)] i92_99 rfl ?_
          exact K99 y1 m (B) (hJ.up (by omega)) (by omega)  (by first | trivial | omega)
        · refine X.aload_n 71 i92_70 rfl rfl rfl ?_
          refine X.callv 74 [] [] [(0, zr 4 41)] i92_71 rfl (by decide) rfl rfl (by omega) rfl rfl (by decide) rfl t94 (Nat.le_of_ble_eq_true rfl) (Nat.le_of_ble_eq_true rfl) rfl ?_
          refine c94_1 (S := zfr [] S) (m0 := m) (B := B)   (by omega) (hJ.ow.up (by omega)) (by omega)  (fun v625 m623 hv625 hJ624 => ?_)
          have hJ626 := hJ.trans hJ624 zi_n
          have wt627 : m623 4 41 3 = (m 4 41 3) := hJ624.eq rfl rfl
          show X (EE s) d 92 74 [(0, zr 4 41), (1, zi y1), (2, zi y2)] [zi v625] m623 _
          refine X.ifeq 93 77 i92_74 rfl rfl rfl (fun h628 => ?_) (fun h628 => ?_)
          · refine X.iinc 96 [(0, zr 4 41), (1, zi y1), (2, zi (y2 + 1))] i92_93 rfl rfl rfl (by omega) rfl ?_
            refine X.goto 45 i92_96 rfl rfl ?_
            exact ih y1 (y2 + 1) m623 (B) (hJ626.up (by omega)) (by omega)  (by omega) (by omega) (by omega)
          · refine X.aload_n 78 i92_77 rfl rfl rfl ?_
            refine X.bipush 80 i92_78 rfl rfl (by decide) ?_
            refine X.callv 83 [zi 59] [] [(0, zr 4 41), (1, zi 59)] i92_80 rfl (by decide) rfl rfl (by omega) rfl rfl (by decide) rfl t105 (Nat.le_of_ble_eq_true rfl) (Nat.le_of_ble_eq_true rfl) rfl ?_
            refine c105_2 (S := zfr [] S) (m0 := m623) (B := B)  59 (by omega) (hJ626.ow.up (by omega)) (by omega) (by omega) (fun v631 m629 hv631 hJ630 => ?_)
            have hJ632 := hJ626.trans hJ630 zi_n
            have wt633 : m629 4 41 3 = (m 4 41 3) := Eq.trans (hJ630.eq rfl rfl) wt627
            clear wt627
            show X (EE s) d 92 83 [(0, zr 4 41), (1, zi y1), (2, zi y2)] [zi v631] m629 _
            refine X.ifeq 93 86 i92_83 rfl rfl rfl (fun h634 => ?_) (fun h634 => ?_)
            · refine X.iinc 96 [(0, zr 4 41), (1, zi y1), (2, zi (y2 + 1))] i92_93 rfl rfl rfl (by omega) rfl ?_
              refine X.goto 45 i92_96 rfl rfl ?_
              exact ih y1 (y2 + 1) m629 (B) (hJ632.up (by omega)) (by omega)  (by omega) (by omega) (by omega)
            · refine X.iincF 89 i92_86 rfl rfl rfl (fun z635 hz635 => ?_)
              show X (EE s) d 92 89 [(0, zr 4 41), (1, zi z635), (2, zi y2)] [] m629 _
              refine X.aload_n 90 i92_89 rfl rfl rfl ?_
              refine X.callv 93 [] [] [(0, zr 4 41)] i92_90 rfl (by decide) rfl rfl (by omega) rfl rfl (by decide) rfl t93 (Nat.le_of_ble_eq_true rfl) (Nat.le_of_ble_eq_true rfl) rfl ?_
              refine c93_1 (S := zfr [] S) (m0 := m629) (B := B)   (by omega) (hJ632.ow.up (by omega)) (by omega)  (fun m636 hJ637 => ?_)
              have hJ639 := hJ632.trans hJ637 zi_n
              have wt640 : m636 4 41 3 = (m 4 41 3) := Eq.trans (hJ637.eq rfl rfl) wt633
              clear wt633
              show X (EE s) d 92 93 [(0, zr 4 41), (1, zi z635), (2, zi y2)] [] m636 _
              refine X.iinc 96 [(0, zr 4 41), (1, zi z635), (2, zi (y2 + 1))] i92_93 rfl rfl rfl (by omega) rfl ?_
              refine X.goto 45 i92_96 rfl rfl ?_
              exact ih z635 (y2 + 1) m636 (B) (hJ639.up (by omega)) (by omega)  (by omega) (by omega) (by omega)
-- WorkMeter$CalendarText.readAll
theorem c92_1 {s : Nat × (Nat → Int32)} {S : zS} {m0 m : zM} {B : Int} {d : Nat} {Q : Option zV → zM → Prop} (hd : 19 ≤ d) (hJ : J S m0 B m) (hB : B + 0 ≤ 1000000000) (hs0 : S.1 4 41 3) (hQ : ∀ (v : Int) m', ((-2147483648) ≤ v ∧ v ≤ 2147483647) → J S m0 (B) m' → Q (some (zi v)) m') : X (EE s) d 92 0 [(0, zr 4 41)] [] m Q := by
  refine X.aload_n 1 i92_0 rfl rfl rfl ?_
  refine X.getF 4 i92_1 rfl rfl (by decide) rfl rfl ?_
  refine X.callv 7 [] [] [(0, zr 3 11)] i92_4 rfl (by decide) rfl rfl (by omega) rfl rfl (by decide) rfl t4 (Nat.le_of_ble_eq_true rfl) (Nat.le_of_ble_eq_true rfl) rfl ?_
  refine c4_1 (S := zfr [] S) (m0 := m) (B := B) 3  (by omega) (hJ.ow.up (by omega)) (by omega)  (fun m501 hJ502 => ?_)
  have hJ504 := hJ.trans hJ502 zi_n
  have wt505 : m501 4 41 3 = (m 4 41 3) := hJ502.eq rfl rfl
  show X (EE s) d 92 7 [(0, zr 4 41)] [] m501 _
  refine X.aload_n 8 i92_7 rfl rfl rfl ?_
  refine X.iconst 9 i92_8 rfl rfl (by decide) ?_
  refine X.putI' 12 4 i92_9 rfl rfl (by decide) rfl rfl rfl (fun hrm506 m506 hm506 => ?_)
  have hJ507 := w41_4 hJ504 hm506 (by omega) hrm506
  have wt508 : m506 4 41 3 = (m 4 41 3) := Eq.trans (by rw [hm506]; exact z_upd_i _ _ _ _ (by omega)) wt505
  clear wt505
  refine X.aload_n 13 i92_12 rfl rfl rfl ?_
  refine X.iconst 14 i92_13 rfl rfl (by decide) ?_
  refine X.putI' 17 5 i92_14 rfl rfl (by decide) rfl rfl rfl (fun hrm509 m509 hm509 => ?_)
  have hJ510 := w41_4 hJ507 hm509 (by omega) hrm509
  have wt511 : m509 4 41 3 = (m 4 41 3) := Eq.trans (by rw [hm509]; exact z_upd_i _ _ _ _ (by omega)) wt508
  clear wt508
  refine X.aload_n 18 i92_17 rfl rfl rfl ?_
  refine X.iconst 19 i92_18 rfl rfl (by decide) ?_
  refine X.putZ' 22 6 i92_19 rfl rfl (by decide) rfl rfl rfl (by omega) (fun hrm512 m512 hm512 => ?_)
  have hJ513 := w41_6 hJ510 hm512 (by omega)
  have wt514 : m512 4 41 3 = (m 4 41 3) := Eq.trans (by rw [hm512]; exact z_upd_o _ _ rfl) wt511
  clear wt511
  refine X.aload_n 23 i92_22 rfl rfl rfl ?_
  refine X.iconst 24 i92_23 rfl rfl (by decide) ?_
  refine X.putI' 27 7 i92_24 rfl rfl (by decide) rfl rfl rfl (fun hrm515 m515 hm515 => ?_)
  have hJ516 := w41_7 hJ513 hm515 (by omega)
  have wt517 : m515 4 41 3 = (m 4 41 3) := Eq.trans (by rw [hm515]; exact z_upd_o _ _ rfl) wt514
  clear wt514
  have em515 : m515 4 41 7 = 0 := by rw [hm515]; exact z_upd_same _ _ _ _ _
  refine X.aload_n 28 i92_27 rfl rfl rfl ?_
  refine X.iconst 29 i92_28 rfl rfl (by decide) ?_
  refine X.putI' 32 9 i92_29 rfl rfl (by decide) rfl rfl rfl (fun hrm518 m518 hm518 => ?_)
  have hJ519 := w41_8 hJ516 hm518 (by omega) hrm518
  have wt520 : m518 4 41 3 = (m 4 41 3) := Eq.trans (by rw [hm518]; exact z_upd_i _ _ _ _ (by omega)) wt517
  clear wt517
  refine X.aload_n 33 i92_32 rfl rfl rfl ?_
  refine X.iconst 34 i92_33 rfl rfl (by decide) ?_
  refine X.putI' 37 10 i92_34 rfl rfl (by decide) rfl rfl rfl (fun hrm521 m521 hm521 => ?_)
  have hJ522 := w41_8 hJ519 hm521 (by omega) hrm521
  have wt523 : m521 4 41 3 = (m 4 41 3) := Eq.trans (by rw [hm521]; exact z_upd_i _ _ _ _ (by omega)) wt520
  clear wt520
  refine X.iconst 38 i92_37 rfl rfl (by decide) ?_
  refine X.istore_n 39 [(0, zr 4 41), (1, zi 0)] i92_38 rfl rfl rfl ?_
  refine X.aload_n 40 i92_39 rfl rfl rfl ?_
  refine X.callv 43 [] [] [(0, zr 4 41)] i92_40 rfl (by decide) rfl rfl (by omega) rfl rfl (by decide) rfl t93 (Nat.le_of_ble_eq_true rfl) (Nat.le_of_ble_eq_true rfl) rfl ?_
  refine c93_1 (S := zfr [] S) (m0 := m521) (B := B)   (by omega) (hJ522.ow.up (by omega)) (by omega)  (fun m524 hJ525 => ?_)
  have hJ527 := hJ522.trans hJ525 zi_n
  have wt528 : m524 4 41 3 = (m 4 41 3) := Eq.trans (hJ525.eq rfl rfl) wt523
  clear wt523
  show X (EE s) d 92 43 [(0, zr 4 41), (1, zi 0)] [] m524 _
  refine X.iconst 44 i92_43 rfl rfl (by decide) ?_
  refine X.istore_n 45 [(0, zr 4 41), (1, zi 0), (2, zi 0)] i92_44 rfl rfl rfl ?_
  refine l92_45_1 (s := s) (S := (zfr [] S)) (m0 := m524) (d := d)   (BE := B + 0) (by omega) (by omega) (fun y529 m530 B531 hJ532 hBB531 hby529 => ?_) ((301 - 0 : Int).toNat + 1) 0 0 m524 (B) (hJ527.ow.up (by omega)) (by omega)  (by omega) (by omega) (by omega)
  have hJ533 := hJ527.trans hJ532 zi_n
  have wt534 : m530 4 41 3 = (m 4 41 3) := Eq.trans (hJ532.eq rfl rfl) wt528
  refine X.aload_n 100 i92_99 rfl rfl rfl ?_
  refine X.iconst 101 i92_100 rfl rfl (by decide) ?_
  refine X.putI' 104 3 i92_101 rfl rfl (by decide) rfl rfl rfl (fun hrm535 m535 hm535 => ?_)
  have hJ536 := w41_3 hJ533 hm535 (by omega) hs0
  have wt537 : m535 4 41 3 = 0 := by rw [hm535]; exact z_upd_same _ _ _ _ _
  clear wt534
  have em535 : m535 4 41 3 = 0 := by rw [hm535]; exact z_upd_same _ _ _ _ _
  refine X.aload_n 105 i92_104 rfl rfl rfl ?_
  refine X.getIr 108 4 i92_105 rfl rfl (by decide) rfl rfl rfl (fun h538 => ?_)
  refine X.ifne 115 111 i92_108 rfl rfl rfl (fun h539 => ?_) (fun h539 => ?_)
  · refine X.cut [] i92_115 rfl ?_
    refine X.iconst 116 i92_115 rfl rfl (by decide) ?_
    refine X.reti i92_116 rfl t92 ?_
    exact hQ (-1) m535 (by first | trivial | omega) (hJ536.up (by omega)) 
  · refine X.iload_n 112 i92_111 rfl rfl rfl ?_
    refine X.goto 116 i92_112 rfl rfl ?_
    refine X.cut [] i92_116 rfl ?_
    refine X.reti i92_116 rfl t92 ?_
    exact hQ y529 m535 (by first | trivial | omega) (hJ536.up (by omega)) 
-- WorkMeter$Calendar.copyFrom
theorem c111_1 {s : Nat × (Nat → Int32)} {S : zS} {m0 m : zM} {B : Int} {d : Nat} {Q : Option zV → zM → Prop} (g0 g1 : Nat) (hd : 13 ≤ d) (hJ : J S m0 B m) (hB : B + 0 ≤ 1000000000) (hQ : ∀ m', J S m0 (B) m' → Q none m') : X (EE s) d 111 0 [(0, zr g0 11), (1, zr g1 11)] [] m Q := by
  refine X.aload_n 1 i111_0 rfl rfl rfl ?_
  refine X.getR 4 i111_1 rfl rfl (by decide) rfl rfl ?_
  refine X.iconst 5 i111_4 rfl rfl (by decide) ?_
  refine X.aload_n 6 i111_5 rfl rfl rfl ?_
  refine X.getR 9 i111_6 rfl rfl (by decide) rfl rfl ?_
  refine X.iconst 10 i111_9 rfl rfl (by decide) ?_
  refine X.aload_n 11 i111_10 rfl rfl rfl ?_
  refine X.getR 14 i111_11 rfl rfl (by decide) rfl rfl ?_
  refine X.alen 15 i111_14 rfl rfl (by decide) rfl ?_
  show X (EE s) d 111 15 [(0, zr g0 11), (1, zr g1 11)] [zi 8, zi 0, zr g0 12, zi 0, zr g1 12] m _
  refine X.cpI' 18 i111_15 rfl rfl (by omega) (Nat.le_of_ble_eq_true rfl) (by decide) (by decide) rfl rfl (by omega) (fun m501 hm501 => ?_)
  have hJ502 := J.cpyS hJ hm501 (fun _ => rfl)
  refine X.aload_n 19 i111_18 rfl rfl rfl ?_
  refine X.getR 22 i111_19 rfl rfl (by decide) rfl rfl ?_
  refine X.iconst 23 i111_22 rfl rfl (by decide) ?_
  refine X.aload_n 24 i111_23 rfl rfl rfl ?_
  refine X.getR 27 i111_24 rfl rfl (by decide) rfl rfl ?_
  refine X.iconst 28 i111_27 rfl rfl (by decide) ?_
  refine X.aload_n 29 i111_28 rfl rfl rfl ?_
  refine X.getR 32 i111_29 rfl rfl (by decide) rfl rfl ?_
  refine X.alen 33 i111_32 rfl rfl (by decide) rfl ?_
  show X (EE s) d 111 33 [(0, zr g0 11), (1, zr g1 11)] [zi 48, zi 0, zr g0 13, zi 0, zr g1 13] m501 _
  refine X.cpI' 36 i111_33 rfl rfl (by omega) (Nat.le_of_ble_eq_true rfl) (by decide) (by decide) rfl rfl (by omega) (fun m503 hm503 => ?_)
  have hJ504 := J.cpyS hJ502 hm503 (fun _ => rfl)
  refine X.aload_n 37 i111_36 rfl rfl rfl ?_
  refine X.getR 40 i111_37 rfl rfl (by decide) rfl rfl ?_
  refine X.iconst 41 i111_40 rfl rfl (by decide) ?_
  refine X.aload_n 42 i111_41 rfl rfl rfl ?_
  refine X.getR 45 i111_42 rfl rfl (by decide) rfl rfl ?_
  refine X.iconst 46 i111_45 rfl rfl (by decide) ?_
  refine X.aload_n 47 i111_46 rfl rfl rfl ?_
  refine X.getR 50 i111_47 rfl rfl (by decide) rfl rfl ?_
  refine X.alen 51 i111_50 rfl rfl (by decide) rfl ?_
  show X (EE s) d 111 51 [(0, zr g0 11), (1, zr g1 11)] [zi 48, zi 0, zr g0 14, zi 0, zr g1 14] m503 _
  refine X.cpI' 54 i111_51 rfl rfl (by omega) (Nat.le_of_ble_eq_true rfl) (by decide) (by decide) rfl rfl (by omega) (fun m505 hm505 => ?_)
  have hJ506 := J.cpyS hJ504 hm505 (fun _ => rfl)
  refine X.aload_n 55 i111_54 rfl rfl rfl ?_
  refine X.getR 58 i111_55 rfl rfl (by decide) rfl rfl ?_
  refine X.iconst 59 i111_58 rfl rfl (by decide) ?_
  refine X.aload_n 60 i111_59 rfl rfl rfl ?_
  refine X.getR 63 i111_60 rfl rfl (by decide) rfl rfl ?_
  refine X.iconst 64 i111_63 rfl rfl (by decide) ?_
  refine X.aload_n 65 i111_64 rfl rfl rfl ?_
  refine X.getR 68 i111_65 rfl rfl (by decide) rfl rfl ?_
  refine X.alen 69 i111_68 rfl rfl (by decide) rfl ?_
  show X (EE s) d 111 69 [(0, zr g0 11), (1, zr g1 11)] [zi 4, zi 0, zr g0 15, zi 0, zr g1 15] m505 _
  refine X.cpI' 72 i111_69 rfl rfl (by omega) (Nat.le_of_ble_eq_true rfl) (by decide) (by decide) rfl rfl (by omega) (fun m507 hm507 => ?_)
  have hJ508 := J.cpyS hJ506 hm507 (fun _ => rfl)
  refine X.aload_n 73 i111_72 rfl rfl rfl ?_
  refine X.getR 76 i111_73 rfl rfl (by decide) rfl rfl ?_
  refine X.iconst 77 i111_76 rfl rfl (by decide) ?_
  refine X.aload_n 78 i111_77 rfl rfl rfl ?_
  refine X.getR 81 i111_78 rfl rfl (by decide) rfl rfl ?_
  refine X.iconst 82 i111_81 rfl rfl (by decide) ?_
  refine X.aload_n 83 i111_82 rfl rfl rfl ?_
  refine X.getR 86 i111_83 rfl rfl (by decide) rfl rfl ?_
  refine X.alen 87 i111_86 rfl rfl (by decide) rfl ?_
  show X (EE s) d 111 87 [(0, zr g0 11), (1, zr g1 11)] [zi 28, zi 0, zr g0 16, zi 0, zr g1 16] m507 _
  refine X.cpI' 90 i111_87 rfl rfl (by omega) (Nat.le_of_ble_eq_true rfl) (by decide) (by decide) rfl rfl (by omega) (fun m509 hm509 => ?_)
  have hJ510 := J.cpyS hJ508 hm509 (fun _ => rfl)
  refine X.aload_n 91 i111_90 rfl rfl rfl ?_
  refine X.getR 94 i111_91 rfl rfl (by decide) rfl rfl ?_
  refine X.iconst 95 i111_94 rfl rfl (by decide) ?_
  refine X.aload_n 96 i111_95 rfl rfl rfl ?_
  refine X.getR 99 i111_96 rfl rfl (by decide) rfl rfl ?_
  refine X.iconst 100 i111_99 rfl rfl (by decide) ?_
  refine X.bipush 102 i111_100 rfl rfl (by decide) ?_
  refine X.cpI' 105 i111_102 rfl rfl (by omega) (Nat.le_of_ble_eq_true rfl) (by decide) (by decide) rfl rfl (by omega) (fun m511 hm511 => ?_)
  have hJ512 := J.cpyS hJ510 hm511 (fun _ => rfl)
  refine X.aload_n 106 i111_105 rfl rfl rfl ?_
  refine X.getR 109 i111_106 rfl rfl (by decide) rfl rfl ?_
  refine X.iconst 110 i111_109 rfl rfl (by decide) ?_
  refine X.aload_n 111 i111_110 rfl rfl rfl ?_
  refine X.getR 114 i111_111 rfl rfl (by decide) rfl rfl ?_
  refine X.iconst 115 i111_114 rfl rfl (by decide) ?_
  refine X.bipush 117 i111_115 rfl rfl (by decide) ?_
  refine X.cpI' 120 i111_117 rfl rfl (by omega) (Nat.le_of_ble_eq_true rfl) (by decide) (by decide) rfl rfl (by omega) (fun m513 hm513 => ?_)
  have hJ514 := J.cpyS hJ512 hm513 (fun _ => rfl)
  refine X.aload_n 121 i111_120 rfl rfl rfl ?_
  refine X.aload_n 122 i111_121 rfl rfl rfl ?_
  refine X.getI 125 7 i111_122 rfl rfl (by decide) rfl rfl rfl ?_
  have h515 := r11_7 hJ514 g1
  refine X.putI' 128 7 i111_125 rfl rfl (by decide) rfl rfl rfl (fun hrm516 m516 hm516 => ?_)
  have hJ517 := w11_7 hJ514 hm516 (by omega)
  have em516 : m516 g0 11 7 = (m513 g1 11 7) := by rw [hm516]; exact z_upd_same _ _ _ _ _
  refine X.retv i111_128 rfl t111 ?_
  exact hQ  m516  (hJ517.up (by omega)) 
-- WorkMeter$CalendarText.forget
theorem c91_1 {s : Nat × (Nat → Int32)} {S : zS} {m0 m : zM} {B : Int} {d : Nat} {Q : Option zV → zM → Prop} (hd : 13 ≤ d) (hJ : J S m0 B m) (hB : B + 0 ≤ 1000000000) (hs0 : S.1 4 41 3) (hQ : ∀ m', J S m0 (B) m' → Q none m') : X (EE s) d 91 0 [(0, zr 4 41)] [] m Q := by
  refine X.aload_n 1 i91_0 rfl rfl rfl ?_
  refine X.iconst 2 i91_1 rfl rfl (by decide) ?_
  refine X.putI' 5 3 i91_2 rfl rfl (by decide) rfl rfl rfl (fun hrm501 m501 hm501 => ?_)
  have hJ502 := w41_3 hJ hm501 (by omega) hs0
  have wt503 : m501 4 41 3 = 0 := by rw [hm501]; exact z_upd_same _ _ _ _ _
  have em501 : m501 4 41 3 = 0 := by rw [hm501]; exact z_upd_same _ _ _ _ _
  refine X.aload_n 6 i91_5 rfl rfl rfl ?_
  refine X.iconst 7 i91_6 rfl rfl (by decide) ?_
  refine X.putI' 10 4 i91_7 rfl rfl (by decide) rfl rfl rfl (fun hrm504 m504 hm504 => ?_)
  have hJ505 := w41_4 hJ502 hm504 (by omega) hrm504
  have wt506 : m504 4 41 3 = 0 := Eq.trans (by rw [hm504]; exact z_upd_i _ _ _ _ (by omega)) wt503
  clear wt503
  refine X.aload_n 11 i91_10 rfl rfl rfl ?_
  refine X.iconst 12 i91_11 rfl rfl (by decide) ?_
  refine X.putI' 15 5 i91_12 rfl rfl (by decide) rfl rfl rfl (fun hrm507 m507 hm507 => ?_)
  have hJ508 := w41_4 hJ505 hm507 (by omega) hrm507
  have wt509 : m507 4 41 3 = 0 := Eq.trans (by rw [hm507]; exact z_upd_i _ _ _ _ (by omega)) wt506
  clear wt506
  refine X.retv i91_15 rfl t91 ?_
  exact hQ  m507  (hJ508.up (by omega)) 
-- WorkMeter.calendar
theorem c90_1 {s : Nat × (Nat → Int32)} {S : zS} {m0 m : zM} {B : Int} {d : Nat} {Q : Option zV → zM → Prop} (hd : 20 ≤ d) (hJ : J S m0 B m) (hB : B + 0 ≤ 1000000000) (hs0 : S.1 4 41 3) (hQ : ∀ (v : Int) m', ((-2147483648) ≤ v ∧ v ≤ 2147483647) → J S m0 (B) m' → Q (some (zi v)) m') : X (EE s) d 90 0 [(0, zr 4 40)] [] m Q := by
  refine X.aload_n 1 i90_0 rfl rfl rfl ?_
  refine X.getF 4 i90_1 rfl rfl (by decide) rfl rfl ?_
  refine X.getR 7 i90_4 rfl rfl (by decide) rfl rfl ?_
  refine X.callv 10 [] [] [(0, zr 0 39)] i90_7 rfl (by decide) rfl rfl (by omega) rfl rfl (by decide) rfl t17 (Nat.le_of_ble_eq_true rfl) (Nat.le_of_ble_eq_true rfl) rfl ?_
  refine X.aload_n 1 i17_0 rfl rfl rfl ?_
  refine X.getZ 4 0 i17_1 rfl rfl (by decide) rfl rfl rfl (fun h501 => ?_)
  refine X.ifeq 17 7 i17_4 rfl rfl rfl (fun h502 => ?_) (fun h502 => ?_)
  · refine X.aload_n 18 i17_17 rfl rfl rfl ?_
    refine X.getZ 21 0 i17_18 rfl rfl (by decide) rfl rfl rfl (fun h503 => ?_)
    refine X.retz i17_21 rfl t17 (by omega) ?_
    show X (EE s) d 90 10 [(0, zr 4 40)] [zi (m 0 39 0)] m _
    refine X.ifeq 22 13 i90_10 rfl rfl rfl (fun h504 => ?_) (fun h504 => ?_)
    · refine X.aload_n 23 i90_22 rfl rfl rfl ?_
      refine X.getF 26 i90_23 rfl rfl (by decide) rfl rfl ?_
      refine X.callv 29 [] [] [(0, zr 4 41)] i90_26 rfl (by decide) rfl rfl (by omega) rfl rfl (by decide) rfl t92 (Nat.le_of_ble_eq_true rfl) (Nat.le_of_ble_eq_true rfl) rfl ?_
      refine c92_1 (S := zfr [(4, 41, 3)] S) (m0 := m) (B := B)   (by omega) (hJ.ow.up (by omega)) (by omega) zm_z (fun v507 m505 hv507 hJ506 => ?_)
      have hJ508 := hJ.trans hJ506 (zi_c hs0 zi_n)
      show X (EE s) d 90 29 [(0, zr 4 40)] [zi v507] m505 _
      refine X.istore_n 30 [(0, zr 4 40), (1, zi v507)] i90_29 rfl rfl rfl ?_
      refine X.iload_n 31 i90_30 rfl rfl rfl ?_
      refine X.iconst 32 i90_31 rfl rfl (by decide) ?_
      refine X.icmpeq 79 35 i90_32 rfl rfl rfl (fun h509 => ?_) (fun h509 => ?_)
      · refine X.cut [(1, zi v507)] i90_79 rfl ?_
        refine X.iload_n 80 i90_79 rfl rfl rfl ?_
        refine X.reti i90_80 rfl t90 ?_
        exact hQ v507 m505 (by first | trivial | omega) (hJ508.up (by omega)) 
      · refine X.aload_n 36 i90_35 rfl rfl rfl ?_
        refine X.getF 39 i90_36 rfl rfl (by decide) rfl rfl ?_
        refine X.getR 42 i90_39 rfl rfl (by decide) rfl rfl ?_
        refine X.aload_n 43 i90_42 rfl rfl rfl ?_
        refine X.getF 46 i90_43 rfl rfl (by decide) rfl rfl ?_
        refine X.getF 49 i90_46 rfl rfl (by decide) rfl rfl ?_
        refine X.callv 52 [zr 3 11] [] [(0, zr 0 11), (1, zr 3 11)] i90_49 rfl (by decide) rfl rfl (by omega) rfl rfl (by decide) rfl t111 (Nat.le_of_ble_eq_true rfl) (Nat.le_of_ble_eq_true rfl) rfl ?_
        refine c111_1 (S := zfr [] S) (m0 := m505) (B := B) 0 3  (by omega) (hJ508.ow.up (by omega)) (by omega)  (fun m510 hJ511 => ?_)
        have hJ513 := hJ508.trans hJ511 zi_n
        have wt514 : m510 4 41 3 = (m505 4 41 3) := hJ511.eq rfl rfl
        show X (EE s) d 90 52 [(0, zr 4 40), (1, zi v507)] [] m510 _
        refine X.aload_n 53 i90_52 rfl rfl rfl ?_
        refine X.getF 56 i90_53 rfl rfl (by decide) rfl rfl ?_
        refine X.getZ 59 6 i90_56 rfl rfl (by decide) rfl rfl rfl (fun h515 => ?_)
        refine X.ifeq 79 62 i90_59 rfl rfl rfl (fun h516 => ?_) (fun h516 => ?_)
        · refine X.cut [(1, zi v507)] i90_79 rfl ?_
          refine X.iload_n 80 i90_79 rfl rfl rfl ?_
          refine X.reti i90_80 rfl t90 ?_
          exact hQ v507 m510 (by first | trivial | omega) (hJ513.up (by omega)) 
        · refine X.aload_n 63 i90_62 rfl rfl rfl ?_
          refine X.getF 66 i90_63 rfl rfl (by decide) rfl rfl ?_
          refine X.getR 69 i90_66 rfl rfl (by decide) rfl rfl ?_
          refine X.aload_n 70 i90_69 rfl rfl rfl ?_
          refine X.getF 73 i90_70 rfl rfl (by decide) rfl rfl ?_
          refine X.getF 76 i90_73 rfl rfl (by decide) rfl rfl ?_
          refine X.callv 79 [zr 4 43] [] [(0, zr 0 9), (1, zr 4 43)] i90_76 rfl (by decide) rfl rfl (by omega) rfl rfl (by decide) rfl t112 (Nat.le_of_ble_eq_true rfl) (Nat.le_of_ble_eq_true rfl) rfl ?_
          refine X.aload_n 1 i112_0 rfl rfl rfl ?_
          refine X.iconst 2 i112_1 rfl rfl (by decide) ?_
          refine X.aload_n 3 i112_2 rfl rfl rfl ?_
          refine X.getR 6 i112_3 rfl rfl (by decide) rfl rfl ?_
          refine X.bipush 8 i112_6 rfl rfl (by decide) ?_
          refine X.iconst 9 i112_8 rfl rfl (by decide) ?_
          refine X.cpI' 12 i112_9 rfl rfl (by omega) (Nat.le_of_ble_eq_true rfl) (by decide) (by decide) rfl rfl (by omega) (fun m517 hm517 => ?_)
          have hJ518 := J.cpyP hJ513 hm517 (by omega)
          have wt519 : m517 4 41 3 = (m505 4 41 3) := Eq.trans (by rw [hm517]; exact z_cpy_o rfl) wt514
          clear wt514
          refine X.retv i112_12 rfl t112 ?_
          show X (EE s) d 90 79 [(0, zr 4 40), (1, zi v507)] [] m517 _
          refine X.cut [(1, zi v507)] i90_79 rfl ?_
          refine X.iload_n 80 i90_79 rfl rfl rfl ?_
          refine X.reti i90_80 rfl t90 ?_
          exact hQ v507 m517 (by first | trivial | omega) (hJ518.up (by omega)) 
    · refine X.aload_n 14 i90_13 rfl rfl rfl ?_
      refine X.getF 17 i90_14 rfl rfl (by decide) rfl rfl ?_
      refine X.callv 20 [] [] [(0, zr 4 41)] i90_17 rfl (by decide) rfl rfl (by omega) rfl rfl (by decide) rfl t91 (Nat.le_of_ble_eq_true rfl) (Nat.le_of_ble_eq_true rfl) rfl ?_
      refine c91_1 (S := zfr [(4, 41, 3)] S) (m0 := m) (B := B)   (by omega) (hJ.ow.up (by omega)) (by omega) zm_z (fun m520 hJ521 => ?_)
      have hJ523 := hJ.trans hJ521 (zi_c hs0 zi_n)
      show X (EE s) d 90 20 [(0, zr 4 40)] [] m520 _
      refine X.iconst 21 i90_20 rfl rfl (by decide) ?_
      refine X.reti i90_21 rfl t90 ?_
      exact hQ (-1) m520 (by first | trivial | omega) (hJ523.up (by omega)) 
  · refine X.aload_n 8 i17_7 rfl rfl rfl ?_
    refine X.dup 9 i17_8 rfl rfl rfl ?_
    refine X.getIr 12 3 i17_9 rfl rfl (by decide) rfl rfl rfl (fun h524 => ?_)
    refine X.iconst 13 i17_12 rfl rfl (by decide) ?_
    refine X.iiF 14 .iadd (fun x y => x + y) i17_13 rfl rfl rfl (fun _ _ => rfl) (fun z525 hz525 => ?_)
    refine X.putI' 17 3 i17_14 rfl rfl (by decide) rfl rfl rfl (fun hrm526 m526 hm526 => ?_)
    have hJ527 := w39_3 hJ hm526 hrm526
    have wt528 : m526 4 41 3 = (m 4 41 3) := by rw [hm526]; exact z_upd_o _ _ rfl
    refine X.aload_n 18 i17_17 rfl rfl rfl ?_
    refine X.getZ 21 0 i17_18 rfl rfl (by decide) rfl rfl rfl (fun h529 => ?_)
    refine X.retz i17_21 rfl t17 (by omega) ?_
    show X (EE s) d 90 10 [(0, zr 4 40)] [zi (m526 0 39 0)] m526 _
    refine X.ifeq 22 13 i90_10 rfl rfl rfl (fun h530 => ?_) (fun h530 => ?_)
    · refine X.aload_n 23 i90_22 rfl rfl rfl ?_
      refine X.getF 26 i90_23 rfl rfl (by decide) rfl rfl ?_
      refine X.callv 29 [] [] [(0, zr 4 41)] i90_26 rfl (by decide) rfl rfl (by omega) rfl rfl (by decide) rfl t92 (Nat.le_of_ble_eq_true rfl) (Nat.le_of_ble_eq_true rfl) rfl ?_
      refine c92_1 (S := zfr [(4, 41, 3)] S) (m0 := m526) (B := B)   (by omega) (hJ527.ow.up (by omega)) (by omega) zm_z (fun v533 m531 hv533 hJ532 => ?_)
      have hJ534 := hJ527.trans hJ532 (zi_c hs0 zi_n)
      clear wt528
      show X (EE s) d 90 29 [(0, zr 4 40)] [zi v533] m531 _
      refine X.istore_n 30 [(0, zr 4 40), (1, zi v533)] i90_29 rfl rfl rfl ?_
      refine X.iload_n 31 i90_30 rfl rfl rfl ?_
      refine X.iconst 32 i90_31 rfl rfl (by decide) ?_
      refine X.icmpeq 79 35 i90_32 rfl rfl rfl (fun h535 => ?_) (fun h535 => ?_)
      · refine X.cut [(1, zi v533)] i90_79 rfl ?_
        refine X.iload_n 80 i90_79 rfl rfl rfl ?_
        refine X.reti i90_80 rfl t90 ?_
        exact hQ v533 m531 (by first | trivial | omega) (hJ534.up (by omega)) 
      · refine X.aload_n 36 i90_35 rfl rfl rfl ?_
        refine X.getF 39 i90_36 rfl rfl (by decide) rfl rfl ?_
        refine X.getR 42 i90_39 rfl rfl (by decide) rfl rfl ?_
        refine X.aload_n 43 i90_42 rfl rfl rfl ?_
        refine X.getF 46 i90_43 rfl rfl (by decide) rfl rfl ?_
        refine X.getF 49 i90_46 rfl rfl (by decide) rfl rfl ?_
        refine X.callv 52 [zr 3 11] [] [(0, zr 0 11), (1, zr 3 11)] i90_49 rfl (by decide) rfl rfl (by omega) rfl rfl (by decide) rfl t111 (Nat.le_of_ble_eq_true rfl) (Nat.le_of_ble_eq_true rfl) rfl ?_
        refine c111_1 (S := zfr [] S) (m0 := m531) (B := B) 0 3  (by omega) (hJ534.ow.up (by omega)) (by omega)  (fun m536 hJ537 => ?_)
        have hJ539 := hJ534.trans hJ537 zi_n
        have wt540 : m536 4 41 3 = (m531 4 41 3) := hJ537.eq rfl rfl
        show X (EE s) d 90 52 [(0, zr 4 40), (1, zi v533)] [] m536 _
        refine X.aload_n 53 i90_52 rfl rfl rfl ?_
        refine X.getF 56 i90_53 rfl rfl (by decide) rfl rfl ?_
        refine X.getZ 59 6 i90_56 rfl rfl (by decide) rfl rfl rfl (fun h541 => ?_)
        refine X.ifeq 79 62 i90_59 rfl rfl rfl (fun h542 => ?_) (fun h542 => ?_)
        · refine X.cut [(1, zi v533)] i90_79 rfl ?_
          refine X.iload_n 80 i90_79 rfl rfl rfl ?_
          refine X.reti i90_80 rfl t90 ?_
          exact hQ v533 m536 (by first | trivial | omega) (hJ539.up (by omega)) 
        · refine X.aload_n 63 i90_62 rfl rfl rfl ?_
          refine X.getF 66 i90_63 rfl rfl (by decide) rfl rfl ?_
          refine X.getR 69 i90_66 rfl rfl (by decide) rfl rfl ?_
          refine X.aload_n 70 i90_69 rfl rfl rfl ?_
          refine X.getF 73 i90_70 rfl rfl (by decide) rfl rfl ?_
          refine X.getF 76 i90_73 rfl rfl (by decide) rfl rfl ?_
          refine X.callv 79 [zr 4 43] [] [(0, zr 0 9), (1, zr 4 43)] i90_76 rfl (by decide) rfl rfl (by omega) rfl rfl (by decide) rfl t112 (Nat.le_of_ble_eq_true rfl) (Nat.le_of_ble_eq_true rfl) rfl ?_
          refine X.aload_n 1 i112_0 rfl rfl rfl ?_
          refine X.iconst 2 i112_1 rfl rfl (by decide) ?_
          refine X.aload_n 3 i112_2 rfl rfl rfl ?_
          refine X.getR 6 i112_3 rfl rfl (by decide) rfl rfl ?_
          refine X.bipush 8 i112_6 rfl rfl (by decide) ?_
          refine X.iconst 9 i112_8 rfl rfl (by decide) ?_
          refine X.cpI' 12 i112_9 rfl rfl (by omega) (Nat.le_of_ble_eq_true rfl) (by decide) (by decide) rfl rfl (by omega) (fun m543 hm543 => ?_)
          have hJ544 := J.cpyP hJ539 hm543 (by omega)
          have wt545 : m543 4 41 3 = (m531 4 41 3) := Eq.trans (by rw [hm543]; exact z_cpy_o rfl) wt540
          clear wt540
          refine X.retv i112_12 rfl t112 ?_
          show X (EE s) d 90 79 [(0, zr 4 40), (1, zi v533)] [] m543 _
          refine X.cut [(1, zi v533)] i90_79 rfl ?_
          refine X.iload_n 80 i90_79 rfl rfl rfl ?_
          refine X.reti i90_80 rfl t90 ?_
          exact hQ v533 m543 (by first | trivial | omega) (hJ544.up (by omega)) 
    · refine X.aload_n 14 i90_13 rfl rfl rfl ?_
      refine X.getF 17 i90_14 rfl rfl (by decide) rfl rfl ?_
      refine X.callv 20 [] [] [(0, zr 4 41)] i90_17 rfl (by decide) rfl rfl (by omega) rfl rfl (by decide) rfl t91 (Nat.le_of_ble_eq_true rfl) (Nat.le_of_ble_eq_true rfl) rfl ?_
      refine c91_1 (S := zfr [(4, 41, 3)] S) (m0 := m526) (B := B)   (by omega) (hJ527.ow.up (by omega)) (by omega) zm_z (fun m546 hJ547 => ?_)
      have hJ549 := hJ527.trans hJ547 (zi_c hs0 zi_n)
      clear wt528
      show X (EE s) d 90 20 [(0, zr 4 40)] [] m546 _
      refine X.iconst 21 i90_20 rfl rfl (by decide) ?_
      refine X.reti i90_21 rfl t90 ?_
      exact hQ (-1) m546 (by first | trivial | omega) (hJ549.up (by omega)) 
theorem l262_2_1 {s : Nat × (Nat → Int32)} {S : zS} {m0 : zM} {d : Nat} {Q : Option zV → zM → Prop} (BE : Int) (hE : BE ≤ 1000000000) (hd : 13 ≤ d)
    (K32 : ∀ (m' : zM) (B' : Int), J S m0 B' m' → B' ≤ BE → X (EE s) d 262 32 [(0, zr 4 44)] [] m' Q) :
    ∀ (n : Nat) (y1 : Int) (m : zM) (B : Int), J S m0 B m → B + 0 * (n : Int) ≤ BE → (0 ≤ y1 ∧ y1 ≤ 8) → 8 - y1 < (n : Int) → X (EE s) d 262 2 [(0, zr 4 44), (1, zi y1)] [] m Q := by
  intro n
  induction n with
  | zero =>
    intro y1 m B hJ hB  hy1 hn
    exfalso
    omega
  | succ n ih =>
    intro y1 m B hJ hB  hy1 hn
    refine X.iload_n 3 i262_2 rfl rfl rfl ?_
    refine X.bipush 5 i262_3 rfl rfl (by decide) ?_
    refine X.icmpge 32 8 i262_5 rfl rfl rfl (fun h506 => ?_) (fun h506 => ?_)
    · refine X.cut [(0, zr 4 44)] i262_32 rfl ?_
      exact K32  m (B) (hJ.up (by omega)) (by omega)  
    · refine X.aload_n 9 i262_8 rfl rfl rfl ?_
      refine X.getF 12 i262_9 rfl rfl (by decide) rfl rfl ?_
      refine X.sipush 15 i262_12 rfl rfl (by decide) ?_
      refine X.iload_n 16 i262_15 rfl rfl rfl ?_
      refine X.iadd 17 i262_16 rfl rfl (by omega) ?_
      refine X.lconst (y := 0) 18 i262_17 rfl rfl rfl ?_
      refine X.last' 19 i262_18 rfl rfl (by decide) rfl (by omega) (fun hrm507 m507 hm507 => ?_)
      have hJ508 := w45_287 hJ hm507 (by omega) (by omega)
      refine X.aload_n 20 i262_19 rfl rfl rfl ?_
      refine X.getF 23 i262_20 rfl rfl (by decide) rfl rfl ?_
      refine X.iload_n 24 i262_23 rfl rfl rfl ?_
      refine X.iconst 25 i262_24 rfl rfl (by decide) ?_
      refine X.zast' 26 i262_25 rfl rfl (by decide) rfl (by omega) (by omega) (fun hrm509 m509 hm509 => ?_)
      have hJ510 := w49_0 hJ508 hm509 (by omega) hrm509
      refine X.iinc 29 [(0, zr 4 44), (1, zi (y1 + 1))] i262_26 rfl rfl rfl (by omega) rfl ?_
      refine X.goto 2 i262_29 rfl rfl ?_
      exact ih (y1 + 1) m509 (B) (hJ510.up (by omega)) (by omega)  (by omega) (by omega)
theorem l262_34_1 {s : Nat × (Nat → Int32)} {S : zS} {m0 : zM} {d : Nat} {Q : Option zV → zM → Prop} (BE : Int) (hE : BE ≤ 1000000000) (hd : 13 ≤ d)
    (K73 : ∀ (m' : zM) (B' : Int), J S m0 B' m' → B' ≤ BE → X (EE s) d 262 73 [(0, zr 4 44)] [] m' Q) :
    ∀ (n : Nat) (y1 : Int) (m : zM) (B : Int), J S m0 B m → B + 0 * (n : Int) ≤ BE → (0 ≤ y1 ∧ y1 ≤ 4) → 4 - y1 < (n : Int) → X (EE s) d 262 34 [(0, zr 4 44), (1, zi y1)] [] m Q := by
  intro n
  induction n with
  | zero =>
    intro y1 m B hJ hB  hy1 hn
    exfalso
    omega
  | succ n ih =>
    intro y1 m B hJ hB  hy1 hn
    refine X.iload_n 35 i262_34 rfl rfl rfl ?_
    refine X.iconst 36 i262_35 rfl rfl (by decide) ?_
    refine X.icmpge 73 39 i262_36 rfl rfl rfl (fun h511 => ?_) (fun h511 => ?_)
    · refine X.cut [(0, zr 4 44)] i262_73 rfl ?_
      exact K73  m (B) (hJ.up (by omega)) (by omega)  
    · refine X.aload_n 40 i262_39 rfl rfl rfl ?_
      refine X.getF 43 i262_40 rfl rfl (by decide) rfl rfl ?_
      refine X.sipush 46 i262_43 rfl rfl (by decide) ?_
      refine X.iload_n 47 i262_46 rfl rfl rfl ?_
      refine X.iadd 48 i262_47 rfl rfl (by omega) ?_
      refine X.iload_n 49 i262_48 rfl rfl rfl ?_
      refine X.ifne 56 52 i262_49 rfl rfl rfl (fun h512 => ?_) (fun h512 => ?_)
      · refine X.ldc2 59 i262_56 rfl rfl (by decide) ?_
        refine X.last' 60 i262_59 rfl rfl (by decide) rfl (by omega) (fun hrm513 m513 hm513 => ?_)
        have hJ514 := w45_391 hJ hm513 (by omega) (by omega)
        refine X.aload_n 61 i262_60 rfl rfl rfl ?_
        refine X.getF 64 i262_61 rfl rfl (by decide) rfl rfl ?_
        refine X.iload_n 65 i262_64 rfl rfl rfl ?_
        refine X.iconst 66 i262_65 rfl rfl (by decide) ?_
        refine X.zast' 67 i262_66 rfl rfl (by decide) rfl (by omega) (by omega) (fun hrm515 m515 hm515 => ?_)
        have hJ516 := w50_0 hJ514 hm515 (by omega) hrm515
        refine X.iinc 70 [(0, zr 4 44), (1, zi (y1 + 1))] i262_67 rfl rfl rfl (by omega) rfl ?_
        refine X.goto 34 i262_70 rfl rfl ?_
        exact ih (y1 + 1) m515 (B) (hJ516.up (by omega)) (by omega)  (by omega) (by omega)
      · refine X.lconst (y := 0) 53 i262_52 rfl rfl rfl ?_
        refine X.goto 59 i262_53 rfl rfl ?_
        refine X.last' 60 i262_59 rfl rfl (by decide) rfl (by omega) (fun hrm517 m517 hm517 => ?_)
        have hJ518 := w45_391 hJ hm517 (by omega) (by omega)
        refine X.aload_n 61 i262_60 rfl rfl rfl ?_
        refine X.getF 64 i262_61 rfl rfl (by decide) rfl rfl ?_
        refine X.iload_n 65 i262_64 rfl rfl rfl ?_
        refine X.iconst 66 i262_65 rfl rfl (by decide) ?_
        refine X.zast' 67 i262_66 rfl rfl (by decide) rfl (by omega) (by omega) (fun hrm519 m519 hm519 => ?_)
        have hJ520 := w50_0 hJ518 hm519 (by omega) hrm519
        refine X.iinc 70 [(0, zr 4 44), (1, zi (y1 + 1))] i262_67 rfl rfl rfl (by omega) rfl ?_
        refine X.goto 34 i262_70 rfl rfl ?_
        exact ih (y1 + 1) m519 (B) (hJ520.up (by omega)) (by omega)  (by omega) (by omega)
theorem l262_75_1 {s : Nat × (Nat → Int32)} {S : zS} {m0 : zM} {d : Nat} {Q : Option zV → zM → Prop} (BE : Int) (hE : BE ≤ 1000000000) (hd : 13 ≤ d)
    (K98 : ∀ (m' : zM) (B' : Int), J S m0 B' m' → B' ≤ BE → X (EE s) d 262 98 [(0, zr 4 44)] [] m' Q) :
    ∀ (n : Nat) (y1 : Int) (m : zM) (B : Int), J S m0 B m → B + 0 * (n : Int) ≤ BE → (0 ≤ y1 ∧ y1 ≤ 28) → 28 - y1 < (n : Int) → X (EE s) d 262 75 [(0, zr 4 44), (1, zi y1)] [] m Q := by
  intro n
  induction n with
  | zero =>
    intro y1 m B hJ hB  hy1 hn
    exfalso
    omega
  | succ n ih =>
    intro y1 m B hJ hB  hy1 hn
    refine X.iload_n 76 i262_75 rfl rfl rfl ?_
    refine X.bipush 78 i262_76 rfl rfl (by decide) ?_
    refine X.icmpge 98 81 i262_78 rfl rfl rfl (fun h504 => ?_) (fun h504 => ?_)
    · refine X.cut [(0, zr 4 44)] i262_98 rfl ?_
      exact K98  m (B) (hJ.up (by omega)) (by omega)  
    · refine X.aload_n 82 i262_81 rfl rfl rfl ?_
      refine X.getF 85 i262_82 rfl rfl (by decide) rfl rfl ?_
      refine X.sipush 88 i262_85 rfl rfl (by decide) ?_
      refine X.iload_n 89 i262_88 rfl rfl rfl ?_
      refine X.iadd 90 i262_89 rfl rfl (by omega) ?_
      refine X.lconst (y := 0) 91 i262_90 rfl rfl rfl ?_
      refine X.last' 92 i262_91 rfl rfl (by decide) rfl (by omega) (fun hrm505 m505 hm505 => ?_)
      have hJ506 := w45_395 hJ hm505 (by omega) (by omega)
      refine X.iinc 95 [(0, zr 4 44), (1, zi (y1 + 1))] i262_92 rfl rfl rfl (by omega) rfl ?_
      refine X.goto 75 i262_95 rfl rfl ?_
      exact ih (y1 + 1) m505 (B) (hJ506.up (by omega)) (by omega)  (by omega) (by omega)
theorem l262_100_1 {s : Nat × (Nat → Int32)} {S : zS} {m0 : zM} {d : Nat} {Q : Option zV → zM → Prop} (BE : Int) (hE : BE ≤ 1000000000) (hd : 13 ≤ d)
    (K126 : ∀ (m' : zM) (B' : Int), J S m0 B' m' → B' ≤ BE → X (EE s) d 262 126 [(0, zr 4 44)] [] m' Q) :
    ∀ (n : Nat) (y1 : Int) (m : zM) (B : Int), J S m0 B m → B + 0 * (n : Int) ≤ BE → (0 ≤ y1 ∧ y1 ≤ 365) → 365 - y1 < (n : Int) → X (EE s) d 262 100 [(0, zr 4 44), (1, zi y1)] [] m Q := by
  intro n
  induction n with
  | zero =>
    intro y1 m B hJ hB  hy1 hn
    exfalso
    omega
  | succ n ih =>
    intro y1 m B hJ hB  hy1 hn
    refine X.iload_n 101 i262_100 rfl rfl rfl ?_
    refine X.sipush 104 i262_101 rfl rfl (by decide) ?_
    refine X.icmpge 126 107 i262_104 rfl rfl rfl (fun h504 => ?_) (fun h504 => ?_)
    · refine X.cut [(0, zr 4 44)] i262_126 rfl ?_
      exact K126  m (B) (hJ.up (by omega)) (by omega)  
    · refine X.aload_n 108 i262_107 rfl rfl rfl ?_
      refine X.getF 111 i262_108 rfl rfl (by decide) rfl rfl ?_
      refine X.sipush 114 i262_111 rfl rfl (by decide) ?_
      refine X.iload_n 115 i262_114 rfl rfl rfl ?_
      refine X.iadd 116 i262_115 rfl rfl (by omega) ?_
      refine X.ldc2 119 i262_116 rfl rfl (by decide) ?_
      refine X.last' 120 i262_119 rfl rfl (by decide) rfl (by omega) (fun hrm505 m505 hm505 => ?_)
      have hJ506 := w45_423 hJ hm505 (by omega) (by omega)
      refine X.iinc 123 [(0, zr 4 44), (1, zi (y1 + 1))] i262_120 rfl rfl rfl (by omega) rfl ?_
      refine X.goto 100 i262_123 rfl rfl ?_
      exact ih (y1 + 1) m505 (B) (hJ506.up (by omega)) (by omega)  (by omega) (by omega)
-- WorkMeterModel.clears
theorem c262_1 {s : Nat × (Nat → Int32)} {S : zS} {m0 m : zM} {B : Int} {d : Nat} {Q : Option zV → zM → Prop} (hd : 13 ≤ d) (hJ : J S m0 B m) (hB : B + 0 ≤ 1000000000) (hQ : ∀ m', J S m0 (B) m' → Q none m') : X (EE s) d 262 0 [(0, zr 4 44)] [] m Q := by
  refine X.iconst 1 i262_0 rfl rfl (by decide) ?_
  refine X.istore_n 2 [(0, zr 4 44), (1, zi 0)] i262_1 rfl rfl rfl ?_
  refine l262_2_1 (s := s) (S := S) (m0 := m0) (d := d)   (BE := B + 0) (by omega) (by omega) (fun  m501 B502 hJ503 hBB502 => ?_) ((8 - 0 : Int).toNat + 1) 0 m (B) (hJ.up (by omega)) (by omega)  (by omega) (by omega)
  refine X.iconst 33 i262_32 rfl rfl (by decide) ?_
  refine X.istore_n 34 [(0, zr 4 44), (1, zi 0)] i262_33 rfl rfl rfl ?_
  refine l262_34_1 (s := s) (S := S) (m0 := m0) (d := d)   (BE := B502 + 0) (by omega) (by omega) (fun  m504 B505 hJ506 hBB505 => ?_) ((4 - 0 : Int).toNat + 1) 0 m501 (B502) (hJ503.up (by omega)) (by omega)  (by omega) (by omega)
  refine X.iconst 74 i262_73 rfl rfl (by decide) ?_
  refine X.istore_n 75 [(0, zr 4 44), (1, zi 0)] i262_74 rfl rfl rfl ?_
  refine l262_75_1 (s := s) (S := S) (m0 := m0) (d := d)   (BE := B505 + 0) (by omega) (by omega) (fun  m507 B508 hJ509 hBB508 => ?_) ((28 - 0 : Int).toNat + 1) 0 m504 (B505) (hJ506.up (by omega)) (by omega)  (by omega) (by omega)
  refine X.iconst 99 i262_98 rfl rfl (by decide) ?_
  refine X.istore_n 100 [(0, zr 4 44), (1, zi 0)] i262_99 rfl rfl rfl ?_
  refine l262_100_1 (s := s) (S := S) (m0 := m0) (d := d)   (BE := B508 + 0) (by omega) (by omega) (fun  m510 B511 hJ512 hBB511 => ?_) ((365 - 0 : Int).toNat + 1) 0 m507 (B508) (hJ509.up (by omega)) (by omega)  (by omega) (by omega)
  refine X.aload_n 127 i262_126 rfl rfl rfl ?_
  refine X.iconst 128 i262_127 rfl rfl (by decide) ?_
  refine X.putI' 131 13 i262_128 rfl rfl (by decide) rfl rfl rfl (fun hrm513 m513 hm513 => ?_)
  have hJ514 := w44_10 hJ512 hm513 (by omega) hrm513
  refine X.aload_n 132 i262_131 rfl rfl rfl ?_
  refine X.iconst 133 i262_132 rfl rfl (by decide) ?_
  refine X.putZ' 136 14 i262_133 rfl rfl (by decide) rfl rfl rfl (by omega) (fun hrm515 m515 hm515 => ?_)
  have hJ516 := w44_14 hJ514 hm515 (by omega)
  refine X.retv i262_136 rfl t262 ?_
  exact hQ  m515  (hJ516.up (by omega)) 
theorem l263_0_1 {s : Nat × (Nat → Int32)} {S : zS} {m0 : zM} {d : Nat} {Q : Option zV → zM → Prop} (BE : Int) (hE : BE ≤ 1000000000) (hd : 13 ≤ d)
    (K38 : ∀ (m' : zM) (B' : Int), J S m0 B' m' → B' ≤ BE → X (EE s) d 263 38 [] [] m' Q) :
    ∀ (n : Nat) (m : zM) (B : Int), J S m0 B m → B + 0 * (n : Int) ≤ BE → 300 - m 4 44 8 < (n : Int) → X (EE s) d 263 0 [(0, zr 4 44)] [] m Q := by
  intro n
  induction n with
  | zero =>
    intro  m B hJ hB   hn
    have zf0 := r44_8 hJ 4
    exfalso
    omega
  | succ n ih =>
    intro  m B hJ hB   hn
    refine X.aload_n 1 i263_0 rfl rfl rfl ?_
    refine X.getI 4 8 i263_1 rfl rfl (by decide) rfl rfl rfl ?_
    have h508 := r44_8 hJ 4
    refine X.aload_n 5 i263_4 rfl rfl rfl ?_
    refine X.getI 8 5 i263_5 rfl rfl (by decide) rfl rfl rfl ?_
    have h509 := r44_5 hJ 4
    refine X.icmpge 38 11 i263_8 rfl rfl rfl (fun h510 => ?_) (fun h510 => ?_)
    · refine X.cut [] i263_38 rfl ?_
      exact K38  m (B) (hJ.up (by omega)) (by omega)  
    · refine X.aload_n 12 i263_11 rfl rfl rfl ?_
      refine X.getF 15 i263_12 rfl rfl (by decide) rfl rfl ?_
      refine X.aload_n 16 i263_15 rfl rfl rfl ?_
      refine X.getI 19 8 i263_16 rfl rfl (by decide) rfl rfl rfl ?_
      refine X.bald 20 i263_19 rfl rfl (by decide) rfl (by omega) (fun h511 => ?_)
      refine X.bipush 22 i263_20 rfl rfl (by decide) ?_
      refine X.icmpne 38 25 i263_22 rfl rfl rfl (fun h512 => ?_) (fun h512 => ?_)
      · refine X.cut [] i263_38 rfl ?_
        exact K38  m (B) (hJ.up (by omega)) (by omega)  
      · refine X.aload_n 26 i263_25 rfl rfl rfl ?_
        refine X.dup 27 i263_26 rfl rfl rfl ?_
        refine X.getI 30 8 i263_27 rfl rfl (by decide) rfl rfl rfl ?_
        refine X.iconst 31 i263_30 rfl rfl (by decide) ?_
        refine X.iadd 32 i263_31 rfl rfl (by omega) ?_
        refine X.putI' 35 8 i263_32 rfl rfl (by decide) rfl rfl rfl (fun hrm513 m513 hm513 => ?_)
        have rmm513 := r44_8 hJ 4
        have hJ514 := w44_8 hJ hm513 (by omega) (.inl (by omega))
        have em513 : m513 4 44 8 = ((m 4 44 8) + 1) := by rw [hm513]; exact z_upd_same _ _ _ _ _
        refine X.goto 0 i263_35 rfl rfl ?_
        exact ih  m513 (B) (hJ514.up (by omega)) (by omega)   (by omega)
-- WorkMeterModel.blanks
theorem c263_1 {s : Nat × (Nat → Int32)} {S : zS} {m0 m : zM} {B : Int} {d : Nat} {Q : Option zV → zM → Prop} (hd : 13 ≤ d) (hJ : J S m0 B m) (hB : B + 0 ≤ 1000000000) (hQ : ∀ m', J S m0 (B) m' → Q none m') : X (EE s) d 263 0 [(0, zr 4 44)] [] m Q := by
  refine l263_0_1 (s := s) (S := S) (m0 := m0) (d := d)   (BE := B + 0) (by omega) (by omega) (fun  m501 B502 hJ503 hBB502 => ?_) ((300 - m 4 44 8 : Int).toNat + 1)  m (B) (hJ.up (by omega)) (by omega)   (by omega)
  refine X.retv i263_38 rfl t263 ?_
  exact hQ  m501  (hJ503.up (by omega)) 
theorem l267_5_1 {s : Nat × (Nat → Int32)} {S : zS} {m0 m : zM} {B : Int} {d : Nat} {Q : Option zV → zM → Prop} (hd : 13 ≤ d) (hJ : J S m0 B m) (hB9 : B ≤ 1000000000)
    (K38 : ∀ (x1 : Int) , (0 ≤ x1 ∧ x1 ≤ 300) → (m 4 44 8 ≤ x1) → X (EE s) d 267 38 [(1, zi x1)] [] m Q) :
    ∀ (n : Nat) (y1 : Int) , (0 ≤ y1 ∧ y1 ≤ 300) → (m 4 44 8 ≤ y1) → 300 - y1 < (n : Int) → X (EE s) d 267 5 [(0, zr 4 44), (1, zi y1)] [] m Q := by
  intro n
  induction n with
  | zero =>
    intro y1 hy1 hr0 hn
    exfalso
    omega
  | succ n ih =>
    intro y1 hy1 hr0 hn
    refine X.iload_n 6 i267_5 rfl rfl rfl ?_
    refine X.aload_n 7 i267_6 rfl rfl rfl ?_
    refine X.getI 10 5 i267_7 rfl rfl (by decide) rfl rfl rfl ?_
    have h512 := r44_5 hJ 4
    refine X.icmpge 38 13 i267_10 rfl rfl rfl (fun h513 => ?_) (fun h513 => ?_)
    · refine X.cut [(1, zi y1)] i267_38 rfl ?_
      exact K38 y1 (by first | trivial | omega) (by omega)
    · refine X.aload_n 14 i267_13 rfl rfl rfl ?_
      refine X.getF 17 i267_14 rfl rfl (by decide) rfl rfl ?_
      refine X.iload_n 18 i267_17 rfl rfl rfl ?_
      refine X.bald 19 i267_18 rfl rfl (by decide) rfl (by omega) (fun h514 => ?_)
      refine X.i2l 20 i267_19 rfl rfl ?_
      refine X.ldc2 23 i267_20 rfl rfl (by decide) ?_
      refine X.ldc2 26 i267_23 rfl rfl (by decide) ?_
      refine X.calls 29 [zl (m 4 48 y1), zl 97, zl 122] [] [(0, zl (m 4 48 y1)), (2, zl 97), (4, zl 122)] i267_26 (by decide) rfl rfl (by omega) rfl rfl t204 (Nat.le_of_ble_eq_true rfl) (Nat.le_of_ble_eq_true rfl) rfl ?_
      refine X.lload_n 1 i204_0 rfl rfl rfl ?_
      refine X.lload_n 2 i204_1 rfl rfl rfl ?_
      refine X.lcmp 3 i204_2 rfl rfl (fun z515 hz515 => ?_)
      refine X.iflt 17 6 i204_3 rfl rfl rfl (fun h516 => ?_) (fun h516 => ?_)
      · have h516c : (m 4 48 y1) < 97 := by omega
        clear h516 hz515
        refine X.cut [] i204_17 rfl ?_
        refine X.iconst 18 i204_17 rfl rfl (by decide) ?_
        refine X.retz i204_18 rfl t204 (by omega) ?_
        show X (EE s) d 267 29 [(0, zr 4 44), (1, zi y1)] [zi 0] m _
        refine X.ifeq 38 32 i267_29 rfl rfl rfl (fun h517 => ?_) (fun h517 => (by exfalso; omega))
        refine X.cut [(1, zi y1)] i267_38 rfl ?_
        exact K38 y1 (by first | trivial | omega) (by omega)
      · have h516c : (m 4 48 y1) ≥ 97 := by omega
        clear h516 hz515
        refine X.lload_n 7 i204_6 rfl rfl rfl ?_
        refine X.lload 9 i204_7 rfl rfl rfl ?_
        refine X.lcmp 10 i204_9 rfl rfl (fun z518 hz518 => ?_)
        refine X.ifgt 17 13 i204_10 rfl rfl rfl (fun h519 => ?_) (fun h519 => ?_)
        · have h519c : (m 4 48 y1) > 122 := by omega
          clear h519 hz518
          refine X.cut [] i204_17 rfl ?_
          refine X.iconst 18 i204_17 rfl rfl (by decide) ?_
          refine X.retz i204_18 rfl t204 (by omega) ?_
          show X (EE s) d 267 29 [(0, zr 4 44), (1, zi y1)] [zi 0] m _
          refine X.ifeq 38 32 i267_29 rfl rfl rfl (fun h520 => ?_) (fun h520 => (by exfalso; omega))
          refine X.cut [(1, zi y1)] i267_38 rfl ?_
          exact K38 y1 (by first | trivial | omega) (by omega)
        · have h519c : (m 4 48 y1) ≤ 122 := by omega
          clear h519 hz518
          refine X.iconst 14 i204_13 rfl rfl (by decide) ?_
          refine X.goto 18 i204_14 rfl rfl ?_
          refine X.cut [] i204_18 rfl ?_
          refine X.retz i204_18 rfl t204 (by omega) ?_
          show X (EE s) d 267 29 [(0, zr 4 44), (1, zi y1)] [zi 1] m _
          refine X.ifeq 38 32 i267_29 rfl rfl rfl (fun h521 => (by exfalso; omega)) (fun h521 => ?_)
          refine X.iinc 35 [(0, zr 4 44), (1, zi (y1 + 1))] i267_32 rfl rfl rfl (by omega) rfl ?_
          refine X.goto 5 i267_35 rfl rfl ?_
          exact ih (y1 + 1) (by omega) (by omega) (by omega)
-- WorkMeterModel.wordEnd
theorem c267_1 {s : Nat × (Nat → Int32)} {S : zS} {m0 m : zM} {B : Int} {d : Nat} {Q : Option zV → zM → Prop} (hd : 13 ≤ d) (hJ : J S m0 B m) (hB : B + 0 ≤ 1000000000) (hQ : ∀ (v : Int), (0 ≤ v ∧ v ≤ 300) → (m 4 44 8 ≤ v) → Q (some (zi v)) m) : X (EE s) d 267 0 [(0, zr 4 44)] [] m Q := by
  refine X.aload_n 1 i267_0 rfl rfl rfl ?_
  refine X.getI 4 8 i267_1 rfl rfl (by decide) rfl rfl rfl ?_
  have h501 := r44_8 hJ 4
  refine X.istore_n 5 [(0, zr 4 44), (1, zi (m 4 44 8))] i267_4 rfl rfl rfl ?_
  refine l267_5_1 (s := s) (S := S) (m0 := m0) (m := m) (B := B) (d := d)   (by omega) (hJ.up (by omega)) (by omega) (fun y502 hby502 hrlm5030 => ?_) ((300 - (m 4 44 8) : Int).toNat + 1) (m 4 44 8) (by omega) (by omega) (by omega)
  refine X.iload_n 39 i267_38 rfl rfl rfl ?_
  refine X.reti i267_39 rfl t267 ?_
  exact hQ y502 (by first | trivial | omega) (by omega)
-- WorkMeterModel.spells
theorem c266_1 {s : Nat × (Nat → Int32)} {S : zS} {m0 m : zM} {B : Int} {d : Nat} {Q : Option zV → zM → Prop} (a1 a2 a3 a4 a5 a6 a7 a8 : Int) (hd : 14 ≤ d) (hJ : J S m0 B m) (hB : B + 0 ≤ 1000000000) (ha1 : 5 ≤ a1 ∧ a1 ≤ 7) (ha2 : 116 ≤ a2 ∧ a2 ≤ 116) (ha3 : 97 ≤ a3 ∧ a3 ≤ 97) (ha4 : 98 ≤ a4 ∧ a4 ≤ 98) (ha5 : 108 ≤ a5 ∧ a5 ≤ 108) (ha6 : 101 ≤ a6 ∧ a6 ≤ 101) (ha7 : 0 ≤ a7 ∧ a7 ≤ 0) (ha8 : 0 ≤ a8 ∧ a8 ≤ 0) (hQ : ∀ (v : Int), (0 ≤ v ∧ v ≤ 1) → Q (some (zi v)) m) : X (EE s) d 266 0 [(0, zr 4 44), (1, zi a1), (2, zi a2), (3, zi a3), (4, zi a4), (5, zi a5), (6, zi a6), (7, zi a7), (8, zi a8)] [] m Q := by
  refine X.aload_n 1 i266_0 rfl rfl rfl ?_
  refine X.callv 4 [] [] [(0, zr 4 44)] i266_1 rfl (by decide) rfl rfl (by omega) rfl rfl (by decide) rfl t267 (Nat.le_of_ble_eq_true rfl) (Nat.le_of_ble_eq_true rfl) rfl ?_
  refine c267_1 (B := B)   (by omega) (hJ.up (by omega)) (by omega)  (fun v503 hv503 hqv5030 => ?_)
  show X (EE s) d 266 4 [(0, zr 4 44), (1, zi a1), (2, zi a2), (3, zi a3), (4, zi a4), (5, zi a5), (6, zi a6), (7, zi a7), (8, zi a8)] [zi v503] m _
  refine X.aload_n 5 i266_4 rfl rfl rfl ?_
  refine X.getI 8 8 i266_5 rfl rfl (by decide) rfl rfl rfl ?_
  have h504 := r44_8 hJ 4
  refine X.iload_n 9 i266_8 rfl rfl rfl ?_
  refine X.iadd 10 i266_9 rfl rfl (by omega) ?_
  refine X.icmpne 89 13 i266_10 rfl rfl rfl (fun h505 => ?_) (fun h505 => ?_)
  · refine X.cut [] i266_89 rfl ?_
    refine X.iconst 90 i266_89 rfl rfl (by decide) ?_
    refine X.retz i266_90 rfl t266 (by omega) ?_
    exact hQ 0 (by first | trivial | omega) 
  · refine X.aload_n 14 i266_13 rfl rfl rfl ?_
    refine X.getF 17 i266_14 rfl rfl (by decide) rfl rfl ?_
    refine X.aload_n 18 i266_17 rfl rfl rfl ?_
    refine X.getI 21 8 i266_18 rfl rfl (by decide) rfl rfl rfl ?_
    refine X.bald 22 i266_21 rfl rfl (by decide) rfl (by omega) (fun h506 => ?_)
    refine X.iload_n 23 i266_22 rfl rfl rfl ?_
    refine X.icmpne 89 26 i266_23 rfl rfl rfl (fun h507 => ?_) (fun h507 => ?_)
    · refine X.cut [] i266_89 rfl ?_
      refine X.iconst 90 i266_89 rfl rfl (by decide) ?_
      refine X.retz i266_90 rfl t266 (by omega) ?_
      exact hQ 0 (by first | trivial | omega) 
    · refine X.aload_n 27 i266_26 rfl rfl rfl ?_
      refine X.getF 30 i266_27 rfl rfl (by decide) rfl rfl ?_
      refine X.aload_n 31 i266_30 rfl rfl rfl ?_
      refine X.getI 34 8 i266_31 rfl rfl (by decide) rfl rfl rfl ?_
      refine X.iconst 35 i266_34 rfl rfl (by decide) ?_
      refine X.iadd 36 i266_35 rfl rfl (by omega) ?_
      refine X.bald 37 i266_36 rfl rfl (by decide) rfl (by omega) (fun h508 => ?_)
      refine X.iload_n 38 i266_37 rfl rfl rfl ?_
      refine X.icmpne 89 41 i266_38 rfl rfl rfl (fun h509 => ?_) (fun h509 => ?_)
      · refine X.cut [] i266_89 rfl ?_
        refine X.iconst 90 i266_89 rfl rfl (by decide) ?_
        refine X.retz i266_90 rfl t266 (by omega) ?_
        exact hQ 0 (by first | trivial | omega) 
      · refine X.aload_n 42 i266_41 rfl rfl rfl ?_
        refine X.getF 45 i266_42 rfl rfl (by decide) rfl rfl ?_
        refine X.aload_n 46 i266_45 rfl rfl rfl ?_
        refine X.getI 49 8 i266_46 rfl rfl (by decide) rfl rfl rfl ?_
        refine X.iconst 50 i266_49 rfl rfl (by decide) ?_
        refine X.iadd 51 i266_50 rfl rfl (by omega) ?_
        refine X.bald 52 i266_51 rfl rfl (by decide) rfl (by omega) (fun h510 => ?_)
        refine X.iload 54 i266_52 rfl rfl rfl ?_
        refine X.icmpne 89 57 i266_54 rfl rfl rfl (fun h511 => ?_) (fun h511 => ?_)
        · refine X.cut [] i266_89 rfl ?_
          refine X.iconst 90 i266_89 rfl rfl (by decide) ?_
          refine X.retz i266_90 rfl t266 (by omega) ?_
          exact hQ 0 (by first | trivial | omega) 
        · refine X.aload_n 58 i266_57 rfl rfl rfl ?_
          refine X.getF 61 i266_58 rfl rfl (by decide) rfl rfl ?_
          refine X.aload_n 62 i266_61 rfl rfl rfl ?_
          refine X.getI 65 8 i266_62 rfl rfl (by decide) rfl rfl rfl ?_
          refine X.iconst 66 i266_65 rfl rfl (by decide) ?_
          refine X.iadd 67 i266_66 rfl rfl (by omega) ?_
          refine X.bald 68 i266_67 rfl rfl (by decide) rfl (by omega) (fun h512 => ?_)
          refine X.iload 70 i266_68 rfl rfl rfl ?_
          refine X.icmpne 89 73 i266_70 rfl rfl rfl (fun h513 => ?_) (fun h513 => ?_)
          · refine X.cut [] i266_89 rfl ?_
            refine X.iconst 90 i266_89 rfl rfl (by decide) ?_
            refine X.retz i266_90 rfl t266 (by omega) ?_
            exact hQ 0 (by first | trivial | omega) 
          · refine X.aload_n 74 i266_73 rfl rfl rfl ?_
            refine X.getF 77 i266_74 rfl rfl (by decide) rfl rfl ?_
            refine X.aload_n 78 i266_77 rfl rfl rfl ?_
            refine X.getI 81 8 i266_78 rfl rfl (by decide) rfl rfl rfl ?_
            refine X.iconst 82 i266_81 rfl rfl (by decide) ?_
            refine X.iadd 83 i266_82 rfl rfl (by omega) ?_
            refine X.bald 84 i266_83 rfl rfl (by decide) rfl (by omega) (fun h514 => ?_)
            refine X.iload 86 i266_84 rfl rfl rfl ?_
            refine X.icmpeq 91 89 i266_86 rfl rfl rfl (fun h515 => ?_) (fun h515 => ?_)
            · refine X.cut [(0, zr 4 44), (1, zi a1), (7, zi a7), (8, zi a8)] i266_91 rfl ?_
              refine X.iload_n 92 i266_91 rfl rfl rfl ?_
              refine X.bipush 94 i266_92 rfl rfl (by decide) ?_
              refine X.icmplt 113 97 i266_94 rfl rfl rfl (fun h516 => ?_) (fun h516 => ?_)
              · refine X.cut [(0, zr 4 44), (1, zi a1), (8, zi a8)] i266_113 rfl ?_
                refine X.iload_n 114 i266_113 rfl rfl rfl ?_
                refine X.bipush 116 i266_114 rfl rfl (by decide) ?_
                refine X.icmplt 136 119 i266_116 rfl rfl rfl (fun h517 => ?_) (fun h517 => (by exfalso; omega))
                refine X.cut [] i266_136 rfl ?_
                refine X.iconst 137 i266_136 rfl rfl (by decide) ?_
                refine X.goto 141 i266_137 rfl rfl ?_
                refine X.retz i266_141 rfl t266 (by omega) ?_
                exact hQ 1 (by first | trivial | omega) 
              · refine X.aload_n 98 i266_97 rfl rfl rfl ?_
                refine X.getF 101 i266_98 rfl rfl (by decide) rfl rfl ?_
                refine X.aload_n 102 i266_101 rfl rfl rfl ?_
                refine X.getI 105 8 i266_102 rfl rfl (by decide) rfl rfl rfl ?_
                refine X.iconst 106 i266_105 rfl rfl (by decide) ?_
                refine X.iadd 107 i266_106 rfl rfl (by omega) ?_
                refine X.bald 108 i266_107 rfl rfl (by decide) rfl (by omega) (fun h518 => ?_)
                refine X.iload 110 i266_108 rfl rfl rfl ?_
                refine X.icmpne 140 113 i266_110 rfl rfl rfl (fun h519 => ?_) (fun h519 => ?_)
                · refine X.cut [] i266_140 rfl ?_
                  refine X.iconst 141 i266_140 rfl rfl (by decide) ?_
                  refine X.retz i266_141 rfl t266 (by omega) ?_
                  exact hQ 0 (by first | trivial | omega) 
                · refine X.cut [(0, zr 4 44), (1, zi a1), (8, zi a8)] i266_113 rfl ?_
                  refine X.iload_n 114 i266_113 rfl rfl rfl ?_
                  refine X.bipush 116 i266_114 rfl rfl (by decide) ?_
                  refine X.icmplt 136 119 i266_116 rfl rfl rfl (fun h520 => ?_) (fun h520 => ?_)
                  · refine X.cut [] i266_136 rfl ?_
                    refine X.iconst 137 i266_136 rfl rfl (by decide) ?_
                    refine X.goto 141 i266_137 rfl rfl ?_
                    refine X.retz i266_141 rfl t266 (by omega) ?_
                    exact hQ 1 (by first | trivial | omega) 
                  · refine X.aload_n 120 i266_119 rfl rfl rfl ?_
                    refine X.getF 123 i266_120 rfl rfl (by decide) rfl rfl ?_
                    refine X.aload_n 124 i266_123 rfl rfl rfl ?_
                    refine X.getI 127 8 i266_124 rfl rfl (by decide) rfl rfl rfl ?_
                    refine X.bipush 129 i266_127 rfl rfl (by decide) ?_
                    refine X.iadd 130 i266_129 rfl rfl (by omega) ?_
                    refine X.bald 131 i266_130 rfl rfl (by decide) rfl (by omega) (fun h521 => ?_)
                    refine X.iload 133 i266_131 rfl rfl rfl ?_
                    refine X.icmpne 140 136 i266_133 rfl rfl rfl (fun h522 => ?_) (fun h522 => ?_)
                    · refine X.cut [] i266_140 rfl ?_
                      refine X.iconst 141 i266_140 rfl rfl (by decide) ?_
                      refine X.retz i266_141 rfl t266 (by omega) ?_
                      exact hQ 0 (by first | trivial | omega) 
                    · refine X.cut [] i266_136 rfl ?_
                      refine X.iconst 137 i266_136 rfl rfl (by decide) ?_
                      refine X.goto 141 i266_137 rfl rfl ?_
                      refine X.retz i266_141 rfl t266 (by omega) ?_
                      exact hQ 1 (by first | trivial | omega) 
            · refine X.cut [] i266_89 rfl ?_
              refine X.iconst 90 i266_89 rfl rfl (by decide) ?_
              refine X.retz i266_90 rfl t266 (by omega) ?_
              exact hQ 0 (by first | trivial | omega) 
-- WorkMeterModel.spells
theorem c266_2 {s : Nat × (Nat → Int32)} {S : zS} {m0 m : zM} {B : Int} {d : Nat} {Q : Option zV → zM → Prop} (a1 a2 a3 a4 a5 a6 a7 a8 : Int) (hd : 14 ≤ d) (hJ : J S m0 B m) (hB : B + 0 ≤ 1000000000) (ha1 : 5 ≤ a1 ∧ a1 ≤ 7) (ha2 : 115 ≤ a2 ∧ a2 ≤ 115) (ha3 : 101 ≤ a3 ∧ a3 ≤ 101) (ha4 : 97 ≤ a4 ∧ a4 ≤ 97) (ha5 : 115 ≤ a5 ∧ a5 ≤ 115) (ha6 : 111 ≤ a6 ∧ a6 ≤ 111) (ha7 : 110 ≤ a7 ∧ a7 ≤ 110) (ha8 : 0 ≤ a8 ∧ a8 ≤ 0) (hQ : ∀ (v : Int), (0 ≤ v ∧ v ≤ 1) → Q (some (zi v)) m) : X (EE s) d 266 0 [(0, zr 4 44), (1, zi a1), (2, zi a2), (3, zi a3), (4, zi a4), (5, zi a5), (6, zi a6), (7, zi a7), (8, zi a8)] [] m Q := by
  refine X.aload_n 1 i266_0 rfl rfl rfl ?_
  refine X.callv 4 [] [] [(0, zr 4 44)] i266_1 rfl (by decide) rfl rfl (by omega) rfl rfl (by decide) rfl t267 (Nat.le_of_ble_eq_true rfl) (Nat.le_of_ble_eq_true rfl) rfl ?_
  refine c267_1 (B := B)   (by omega) (hJ.up (by omega)) (by omega)  (fun v503 hv503 hqv5030 => ?_)
  show X (EE s) d 266 4 [(0, zr 4 44), (1, zi a1), (2, zi a2), (3, zi a3), (4, zi a4), (5, zi a5), (6, zi a6), (7, zi a7), (8, zi a8)] [zi v503] m _
  refine X.aload_n 5 i266_4 rfl rfl rfl ?_
  refine X.getI 8 8 i266_5 rfl rfl (by decide) rfl rfl rfl ?_
  have h504 := r44_8 hJ 4
  refine X.iload_n 9 i266_8 rfl rfl rfl ?_
  refine X.iadd 10 i266_9 rfl rfl (by omega) ?_
  refine X.icmpne 89 13 i266_10 rfl rfl rfl (fun h505 => ?_) (fun h505 => ?_)
  · refine X.cut [] i266_89 rfl ?_
    refine X.iconst 90 i266_89 rfl rfl (by decide) ?_
    refine X.retz i266_90 rfl t266 (by omega) ?_
    exact hQ 0 (by first | trivial | omega) 
  · refine X.aload_n 14 i266_13 rfl rfl rfl ?_
    refine X.getF 17 i266_14 rfl rfl (by decide) rfl rfl ?_
    refine X.aload_n 18 i266_17 rfl rfl rfl ?_
    refine X.getI 21 8 i266_18 rfl rfl (by decide) rfl rfl rfl ?_
    refine X.bald 22 i266_21 rfl rfl (by decide) rfl (by omega) (fun h506 => ?_)
    refine X.iload_n 23 i266_22 rfl rfl rfl ?_
    refine X.icmpne 89 26 i266_23 rfl rfl rfl (fun h507 => ?_) (fun h507 => ?_)
    · refine X.cut [] i266_89 rfl ?_
      refine X.iconst 90 i266_89 rfl rfl (by decide) ?_
      refine X.retz i266_90 rfl t266 (by omega) ?_
      exact hQ 0 (by first | trivial | omega) 
    · refine X.aload_n 27 i266_26 rfl rfl rfl ?_
      refine X.getF 30 i266_27 rfl rfl (by decide) rfl rfl ?_
      refine X.aload_n 31 i266_30 rfl rfl rfl ?_
      refine X.getI 34 8 i266_31 rfl rfl (by decide) rfl rfl rfl ?_
      refine X.iconst 35 i266_34 rfl rfl (by decide) ?_
      refine X.iadd 36 i266_35 rfl rfl (by omega) ?_
      refine X.bald 37 i266_36 rfl rfl (by decide) rfl (by omega) (fun h508 => ?_)
      refine X.iload_n 38 i266_37 rfl rfl rfl ?_
      refine X.icmpne 89 41 i266_38 rfl rfl rfl (fun h509 => ?_) (fun h509 => ?_)
      · refine X.cut [] i266_89 rfl ?_
        refine X.iconst 90 i266_89 rfl rfl (by decide) ?_
        refine X.retz i266_90 rfl t266 (by omega) ?_
        exact hQ 0 (by first | trivial | omega) 
      · refine X.aload_n 42 i266_41 rfl rfl rfl ?_
        refine X.getF 45 i266_42 rfl rfl (by decide) rfl rfl ?_
        refine X.aload_n 46 i266_45 rfl rfl rfl ?_
        refine X.getI 49 8 i266_46 rfl rfl (by decide) rfl rfl rfl ?_
        refine X.iconst 50 i266_49 rfl rfl (by decide) ?_
        refine X.iadd 51 i266_50 rfl rfl (by omega) ?_
        refine X.bald 52 i266_51 rfl rfl (by decide) rfl (by omega) (fun h510 => ?_)
        refine X.iload 54 i266_52 rfl rfl rfl ?_
        refine X.icmpne 89 57 i266_54 rfl rfl rfl (fun h511 => ?_) (fun h511 => ?_)
        · refine X.cut [] i266_89 rfl ?_
          refine X.iconst 90 i266_89 rfl rfl (by decide) ?_
          refine X.retz i266_90 rfl t266 (by omega) ?_
          exact hQ 0 (by first | trivial | omega) 
        · refine X.aload_n 58 i266_57 rfl rfl rfl ?_
          refine X.getF 61 i266_58 rfl rfl (by decide) rfl rfl ?_
          refine X.aload_n 62 i266_61 rfl rfl rfl ?_
          refine X.getI 65 8 i266_62 rfl rfl (by decide) rfl rfl rfl ?_
          refine X.iconst 66 i266_65 rfl rfl (by decide) ?_
          refine X.iadd 67 i266_66 rfl rfl (by omega) ?_
          refine X.bald 68 i266_67 rfl rfl (by decide) rfl (by omega) (fun h512 => ?_)
          refine X.iload 70 i266_68 rfl rfl rfl ?_
          refine X.icmpne 89 73 i266_70 rfl rfl rfl (fun h513 => ?_) (fun h513 => ?_)
          · refine X.cut [] i266_89 rfl ?_
            refine X.iconst 90 i266_89 rfl rfl (by decide) ?_
            refine X.retz i266_90 rfl t266 (by omega) ?_
            exact hQ 0 (by first | trivial | omega) 
          · refine X.aload_n 74 i266_73 rfl rfl rfl ?_
            refine X.getF 77 i266_74 rfl rfl (by decide) rfl rfl ?_
            refine X.aload_n 78 i266_77 rfl rfl rfl ?_
            refine X.getI 81 8 i266_78 rfl rfl (by decide) rfl rfl rfl ?_
            refine X.iconst 82 i266_81 rfl rfl (by decide) ?_
            refine X.iadd 83 i266_82 rfl rfl (by omega) ?_
            refine X.bald 84 i266_83 rfl rfl (by decide) rfl (by omega) (fun h514 => ?_)
            refine X.iload 86 i266_84 rfl rfl rfl ?_
            refine X.icmpeq 91 89 i266_86 rfl rfl rfl (fun h515 => ?_) (fun h515 => ?_)
            · refine X.cut [(0, zr 4 44), (1, zi a1), (7, zi a7), (8, zi a8)] i266_91 rfl ?_
              refine X.iload_n 92 i266_91 rfl rfl rfl ?_
              refine X.bipush 94 i266_92 rfl rfl (by decide) ?_
              refine X.icmplt 113 97 i266_94 rfl rfl rfl (fun h516 => ?_) (fun h516 => ?_)
              · refine X.cut [(0, zr 4 44), (1, zi a1), (8, zi a8)] i266_113 rfl ?_
                refine X.iload_n 114 i266_113 rfl rfl rfl ?_
                refine X.bipush 116 i266_114 rfl rfl (by decide) ?_
                refine X.icmplt 136 119 i266_116 rfl rfl rfl (fun h517 => ?_) (fun h517 => (by exfalso; omega))
                refine X.cut [] i266_136 rfl ?_
                refine X.iconst 137 i266_136 rfl rfl (by decide) ?_
                refine X.goto 141 i266_137 rfl rfl ?_
                refine X.retz i266_141 rfl t266 (by omega) ?_
                exact hQ 1 (by first | trivial | omega) 
              · refine X.aload_n 98 i266_97 rfl rfl rfl ?_
                refine X.getF 101 i266_98 rfl rfl (by decide) rfl rfl ?_
                refine X.aload_n 102 i266_101 rfl rfl rfl ?_
                refine X.getI 105 8 i266_102 rfl rfl (by decide) rfl rfl rfl ?_
                refine X.iconst 106 i266_105 rfl rfl (by decide) ?_
                refine X.iadd 107 i266_106 rfl rfl (by omega) ?_
                refine X.bald 108 i266_107 rfl rfl (by decide) rfl (by omega) (fun h518 => ?_)
                refine X.iload 110 i266_108 rfl rfl rfl ?_
                refine X.icmpne 140 113 i266_110 rfl rfl rfl (fun h519 => ?_) (fun h519 => ?_)
                · refine X.cut [] i266_140 rfl ?_
                  refine X.iconst 141 i266_140 rfl rfl (by decide) ?_
                  refine X.retz i266_141 rfl t266 (by omega) ?_
                  exact hQ 0 (by first | trivial | omega) 
                · refine X.cut [(0, zr 4 44), (1, zi a1), (8, zi a8)] i266_113 rfl ?_
                  refine X.iload_n 114 i266_113 rfl rfl rfl ?_
                  refine X.bipush 116 i266_114 rfl rfl (by decide) ?_
                  refine X.icmplt 136 119 i266_116 rfl rfl rfl (fun h520 => ?_) (fun h520 => ?_)
                  · refine X.cut [] i266_136 rfl ?_
                    refine X.iconst 137 i266_136 rfl rfl (by decide) ?_
                    refine X.goto 141 i266_137 rfl rfl ?_
                    refine X.retz i266_141 rfl t266 (by omega) ?_
                    exact hQ 1 (by first | trivial | omega) 
                  · refine X.aload_n 120 i266_119 rfl rfl rfl ?_
                    refine X.getF 123 i266_120 rfl rfl (by decide) rfl rfl ?_
                    refine X.aload_n 124 i266_123 rfl rfl rfl ?_
                    refine X.getI 127 8 i266_124 rfl rfl (by decide) rfl rfl rfl ?_
                    refine X.bipush 129 i266_127 rfl rfl (by decide) ?_
                    refine X.iadd 130 i266_129 rfl rfl (by omega) ?_
                    refine X.bald 131 i266_130 rfl rfl (by decide) rfl (by omega) (fun h521 => ?_)
                    refine X.iload 133 i266_131 rfl rfl rfl ?_
                    refine X.icmpne 140 136 i266_133 rfl rfl rfl (fun h522 => ?_) (fun h522 => ?_)
                    · refine X.cut [] i266_140 rfl ?_
                      refine X.iconst 141 i266_140 rfl rfl (by decide) ?_
                      refine X.retz i266_141 rfl t266 (by omega) ?_
                      exact hQ 0 (by first | trivial | omega) 
                    · refine X.cut [] i266_136 rfl ?_
                      refine X.iconst 137 i266_136 rfl rfl (by decide) ?_
                      refine X.goto 141 i266_137 rfl rfl ?_
                      refine X.retz i266_141 rfl t266 (by omega) ?_
                      exact hQ 1 (by first | trivial | omega) 
            · refine X.cut [] i266_89 rfl ?_
              refine X.iconst 90 i266_89 rfl rfl (by decide) ?_
              refine X.retz i266_90 rfl t266 (by omega) ?_
              exact hQ 0 (by first | trivial | omega) 
-- WorkMeterModel.spells
theorem c266_3 {s : Nat × (Nat → Int32)} {S : zS} {m0 m : zM} {B : Int} {d : Nat} {Q : Option zV → zM → Prop} (a1 a2 a3 a4 a5 a6 a7 a8 : Int) (hd : 14 ≤ d) (hJ : J S m0 B m) (hB : B + 0 ≤ 1000000000) (ha1 : 5 ≤ a1 ∧ a1 ≤ 7) (ha2 : 115 ≤ a2 ∧ a2 ≤ 115) (ha3 : 112 ≤ a3 ∧ a3 ≤ 112) (ha4 : 101 ≤ a4 ∧ a4 ≤ 101) (ha5 : 99 ≤ a5 ∧ a5 ≤ 99) (ha6 : 105 ≤ a6 ∧ a6 ≤ 105) (ha7 : 97 ≤ a7 ∧ a7 ≤ 97) (ha8 : 108 ≤ a8 ∧ a8 ≤ 108) (hQ : ∀ (v : Int), (0 ≤ v ∧ v ≤ 1) → Q (some (zi v)) m) : X (EE s) d 266 0 [(0, zr 4 44), (1, zi a1), (2, zi a2), (3, zi a3), (4, zi a4), (5, zi a5), (6, zi a6), (7, zi a7), (8, zi a8)] [] m Q := by
  refine X.aload_n 1 i266_0 rfl rfl rfl ?_
  refine X.callv 4 [] [] [(0, zr 4 44)] i266_1 rfl (by decide) rfl rfl (by omega) rfl rfl (by decide) rfl t267 (Nat.le_of_ble_eq_true rfl) (Nat.le_of_ble_eq_true rfl) rfl ?_
  refine c267_1 (B := B)   (by omega) (hJ.up (by omega)) (by omega)  (fun v503 hv503 hqv5030 => ?_)
  show X (EE s) d 266 4 [(0, zr 4 44), (1, zi a1), (2, zi a2), (3, zi a3), (4, zi a4), (5, zi a5), (6, zi a6), (7, zi a7), (8, zi a8)] [zi v503] m _
  refine X.aload_n 5 i266_4 rfl rfl rfl ?_
  refine X.getI 8 8 i266_5 rfl rfl (by decide) rfl rfl rfl ?_
  have h504 := r44_8 hJ 4
  refine X.iload_n 9 i266_8 rfl rfl rfl ?_
  refine X.iadd 10 i266_9 rfl rfl (by omega) ?_
  refine X.icmpne 89 13 i266_10 rfl rfl rfl (fun h505 => ?_) (fun h505 => ?_)
  · refine X.cut [] i266_89 rfl ?_
    refine X.iconst 90 i266_89 rfl rfl (by decide) ?_
    refine X.retz i266_90 rfl t266 (by omega) ?_
    exact hQ 0 (by first | trivial | omega) 
  · refine X.aload_n 14 i266_13 rfl rfl rfl ?_
    refine X.getF 17 i266_14 rfl rfl (by decide) rfl rfl ?_
    refine X.aload_n 18 i266_17 rfl rfl rfl ?_
    refine X.getI 21 8 i266_18 rfl rfl (by decide) rfl rfl rfl ?_
    refine X.bald 22 i266_21 rfl rfl (by decide) rfl (by omega) (fun h506 => ?_)
    refine X.iload_n 23 i266_22 rfl rfl rfl ?_
    refine X.icmpne 89 26 i266_23 rfl rfl rfl (fun h507 => ?_) (fun h507 => ?_)
    · refine X.cut [] i266_89 rfl ?_
      refine X.iconst 90 i266_89 rfl rfl (by decide) ?_
      refine X.retz i266_90 rfl t266 (by omega) ?_
      exact hQ 0 (by first | trivial | omega) 
    · refine X.aload_n 27 i266_26 rfl rfl rfl ?_
      refine X.getF 30 i266_27 rfl rfl (by decide) rfl rfl ?_
      refine X.aload_n 31 i266_30 rfl rfl rfl ?_
      refine X.getI 34 8 i266_31 rfl rfl (by decide) rfl rfl rfl ?_
      refine X.iconst 35 i266_34 rfl rfl (by decide) ?_
      refine X.iadd 36 i266_35 rfl rfl (by omega) ?_
      refine X.bald 37 i266_36 rfl rfl (by decide) rfl (by omega) (fun h508 => ?_)
      refine X.iload_n 38 i266_37 rfl rfl rfl ?_
      refine X.icmpne 89 41 i266_38 rfl rfl rfl (fun h509 => ?_) (fun h509 => ?_)
      · refine X.cut [] i266_89 rfl ?_
        refine X.iconst 90 i266_89 rfl rfl (by decide) ?_
        refine X.retz i266_90 rfl t266 (by omega) ?_
        exact hQ 0 (by first | trivial | omega) 
      · refine X.aload_n 42 i266_41 rfl rfl rfl ?_
        refine X.getF 45 i266_42 rfl rfl (by decide) rfl rfl ?_
        refine X.aload_n 46 i266_45 rfl rfl rfl ?_
        refine X.getI 49 8 i266_46 rfl rfl (by decide) rfl rfl rfl ?_
        refine X.iconst 50 i266_49 rfl rfl (by decide) ?_
        refine X.iadd 51 i266_50 rfl rfl (by omega) ?_
        refine X.bald 52 i266_51 rfl rfl (by decide) rfl (by omega) (fun h510 => ?_)
        refine X.iload 54 i266_52 rfl rfl rfl ?_
        refine X.icmpne 89 57 i266_54 rfl rfl rfl (fun h511 => ?_) (fun h511 => ?_)
        · refine X.cut [] i266_89 rfl ?_
          refine X.iconst 90 i266_89 rfl rfl (by decide) ?_
          refine X.retz i266_90 rfl t266 (by omega) ?_
          exact hQ 0 (by first | trivial | omega) 
        · refine X.aload_n 58 i266_57 rfl rfl rfl ?_
          refine X.getF 61 i266_58 rfl rfl (by decide) rfl rfl ?_
          refine X.aload_n 62 i266_61 rfl rfl rfl ?_
          refine X.getI 65 8 i266_62 rfl rfl (by decide) rfl rfl rfl ?_
          refine X.iconst 66 i266_65 rfl rfl (by decide) ?_
          refine X.iadd 67 i266_66 rfl rfl (by omega) ?_
          refine X.bald 68 i266_67 rfl rfl (by decide) rfl (by omega) (fun h512 => ?_)
          refine X.iload 70 i266_68 rfl rfl rfl ?_
          refine X.icmpne 89 73 i266_70 rfl rfl rfl (fun h513 => ?_) (fun h513 => ?_)
          · refine X.cut [] i266_89 rfl ?_
            refine X.iconst 90 i266_89 rfl rfl (by decide) ?_
            refine X.retz i266_90 rfl t266 (by omega) ?_
            exact hQ 0 (by first | trivial | omega) 
          · refine X.aload_n 74 i266_73 rfl rfl rfl ?_
            refine X.getF 77 i266_74 rfl rfl (by decide) rfl rfl ?_
            refine X.aload_n 78 i266_77 rfl rfl rfl ?_
            refine X.getI 81 8 i266_78 rfl rfl (by decide) rfl rfl rfl ?_
            refine X.iconst 82 i266_81 rfl rfl (by decide) ?_
            refine X.iadd 83 i266_82 rfl rfl (by omega) ?_
            refine X.bald 84 i266_83 rfl rfl (by decide) rfl (by omega) (fun h514 => ?_)
            refine X.iload 86 i266_84 rfl rfl rfl ?_
            refine X.icmpeq 91 89 i266_86 rfl rfl rfl (fun h515 => ?_) (fun h515 => ?_)
            · refine X.cut [(0, zr 4 44), (1, zi a1), (7, zi a7), (8, zi a8)] i266_91 rfl ?_
              refine X.iload_n 92 i266_91 rfl rfl rfl ?_
              refine X.bipush 94 i266_92 rfl rfl (by decide) ?_
              refine X.icmplt 113 97 i266_94 rfl rfl rfl (fun h516 => ?_) (fun h516 => ?_)
              · refine X.cut [(0, zr 4 44), (1, zi a1), (8, zi a8)] i266_113 rfl ?_
                refine X.iload_n 114 i266_113 rfl rfl rfl ?_
                refine X.bipush 116 i266_114 rfl rfl (by decide) ?_
                refine X.icmplt 136 119 i266_116 rfl rfl rfl (fun h517 => ?_) (fun h517 => (by exfalso; omega))
                refine X.cut [] i266_136 rfl ?_
                refine X.iconst 137 i266_136 rfl rfl (by decide) ?_
                refine X.goto 141 i266_137 rfl rfl ?_
                refine X.retz i266_141 rfl t266 (by omega) ?_
                exact hQ 1 (by first | trivial | omega) 
              · refine X.aload_n 98 i266_97 rfl rfl rfl ?_
                refine X.getF 101 i266_98 rfl rfl (by decide) rfl rfl ?_
                refine X.aload_n 102 i266_101 rfl rfl rfl ?_
                refine X.getI 105 8 i266_102 rfl rfl (by decide) rfl rfl rfl ?_
                refine X.iconst 106 i266_105 rfl rfl (by decide) ?_
                refine X.iadd 107 i266_106 rfl rfl (by omega) ?_
                refine X.bald 108 i266_107 rfl rfl (by decide) rfl (by omega) (fun h518 => ?_)
                refine X.iload 110 i266_108 rfl rfl rfl ?_
                refine X.icmpne 140 113 i266_110 rfl rfl rfl (fun h519 => ?_) (fun h519 => ?_)
                · refine X.cut [] i266_140 rfl ?_
                  refine X.iconst 141 i266_140 rfl rfl (by decide) ?_
                  refine X.retz i266_141 rfl t266 (by omega) ?_
                  exact hQ 0 (by first | trivial | omega) 
                · refine X.cut [(0, zr 4 44), (1, zi a1), (8, zi a8)] i266_113 rfl ?_
                  refine X.iload_n 114 i266_113 rfl rfl rfl ?_
                  refine X.bipush 116 i266_114 rfl rfl (by decide) ?_
                  refine X.icmplt 136 119 i266_116 rfl rfl rfl (fun h520 => ?_) (fun h520 => ?_)
                  · refine X.cut [] i266_136 rfl ?_
                    refine X.iconst 137 i266_136 rfl rfl (by decide) ?_
                    refine X.goto 141 i266_137 rfl rfl ?_
                    refine X.retz i266_141 rfl t266 (by omega) ?_
                    exact hQ 1 (by first | trivial | omega) 
                  · refine X.aload_n 120 i266_119 rfl rfl rfl ?_
                    refine X.getF 123 i266_120 rfl rfl (by decide) rfl rfl ?_
                    refine X.aload_n 124 i266_123 rfl rfl rfl ?_
                    refine X.getI 127 8 i266_124 rfl rfl (by decide) rfl rfl rfl ?_
                    refine X.bipush 129 i266_127 rfl rfl (by decide) ?_
                    refine X.iadd 130 i266_129 rfl rfl (by omega) ?_
                    refine X.bald 131 i266_130 rfl rfl (by decide) rfl (by omega) (fun h521 => ?_)
                    refine X.iload 133 i266_131 rfl rfl rfl ?_
                    refine X.icmpne 140 136 i266_133 rfl rfl rfl (fun h522 => ?_) (fun h522 => ?_)
                    · refine X.cut [] i266_140 rfl ?_
                      refine X.iconst 141 i266_140 rfl rfl (by decide) ?_
                      refine X.retz i266_141 rfl t266 (by omega) ?_
                      exact hQ 0 (by first | trivial | omega) 
                    · refine X.cut [] i266_136 rfl ?_
                      refine X.iconst 137 i266_136 rfl rfl (by decide) ?_
                      refine X.goto 141 i266_137 rfl rfl ?_
                      refine X.retz i266_141 rfl t266 (by omega) ?_
                      exact hQ 1 (by first | trivial | omega) 
            · refine X.cut [] i266_89 rfl ?_
              refine X.iconst 90 i266_89 rfl rfl (by decide) ?_
              refine X.retz i266_90 rfl t266 (by omega) ?_
              exact hQ 0 (by first | trivial | omega) 
-- WorkMeterModel.spells
theorem c266_4 {s : Nat × (Nat → Int32)} {S : zS} {m0 m : zM} {B : Int} {d : Nat} {Q : Option zV → zM → Prop} (a1 a2 a3 a4 a5 a6 a7 a8 : Int) (hd : 14 ≤ d) (hJ : J S m0 B m) (hB : B + 0 ≤ 1000000000) (ha1 : 5 ≤ a1 ∧ a1 ≤ 7) (ha2 : 112 ≤ a2 ∧ a2 ≤ 112) (ha3 : 114 ≤ a3 ∧ a3 ≤ 114) (ha4 : 105 ≤ a4 ∧ a4 ≤ 105) (ha5 : 99 ≤ a5 ∧ a5 ≤ 99) (ha6 : 101 ≤ a6 ∧ a6 ≤ 101) (ha7 : 0 ≤ a7 ∧ a7 ≤ 0) (ha8 : 0 ≤ a8 ∧ a8 ≤ 0) (hQ : ∀ (v : Int), (0 ≤ v ∧ v ≤ 1) → Q (some (zi v)) m) : X (EE s) d 266 0 [(0, zr 4 44), (1, zi a1), (2, zi a2), (3, zi a3), (4, zi a4), (5, zi a5), (6, zi a6), (7, zi a7), (8, zi a8)] [] m Q := by
  refine X.aload_n 1 i266_0 rfl rfl rfl ?_
  refine X.callv 4 [] [] [(0, zr 4 44)] i266_1 rfl (by decide) rfl rfl (by omega) rfl rfl (by decide) rfl t267 (Nat.le_of_ble_eq_true rfl) (Nat.le_of_ble_eq_true rfl) rfl ?_
  refine c267_1 (B := B)   (by omega) (hJ.up (by omega)) (by omega)  (fun v503 hv503 hqv5030 => ?_)
  show X (EE s) d 266 4 [(0, zr 4 44), (1, zi a1), (2, zi a2), (3, zi a3), (4, zi a4), (5, zi a5), (6, zi a6), (7, zi a7), (8, zi a8)] [zi v503] m _
  refine X.aload_n 5 i266_4 rfl rfl rfl ?_
  refine X.getI 8 8 i266_5 rfl rfl (by decide) rfl rfl rfl ?_
  have h504 := r44_8 hJ 4
  refine X.iload_n 9 i266_8 rfl rfl rfl ?_
  refine X.iadd 10 i266_9 rfl rfl (by omega) ?_
  refine X.icmpne 89 13 i266_10 rfl rfl rfl (fun h505 => ?_) (fun h505 => ?_)
  · refine X.cut [] i266_89 rfl ?_
    refine X.iconst 90 i266_89 rfl rfl (by decide) ?_
    refine X.retz i266_90 rfl t266 (by omega) ?_
    exact hQ 0 (by first | trivial | omega) 
  · refine X.aload_n 14 i266_13 rfl rfl rfl ?_
    refine X.getF 17 i266_14 rfl rfl (by decide) rfl rfl ?_
    refine X.aload_n 18 i266_17 rfl rfl rfl ?_
    refine X.getI 21 8 i266_18 rfl rfl (by decide) rfl rfl rfl ?_
    refine X.bald 22 i266_21 rfl rfl (by decide) rfl (by omega) (fun h506 => ?_)
    refine X.iload_n 23 i266_22 rfl rfl rfl ?_
    refine X.icmpne 89 26 i266_23 rfl rfl rfl (fun h507 => ?_) (fun h507 => ?_)
    · refine X.cut [] i266_89 rfl ?_
      refine X.iconst 90 i266_89 rfl rfl (by decide) ?_
      refine X.retz i266_90 rfl t266 (by omega) ?_
      exact hQ 0 (by first | trivial | omega) 
    · refine X.aload_n 27 i266_26 rfl rfl rfl ?_
      refine X.getF 30 i266_27 rfl rfl (by decide) rfl rfl ?_
      refine X.aload_n 31 i266_30 rfl rfl rfl ?_
      refine X.getI 34 8 i266_31 rfl rfl (by decide) rfl rfl rfl ?_
      refine X.iconst 35 i266_34 rfl rfl (by decide) ?_
      refine X.iadd 36 i266_35 rfl rfl (by omega) ?_
      refine X.bald 37 i266_36 rfl rfl (by decide) rfl (by omega) (fun h508 => ?_)
      refine X.iload_n 38 i266_37 rfl rfl rfl ?_
      refine X.icmpne 89 41 i266_38 rfl rfl rfl (fun h509 => ?_) (fun h509 => ?_)
      · refine X.cut [] i266_89 rfl ?_
        refine X.iconst 90 i266_89 rfl rfl (by decide) ?_
        refine X.retz i266_90 rfl t266 (by omega) ?_
        exact hQ 0 (by first | trivial | omega) 
      · refine X.aload_n 42 i266_41 rfl rfl rfl ?_
        refine X.getF 45 i266_42 rfl rfl (by decide) rfl rfl ?_
        refine X.aload_n 46 i266_45 rfl rfl rfl ?_
        refine X.getI 49 8 i266_46 rfl rfl (by decide) rfl rfl rfl ?_
        refine X.iconst 50 i266_49 rfl rfl (by decide) ?_
        refine X.iadd 51 i266_50 rfl rfl (by omega) ?_
        refine X.bald 52 i266_51 rfl rfl (by decide) rfl (by omega) (fun h510 => ?_)
        refine X.iload 54 i266_52 rfl rfl rfl ?_
        refine X.icmpne 89 57 i266_54 rfl rfl rfl (fun h511 => ?_) (fun h511 => ?_)
        · refine X.cut [] i266_89 rfl ?_
          refine X.iconst 90 i266_89 rfl rfl (by decide) ?_
          refine X.retz i266_90 rfl t266 (by omega) ?_
          exact hQ 0 (by first | trivial | omega) 
        · refine X.aload_n 58 i266_57 rfl rfl rfl ?_
          refine X.getF 61 i266_58 rfl rfl (by decide) rfl rfl ?_
          refine X.aload_n 62 i266_61 rfl rfl rfl ?_
          refine X.getI 65 8 i266_62 rfl rfl (by decide) rfl rfl rfl ?_
          refine X.iconst 66 i266_65 rfl rfl (by decide) ?_
          refine X.iadd 67 i266_66 rfl rfl (by omega) ?_
          refine X.bald 68 i266_67 rfl rfl (by decide) rfl (by omega) (fun h512 => ?_)
          refine X.iload 70 i266_68 rfl rfl rfl ?_
          refine X.icmpne 89 73 i266_70 rfl rfl rfl (fun h513 => ?_) (fun h513 => ?_)
          · refine X.cut [] i266_89 rfl ?_
            refine X.iconst 90 i266_89 rfl rfl (by decide) ?_
            refine X.retz i266_90 rfl t266 (by omega) ?_
            exact hQ 0 (by first | trivial | omega) 
          · refine X.aload_n 74 i266_73 rfl rfl rfl ?_
            refine X.getF 77 i266_74 rfl rfl (by decide) rfl rfl ?_
            refine X.aload_n 78 i266_77 rfl rfl rfl ?_
            refine X.getI 81 8 i266_78 rfl rfl (by decide) rfl rfl rfl ?_
            refine X.iconst 82 i266_81 rfl rfl (by decide) ?_
            refine X.iadd 83 i266_82 rfl rfl (by omega) ?_
            refine X.bald 84 i266_83 rfl rfl (by decide) rfl (by omega) (fun h514 => ?_)
            refine X.iload 86 i266_84 rfl rfl rfl ?_
            refine X.icmpeq 91 89 i266_86 rfl rfl rfl (fun h515 => ?_) (fun h515 => ?_)
            · refine X.cut [(0, zr 4 44), (1, zi a1), (7, zi a7), (8, zi a8)] i266_91 rfl ?_
              refine X.iload_n 92 i266_91 rfl rfl rfl ?_
              refine X.bipush 94 i266_92 rfl rfl (by decide) ?_
              refine X.icmplt 113 97 i266_94 rfl rfl rfl (fun h516 => ?_) (fun h516 => ?_)
              · refine X.cut [(0, zr 4 44), (1, zi a1), (8, zi a8)] i266_113 rfl ?_
                refine X.iload_n 114 i266_113 rfl rfl rfl ?_
                refine X.bipush 116 i266_114 rfl rfl (by decide) ?_
                refine X.icmplt 136 119 i266_116 rfl rfl rfl (fun h517 => ?_) (fun h517 => (by exfalso; omega))
                refine X.cut [] i266_136 rfl ?_
                refine X.iconst 137 i266_136 rfl rfl (by decide) ?_
                refine X.goto 141 i266_137 rfl rfl ?_
                refine X.retz i266_141 rfl t266 (by omega) ?_
                exact hQ 1 (by first | trivial | omega) 
              · refine X.aload_n 98 i266_97 rfl rfl rfl ?_
                refine X.getF 101 i266_98 rfl rfl (by decide) rfl rfl ?_
                refine X.aload_n 102 i266_101 rfl rfl rfl ?_
                refine X.getI 105 8 i266_102 rfl rfl (by decide) rfl rfl rfl ?_
                refine X.iconst 106 i266_105 rfl rfl (by decide) ?_
                refine X.iadd 107 i266_106 rfl rfl (by omega) ?_
                refine X.bald 108 i266_107 rfl rfl (by decide) rfl (by omega) (fun h518 => ?_)
                refine X.iload 110 i266_108 rfl rfl rfl ?_
                refine X.icmpne 140 113 i266_110 rfl rfl rfl (fun h519 => ?_) (fun h519 => ?_)
                · refine X.cut [] i266_140 rfl ?_
                  refine X.iconst 141 i266_140 rfl rfl (by decide) ?_
                  refine X.retz i266_141 rfl t266 (by omega) ?_
                  exact hQ 0 (by first | trivial | omega) 
                · refine X.cut [(0, zr 4 44), (1, zi a1), (8, zi a8)] i266_113 rfl ?_
                  refine X.iload_n 114 i266_113 rfl rfl rfl ?_
                  refine X.bipush 116 i266_114 rfl rfl (by decide) ?_
                  refine X.icmplt 136 119 i266_116 rfl rfl rfl (fun h520 => ?_) (fun h520 => ?_)
                  · refine X.cut [] i266_136 rfl ?_
                    refine X.iconst 137 i266_136 rfl rfl (by decide) ?_
                    refine X.goto 141 i266_137 rfl rfl ?_
                    refine X.retz i266_141 rfl t266 (by omega) ?_
                    exact hQ 1 (by first | trivial | omega) 
                  · refine X.aload_n 120 i266_119 rfl rfl rfl ?_
                    refine X.getF 123 i266_120 rfl rfl (by decide) rfl rfl ?_
                    refine X.aload_n 124 i266_123 rfl rfl rfl ?_
                    refine X.getI 127 8 i266_124 rfl rfl (by decide) rfl rfl rfl ?_
                    refine X.bipush 129 i266_127 rfl rfl (by decide) ?_
                    refine X.iadd 130 i266_129 rfl rfl (by omega) ?_
                    refine X.bald 131 i266_130 rfl rfl (by decide) rfl (by omega) (fun h521 => ?_)
                    refine X.iload 133 i266_131 rfl rfl rfl ?_
                    refine X.icmpne 140 136 i266_133 rfl rfl rfl (fun h522 => ?_) (fun h522 => ?_)
                    · refine X.cut [] i266_140 rfl ?_
                      refine X.iconst 141 i266_140 rfl rfl (by decide) ?_
                      refine X.retz i266_141 rfl t266 (by omega) ?_
                      exact hQ 0 (by first | trivial | omega) 
                    · refine X.cut [] i266_136 rfl ?_
                      refine X.iconst 137 i266_136 rfl rfl (by decide) ?_
                      refine X.goto 141 i266_137 rfl rfl ?_
                      refine X.retz i266_141 rfl t266 (by omega) ?_
                      exact hQ 1 (by first | trivial | omega) 
            · refine X.cut [] i266_89 rfl ?_
              refine X.iconst 90 i266_89 rfl rfl (by decide) ?_
              refine X.retz i266_90 rfl t266 (by omega) ?_
              exact hQ 0 (by first | trivial | omega) 
-- WorkMeterModel.word
theorem c265_1 {s : Nat × (Nat → Int32)} {S : zS} {m0 m : zM} {B : Int} {d : Nat} {Q : Option zV → zM → Prop} (hd : 15 ≤ d) (hJ : J S m0 B m) (hB : B + 0 ≤ 1000000000) (hQ : ∀ (v : Int), (0 ≤ v ∧ v ≤ 4) → Q (some (zi v)) m) : X (EE s) d 265 0 [(0, zr 4 44)] [] m Q := by
  refine X.aload_n 1 i265_0 rfl rfl rfl ?_
  refine X.iconst 2 i265_1 rfl rfl (by decide) ?_
  refine X.bipush 4 i265_2 rfl rfl (by decide) ?_
  refine X.bipush 6 i265_4 rfl rfl (by decide) ?_
  refine X.bipush 8 i265_6 rfl rfl (by decide) ?_
  refine X.bipush 10 i265_8 rfl rfl (by decide) ?_
  refine X.bipush 12 i265_10 rfl rfl (by decide) ?_
  refine X.iconst 13 i265_12 rfl rfl (by decide) ?_
  refine X.iconst 14 i265_13 rfl rfl (by decide) ?_
  refine X.callv 17 [zi 5, zi 116, zi 97, zi 98, zi 108, zi 101, zi 0, zi 0] [] [(0, zr 4 44), (1, zi 5), (2, zi 116), (3, zi 97), (4, zi 98), (5, zi 108), (6, zi 101), (7, zi 0), (8, zi 0)] i265_14 rfl (by decide) rfl rfl (by omega) rfl rfl (by decide) rfl t266 (Nat.le_of_ble_eq_true rfl) (Nat.le_of_ble_eq_true rfl) rfl ?_
  refine c266_1 (B := B)  5 116 97 98 108 101 0 0 (by omega) (hJ.up (by omega)) (by omega) (by omega) (by omega) (by omega) (by omega) (by omega) (by omega) (by omega) (by omega) (fun v503 hv503 => ?_)
  show X (EE s) d 265 17 [(0, zr 4 44)] [zi v503] m _
  refine X.ifeq 22 20 i265_17 rfl rfl rfl (fun h504 => ?_) (fun h504 => ?_)
  · refine X.aload_n 23 i265_22 rfl rfl rfl ?_
    refine X.bipush 25 i265_23 rfl rfl (by decide) ?_
    refine X.bipush 27 i265_25 rfl rfl (by decide) ?_
    refine X.bipush 29 i265_27 rfl rfl (by decide) ?_
    refine X.bipush 31 i265_29 rfl rfl (by decide) ?_
    refine X.bipush 33 i265_31 rfl rfl (by decide) ?_
    refine X.bipush 35 i265_33 rfl rfl (by decide) ?_
    refine X.bipush 37 i265_35 rfl rfl (by decide) ?_
    refine X.iconst 38 i265_37 rfl rfl (by decide) ?_
    refine X.callv 41 [zi 6, zi 115, zi 101, zi 97, zi 115, zi 111, zi 110, zi 0] [] [(0, zr 4 44), (1, zi 6), (2, zi 115), (3, zi 101), (4, zi 97), (5, zi 115), (6, zi 111), (7, zi 110), (8, zi 0)] i265_38 rfl (by decide) rfl rfl (by omega) rfl rfl (by decide) rfl t266 (Nat.le_of_ble_eq_true rfl) (Nat.le_of_ble_eq_true rfl) rfl ?_
    refine c266_2 (B := B)  6 115 101 97 115 111 110 0 (by omega) (hJ.up (by omega)) (by omega) (by omega) (by omega) (by omega) (by omega) (by omega) (by omega) (by omega) (by omega) (fun v507 hv507 => ?_)
    show X (EE s) d 265 41 [(0, zr 4 44)] [zi v507] m _
    refine X.ifeq 46 44 i265_41 rfl rfl rfl (fun h508 => ?_) (fun h508 => ?_)
    · refine X.aload_n 47 i265_46 rfl rfl rfl ?_
      refine X.bipush 49 i265_47 rfl rfl (by decide) ?_
      refine X.bipush 51 i265_49 rfl rfl (by decide) ?_
      refine X.bipush 53 i265_51 rfl rfl (by decide) ?_
      refine X.bipush 55 i265_53 rfl rfl (by decide) ?_
      refine X.bipush 57 i265_55 rfl rfl (by decide) ?_
      refine X.bipush 59 i265_57 rfl rfl (by decide) ?_
      refine X.bipush 61 i265_59 rfl rfl (by decide) ?_
      refine X.bipush 63 i265_61 rfl rfl (by decide) ?_
      refine X.callv 66 [zi 7, zi 115, zi 112, zi 101, zi 99, zi 105, zi 97, zi 108] [] [(0, zr 4 44), (1, zi 7), (2, zi 115), (3, zi 112), (4, zi 101), (5, zi 99), (6, zi 105), (7, zi 97), (8, zi 108)] i265_63 rfl (by decide) rfl rfl (by omega) rfl rfl (by decide) rfl t266 (Nat.le_of_ble_eq_true rfl) (Nat.le_of_ble_eq_true rfl) rfl ?_
      refine c266_3 (B := B)  7 115 112 101 99 105 97 108 (by omega) (hJ.up (by omega)) (by omega) (by omega) (by omega) (by omega) (by omega) (by omega) (by omega) (by omega) (by omega) (fun v511 hv511 => ?_)
      show X (EE s) d 265 66 [(0, zr 4 44)] [zi v511] m _
      refine X.ifeq 71 69 i265_66 rfl rfl rfl (fun h512 => ?_) (fun h512 => ?_)
      · refine X.aload_n 72 i265_71 rfl rfl rfl ?_
        refine X.iconst 73 i265_72 rfl rfl (by decide) ?_
        refine X.bipush 75 i265_73 rfl rfl (by decide) ?_
        refine X.bipush 77 i265_75 rfl rfl (by decide) ?_
        refine X.bipush 79 i265_77 rfl rfl (by decide) ?_
        refine X.bipush 81 i265_79 rfl rfl (by decide) ?_
        refine X.bipush 83 i265_81 rfl rfl (by decide) ?_
        refine X.iconst 84 i265_83 rfl rfl (by decide) ?_
        refine X.iconst 85 i265_84 rfl rfl (by decide) ?_
        refine X.callv 88 [zi 5, zi 112, zi 114, zi 105, zi 99, zi 101, zi 0, zi 0] [] [(0, zr 4 44), (1, zi 5), (2, zi 112), (3, zi 114), (4, zi 105), (5, zi 99), (6, zi 101), (7, zi 0), (8, zi 0)] i265_85 rfl (by decide) rfl rfl (by omega) rfl rfl (by decide) rfl t266 (Nat.le_of_ble_eq_true rfl) (Nat.le_of_ble_eq_true rfl) rfl ?_
        refine c266_4 (B := B)  5 112 114 105 99 101 0 0 (by omega) (hJ.up (by omega)) (by omega) (by omega) (by omega) (by omega) (by omega) (by omega) (by omega) (by omega) (by omega) (fun v515 hv515 => ?_)
        show X (EE s) d 265 88 [(0, zr 4 44)] [zi v515] m _
        refine X.ifeq 95 91 i265_88 rfl rfl rfl (fun h516 => ?_) (fun h516 => ?_)
        · refine X.cut [] i265_95 rfl ?_
          refine X.iconst 96 i265_95 rfl rfl (by decide) ?_
          refine X.reti i265_96 rfl t265 ?_
          exact hQ 0 (by first | trivial | omega) 
        · refine X.iconst 92 i265_91 rfl rfl (by decide) ?_
          refine X.goto 96 i265_92 rfl rfl ?_
          refine X.cut [] i265_96 rfl ?_
          refine X.reti i265_96 rfl t265 ?_
          exact hQ 4 (by first | trivial | omega) 
      · refine X.iconst 70 i265_69 rfl rfl (by decide) ?_
        refine X.reti i265_70 rfl t265 ?_
        exact hQ 3 (by first | trivial | omega) 
    · refine X.iconst 45 i265_44 rfl rfl (by decide) ?_
      refine X.reti i265_45 rfl t265 ?_
      exact hQ 2 (by first | trivial | omega) 
  · refine X.iconst 21 i265_20 rfl rfl (by decide) ?_
    refine X.reti i265_21 rfl t265 ?_
    exact hQ 1 (by first | trivial | omega) 
theorem l270_23_1 {s : Nat × (Nat → Int32)} {S : zS} {m0 : zM} {d : Nat} {Q : Option zV → zM → Prop} (y1 y2 : Int) (BE : Int) (hE : BE ≤ 1000000000) (hd : 13 ≤ d) (hy1 : 0 ≤ y1 ∧ y1 ≤ 0) (hy2 : 0 ≤ y2 ∧ y2 ≤ 1000)
    (K97 : ∀ (x3 : Int) (m' : zM) (B' : Int), J S m0 B' m' → B' ≤ BE → (0 ≤ x3 ∧ x3 ≤ 1000009) → (m' 4 44 10 ≤ m' 4 44 8) → (m0 4 44 8 ≤ m' 4 44 10) → X (EE s) d 270 97 [(0, zr 4 44), (1, zi y1), (2, zi y2), (3, zi x3)] [] m' Q) :
    ∀ (n : Nat) (y3 : Int) (m : zM) (B : Int), J S m0 B m → B + 0 * (n : Int) ≤ BE → (0 ≤ y3 ∧ y3 ≤ 1000009) → (m 4 44 10 ≤ m 4 44 8) → (m0 4 44 8 ≤ m 4 44 10) → 300 - m 4 44 8 < (n : Int) → X (EE s) d 270 23 [(0, zr 4 44), (1, zi y1), (2, zi y2), (3, zi y3)] [] m Q := by
  intro n
  induction n with
  | zero =>
    intro y3 m B hJ hB  hy3 hr0 hr1 hn
    have zf0 := r44_8 hJ 4
    exfalso
    omega
  | succ n ih =>
    intro y3 m B hJ hB  hy3 hr0 hr1 hn
    refine X.aload_n 24 i270_23 rfl rfl rfl ?_
    refine X.getI 27 8 i270_24 rfl rfl (by decide) rfl rfl rfl ?_
    have h518 := r44_8 hJ 4
    refine X.aload_n 28 i270_27 rfl rfl rfl ?_
    refine X.getI 31 5 i270_28 rfl rfl (by decide) rfl rfl rfl ?_
    have h519 := r44_5 hJ 4
    refine X.icmpge 97 34 i270_31 rfl rfl rfl (fun h520 => ?_) (fun h520 => ?_)
    · exact K97 y3 m (B) (hJ.up (by omega)) (by omega)  (by first | trivial | omega) (by omega) (by omega)
    · refine X.aload_n 35 i270_34 rfl rfl rfl ?_
      refine X.getF 38 i270_35 rfl rfl (by decide) rfl rfl ?_
      refine X.aload_n 39 i270_38 rfl rfl rfl ?_
      refine X.getI 42 8 i270_39 rfl rfl (by decide) rfl rfl rfl ?_
      refine X.bald 43 i270_42 rfl rfl (by decide) rfl (by omega) (fun h521 => ?_)
      refine X.i2l 44 i270_43 rfl rfl ?_
      refine X.ldc2 47 i270_44 rfl rfl (by decide) ?_
      refine X.ldc2 50 i270_47 rfl rfl (by decide) ?_
      refine X.calls 53 [zl (m 4 48 (m 4 44 8)), zl 48, zl 57] [] [(0, zl (m 4 48 (m 4 44 8))), (2, zl 48), (4, zl 57)] i270_50 (by decide) rfl rfl (by omega) rfl rfl t204 (Nat.le_of_ble_eq_true rfl) (Nat.le_of_ble_eq_true rfl) rfl ?_
      refine X.lload_n 1 i204_0 rfl rfl rfl ?_
      refine X.lload_n 2 i204_1 rfl rfl rfl ?_
      refine X.lcmp 3 i204_2 rfl rfl (fun z522 hz522 => ?_)
      refine X.iflt 17 6 i204_3 rfl rfl rfl (fun h523 => ?_) (fun h523 => ?_)
      · have h523c : (m 4 48 (m 4 44 8)) < 48 := by omega
        clear h523 hz522
        refine X.cut [] i204_17 rfl ?_
        refine X.iconst 18 i204_17 rfl rfl (by decide) ?_
        refine X.retz i204_18 rfl t204 (by omega) ?_
        show X (EE s) d 270 53 [(0, zr 4 44), (1, zi y1), (2, zi y2), (3, zi y3)] [zi 0] m _
        refine X.ifeq 97 56 i270_53 rfl rfl rfl (fun h524 => ?_) (fun h524 => (by exfalso; omega))
        exact K97 y3 m (B) (hJ.up (by omega)) (by omega)  (by first | trivial | omega) (by omega) (by omega)
      · have h523c : (m 4 48 (m 4 44 8)) ≥ 48 := by omega
        clear h523 hz522
        refine X.lload_n 7 i204_6 rfl rfl rfl ?_
        refine X.lload 9 i204_7 rfl rfl rfl ?_
        refine X.lcmp 10 i204_9 rfl rfl (fun z525 hz525 => ?_)
        refine X.ifgt 17 13 i204_10 rfl rfl rfl (fun h526 => ?_) (fun h526 => ?_)
        · have h526c : (m 4 48 (m 4 44 8)) > 57 := by omega
          clear h526 hz525
          refine X.cut [] i204_17 rfl ?_
          refine X.iconst 18 i204_17 rfl rfl (by decide) ?_
          refine X.retz i204_18 rfl t204 (by omega) ?_
          show X (EE s) d 270 53 [(0, zr 4 44), (1, zi y1), (2, zi y2), (3, zi y3)] [zi 0] m _
          refine X.ifeq 97 56 i270_53 rfl rfl rfl (fun h527 => ?_) (fun h527 => (by exfalso; omega))
          exact K97 y3 m (B) (hJ.up (by omega)) (by omega)  (by first | trivial | omega) (by omega) (by omega)
        · have h526c : (m 4 48 (m 4 44 8)) ≤ 57 := by omega
          clear h526 hz525
          refine X.iconst 14 i204_13 rfl rfl (by decide) ?_
          refine X.goto 18 i204_14 rfl rfl ?_
          refine X.cut [] i204_18 rfl ?_
          refine X.retz i204_18 rfl t204 (by omega) ?_
          show X (EE s) d 270 53 [(0, zr 4 44), (1, zi y1), (2, zi y2), (3, zi y3)] [zi 1] m _
          refine X.ifeq 97 56 i270_53 rfl rfl rfl (fun h528 => (by exfalso; omega)) (fun h528 => ?_)
          refine X.iload_n 57 i270_56 rfl rfl rfl ?_
          refine X.ldc 59 i270_57 rfl rfl (by decide) ?_
          refine X.icmple 66 62 i270_59 rfl rfl rfl (fun h529 => ?_) (fun h529 => ?_)
          · refine X.bipush 68 i270_66 rfl rfl (by decide) ?_
            refine X.iload_n 69 i270_68 rfl rfl rfl ?_
            refine X.imul 70 i270_69 rfl rfl (by omega) ?_
            refine X.aload_n 71 i270_70 rfl rfl rfl ?_
            refine X.getF 74 i270_71 rfl rfl (by decide) rfl rfl ?_
            refine X.aload_n 75 i270_74 rfl rfl rfl ?_
            refine X.getI 78 8 i270_75 rfl rfl (by decide) rfl rfl rfl ?_
            refine X.bald 79 i270_78 rfl rfl (by decide) rfl (by omega) (fun h530 => ?_)
            refine X.iadd 80 i270_79 rfl rfl (by omega) ?_
            refine X.bipush 82 i270_80 rfl rfl (by decide) ?_
            refine X.isub 83 i270_82 rfl rfl (by omega) ?_
            refine X.cut [(0, zr 4 44), (1, zi y1), (2, zi y2)] i270_83 rfl ?_
            refine X.istore_n 84 [(0, zr 4 44), (1, zi y1), (2, zi y2), (3, zi (((10 * y3) + (m 4 48 (m 4 44 8))) - 48))] i270_83 rfl rfl rfl ?_
            refine X.aload_n 85 i270_84 rfl rfl rfl ?_
            refine X.dup 86 i270_85 rfl rfl rfl ?_
            refine X.getI 89 8 i270_86 rfl rfl (by decide) rfl rfl rfl ?_
            refine X.iconst 90 i270_89 rfl rfl (by decide) ?_
            refine X.iadd 91 i270_90 rfl rfl (by omega) ?_
            refine X.putI' 94 8 i270_91 rfl rfl (by decide) rfl rfl rfl (fun hrm531 m531 hm531 => ?_)
            have rmm531 := r44_8 hJ 4
            have hJ532 := w44_8 hJ hm531 (by omega) (.inl (by omega))
            have em531 : m531 4 44 8 = ((m 4 44 8) + 1) := by rw [hm531]; exact z_upd_same _ _ _ _ _
            have wmm5319 : m531 4 44 9 = m 4 44 9 := by rw [hm531]; exact z_upd_o _ _ rfl
            have wmm53110 : m531 4 44 10 = m 4 44 10 := by rw [hm531]; exact z_upd_o _ _ rfl
            refine X.goto 23 i270_94 rfl rfl ?_
            exact ih (((10 * y3) + (m 4 48 (m 4 44 8))) - 48) m531 (B) (hJ532.up (by omega)) (by omega)  (by omega) (by omega) (by omega) (by omega)
          · refine X.iload_n 63 i270_62 rfl rfl rfl ?_
            refine X.goto 83 i270_63 rfl rfl ?_
            refine X.cut [(0, zr 4 44), (1, zi y1), (2, zi y2)] i270_83 rfl ?_
            refine X.istore_n 84 [(0, zr 4 44), (1, zi y1), (2, zi y2), (3, zi y3)] i270_83 rfl rfl rfl ?_
            refine X.aload_n 85 i270_84 rfl rfl rfl ?_
            refine X.dup 86 i270_85 rfl rfl rfl ?_
            refine X.getI 89 8 i270_86 rfl rfl (by decide) rfl rfl rfl ?_
            refine X.iconst 90 i270_89 rfl rfl (by decide) ?_
            refine X.iadd 91 i270_90 rfl rfl (by omega) ?_
            refine X.putI' 94 8 i270_91 rfl rfl (by decide) rfl rfl rfl (fun hrm533 m533 hm533 => ?_)
            have rmm533 := r44_8 hJ 4
            have hJ534 := w44_8 hJ hm533 (by omega) (.inl (by omega))
            have em533 : m533 4 44 8 = ((m 4 44 8) + 1) := by rw [hm533]; exact z_upd_same _ _ _ _ _
            have wmm5339 : m533 4 44 9 = m 4 44 9 := by rw [hm533]; exact z_upd_o _ _ rfl
            have wmm53310 : m533 4 44 10 = m 4 44 10 := by rw [hm533]; exact z_upd_o _ _ rfl
            refine X.goto 23 i270_94 rfl rfl ?_
            exact ih y3 m533 (B) (hJ534.up (by omega)) (by omega)  (by omega) (by omega) (by omega) (by omega)
-- WorkMeterModel.wrong
theorem c268_1 {s : Nat × (Nat → Int32)} {S : zS} {m0 m : zM} {B : Int} {d : Nat} {Q : Option zV → zM → Prop} (a1 a2 : Int) (hd : 13 ≤ d) (hJ : J S m0 B m) (hB : B + 0 ≤ 1000000000) (ha1 : 2 ≤ a1 ∧ a1 ≤ 2) (ha2 : (-2147483648) ≤ a2 ∧ a2 ≤ 2147483647) (hQ : ∀ m', J S m0 (B) m' → (m' 4 44 9 = 1) → Q none m') : X (EE s) d 268 0 [(0, zr 4 44), (1, zi a1), (2, zi a2)] [] m Q := by
  refine X.aload_n 1 i268_0 rfl rfl rfl ?_
  refine X.getZ 4 9 i268_1 rfl rfl (by decide) rfl rfl rfl (fun h501 => ?_)
  refine X.ifeq 8 7 i268_4 rfl rfl rfl (fun h502 => ?_) (fun h502 => ?_)
  · refine X.aload_n 9 i268_8 rfl rfl rfl ?_
    refine X.iconst 10 i268_9 rfl rfl (by decide) ?_
    refine X.putZ' 13 9 i268_10 rfl rfl (by decide) rfl rfl rfl (by omega) (fun hrm503 m503 hm503 => ?_)
    have rmm503 := r44_9 hJ 4
    have hJ504 := w44_9 hJ hm503 (by omega) (.inl (by omega))
    have em503 : m503 4 44 9 = 1 := by rw [hm503]; exact z_upd_same _ _ _ _ _
    have wmm5038 : m503 4 44 8 = m 4 44 8 := by rw [hm503]; exact z_upd_o _ _ rfl
    have wmm50310 : m503 4 44 10 = m 4 44 10 := by rw [hm503]; exact z_upd_o _ _ rfl
    refine X.aload_n 14 i268_13 rfl rfl rfl ?_
    refine X.iload_n 15 i268_14 rfl rfl rfl ?_
    refine X.putI' 18 6 i268_15 rfl rfl (by decide) rfl rfl rfl (fun hrm505 m505 hm505 => ?_)
    have hJ506 := w44_6 hJ504 hm505 (by omega) hrm505
    have wmm5058 : m505 4 44 8 = m503 4 44 8 := by rw [hm505]; exact z_upd_o _ _ rfl
    have wmm5059 : m505 4 44 9 = m503 4 44 9 := by rw [hm505]; exact z_upd_o _ _ rfl
    have wmm50510 : m505 4 44 10 = m503 4 44 10 := by rw [hm505]; exact z_upd_o _ _ rfl
    refine X.aload_n 19 i268_18 rfl rfl rfl ?_
    refine X.iload_n 20 i268_19 rfl rfl rfl ?_
    refine X.putI' 23 7 i268_20 rfl rfl (by decide) rfl rfl rfl (fun hrm507 m507 hm507 => ?_)
    have hJ508 := w44_6 hJ506 hm507 (by omega) hrm507
    have wmm5078 : m507 4 44 8 = m505 4 44 8 := by rw [hm507]; exact z_upd_o _ _ rfl
    have wmm5079 : m507 4 44 9 = m505 4 44 9 := by rw [hm507]; exact z_upd_o _ _ rfl
    have wmm50710 : m507 4 44 10 = m505 4 44 10 := by rw [hm507]; exact z_upd_o _ _ rfl
    refine X.retv i268_23 rfl t268 ?_
    exact hQ  m507  (hJ508.up (by omega)) (by omega)
  · refine X.retv i268_7 rfl t268 ?_
    exact hQ  m  (hJ.up (by omega)) (by omega)
-- WorkMeterModel.wrong
theorem c268_2 {s : Nat × (Nat → Int32)} {S : zS} {m0 m : zM} {B : Int} {d : Nat} {Q : Option zV → zM → Prop} (a1 a2 : Int) (hd : 13 ≤ d) (hJ : J S m0 B m) (hB : B + 0 ≤ 1000000000) (ha1 : 1 ≤ a1 ∧ a1 ≤ 1) (ha2 : 0 ≤ a2 ∧ a2 ≤ 300) (hQ : ∀ m', J S m0 (B) m' → (m' 4 44 9 = 1) → Q none m') : X (EE s) d 268 0 [(0, zr 4 44), (1, zi a1), (2, zi a2)] [] m Q := by
  refine X.aload_n 1 i268_0 rfl rfl rfl ?_
  refine X.getZ 4 9 i268_1 rfl rfl (by decide) rfl rfl rfl (fun h501 => ?_)
  refine X.ifeq 8 7 i268_4 rfl rfl rfl (fun h502 => ?_) (fun h502 => ?_)
  · refine X.aload_n 9 i268_8 rfl rfl rfl ?_
    refine X.iconst 10 i268_9 rfl rfl (by decide) ?_
    refine X.putZ' 13 9 i268_10 rfl rfl (by decide) rfl rfl rfl (by omega) (fun hrm503 m503 hm503 => ?_)
    have rmm503 := r44_9 hJ 4
    have hJ504 := w44_9 hJ hm503 (by omega) (.inl (by omega))
    have em503 : m503 4 44 9 = 1 := by rw [hm503]; exact z_upd_same _ _ _ _ _
    have wmm5038 : m503 4 44 8 = m 4 44 8 := by rw [hm503]; exact z_upd_o _ _ rfl
    have wmm50310 : m503 4 44 10 = m 4 44 10 := by rw [hm503]; exact z_upd_o _ _ rfl
    refine X.aload_n 14 i268_13 rfl rfl rfl ?_
    refine X.iload_n 15 i268_14 rfl rfl rfl ?_
    refine X.putI' 18 6 i268_15 rfl rfl (by decide) rfl rfl rfl (fun hrm505 m505 hm505 => ?_)
    have hJ506 := w44_6 hJ504 hm505 (by omega) hrm505
    have wmm5058 : m505 4 44 8 = m503 4 44 8 := by rw [hm505]; exact z_upd_o _ _ rfl
    have wmm5059 : m505 4 44 9 = m503 4 44 9 := by rw [hm505]; exact z_upd_o _ _ rfl
    have wmm50510 : m505 4 44 10 = m503 4 44 10 := by rw [hm505]; exact z_upd_o _ _ rfl
    refine X.aload_n 19 i268_18 rfl rfl rfl ?_
    refine X.iload_n 20 i268_19 rfl rfl rfl ?_
    refine X.putI' 23 7 i268_20 rfl rfl (by decide) rfl rfl rfl (fun hrm507 m507 hm507 => ?_)
    have hJ508 := w44_6 hJ506 hm507 (by omega) hrm507
    have wmm5078 : m507 4 44 8 = m505 4 44 8 := by rw [hm507]; exact z_upd_o _ _ rfl
    have wmm5079 : m507 4 44 9 = m505 4 44 9 := by rw [hm507]; exact z_upd_o _ _ rfl
    have wmm50710 : m507 4 44 10 = m505 4 44 10 := by rw [hm507]; exact z_upd_o _ _ rfl
    refine X.retv i268_23 rfl t268 ?_
    exact hQ  m507  (hJ508.up (by omega)) (by omega)
  · refine X.retv i268_7 rfl t268 ?_
    exact hQ  m  (hJ.up (by omega)) (by omega)
-- WorkMeterModel.number
theorem c270_1 {s : Nat × (Nat → Int32)} {S : zS} {m0 m : zM} {B : Int} {d : Nat} {Q : Option zV → zM → Prop} (a1 a2 : Int) (hd : 14 ≤ d) (hJ : J S m0 B m) (hB : B + 0 ≤ 1000000000) (ha1 : 0 ≤ a1 ∧ a1 ≤ 0) (ha2 : 0 ≤ a2 ∧ a2 ≤ 1000) (hQ : ∀ (v : Int) m', (0 ≤ v ∧ v ≤ 1000009) → J S m0 (B) m' → (v ≤ a2) → (m' 4 44 9 = 1 ∨ m 4 44 8 < m' 4 44 8) → Q (some (zi v)) m') : X (EE s) d 270 0 [(0, zr 4 44), (1, zi a1), (2, zi a2)] [] m Q := by
  refine X.aload_n 1 i270_0 rfl rfl rfl ?_
  refine X.getZ 4 9 i270_1 rfl rfl (by decide) rfl rfl rfl (fun h501 => ?_)
  refine X.ifeq 9 7 i270_4 rfl rfl rfl (fun h502 => ?_) (fun h502 => ?_)
  · refine X.aload_n 10 i270_9 rfl rfl rfl ?_
    refine X.callv 13 [] [] [(0, zr 4 44)] i270_10 rfl (by decide) rfl rfl (by omega) rfl rfl (by decide) rfl t263 (Nat.le_of_ble_eq_true rfl) (Nat.le_of_ble_eq_true rfl) rfl ?_
    refine c263_1 (S := zfr [] S) (m0 := m) (B := B)   (by omega) (hJ.ow.up (by omega)) (by omega)  (fun m503 hJ504 => ?_)
    have hJ506 := hJ.trans hJ504 zi_n
    have mom503 := hJ504.mo rfl rfl
    show X (EE s) d 270 13 [(0, zr 4 44), (1, zi a1), (2, zi a2)] [] m503 _
    refine X.aload_n 14 i270_13 rfl rfl rfl ?_
    refine X.aload_n 15 i270_14 rfl rfl rfl ?_
    refine X.getI 18 8 i270_15 rfl rfl (by decide) rfl rfl rfl ?_
    have h507 := r44_8 hJ506 4
    refine X.putI' 21 10 i270_18 rfl rfl (by decide) rfl rfl rfl (fun hrm508 m508 hm508 => ?_)
    have hJ509 := w44_10 hJ506 hm508 (by omega) hrm508
    have em508 : m508 4 44 10 = (m503 4 44 8) := by rw [hm508]; exact z_upd_same _ _ _ _ _
    have wmm5088 : m508 4 44 8 = m503 4 44 8 := by rw [hm508]; exact z_upd_o _ _ rfl
    have wmm5089 : m508 4 44 9 = m503 4 44 9 := by rw [hm508]; exact z_upd_o _ _ rfl
    refine X.iconst 22 i270_21 rfl rfl (by decide) ?_
    refine X.istore_n 23 [(0, zr 4 44), (1, zi a1), (2, zi a2), (3, zi 0)] i270_22 rfl rfl rfl ?_
    refine l270_23_1 (s := s) (S := (zfr [] S)) (m0 := m508) (d := d)  a1 a2 (BE := B + 0) (by omega) (by omega) (by omega) (by omega) (fun y510 m511 B512 hJ513 hBB512 hby510 hrlm5110 hrlm5111 => ?_) ((300 - m508 4 44 8 : Int).toNat + 1) 0 m508 (B) (hJ509.ow.up (by omega)) (by omega)  (by omega) (by omega) (by omega) (by omega)
    have hJ514 := hJ509.trans hJ513 zi_n
    have mom511 := hJ513.mo rfl rfl
    refine X.aload_n 98 i270_97 rfl rfl rfl ?_
    refine X.getI 101 8 i270_98 rfl rfl (by decide) rfl rfl rfl ?_
    have h515 := r44_8 hJ514 4
    refine X.aload_n 102 i270_101 rfl rfl rfl ?_
    refine X.getIr 105 10 i270_102 rfl rfl (by decide) rfl rfl rfl (fun h516 => ?_)
    refine X.icmpne 120 108 i270_105 rfl rfl rfl (fun h517 => ?_) (fun h517 => ?_)
    · refine X.iload_n 121 i270_120 rfl rfl rfl ?_
      refine X.i2l 122 i270_121 rfl rfl ?_
      refine X.iload_n 123 i270_122 rfl rfl rfl ?_
      refine X.i2l 124 i270_123 rfl rfl ?_
      refine X.iload_n 125 i270_124 rfl rfl rfl ?_
      refine X.i2l 126 i270_125 rfl rfl ?_
      refine X.calls 129 [zl y510, zl a1, zl a2] [] [(0, zl y510), (2, zl a1), (4, zl a2)] i270_126 (by decide) rfl rfl (by omega) rfl rfl t204 (Nat.le_of_ble_eq_true rfl) (Nat.le_of_ble_eq_true rfl) rfl ?_
      refine X.lload_n 1 i204_0 rfl rfl rfl ?_
      refine X.lload_n 2 i204_1 rfl rfl rfl ?_
      refine X.lcmp 3 i204_2 rfl rfl (fun z518 hz518 => ?_)
      refine X.iflt 17 6 i204_3 rfl rfl rfl (fun h519 => (by exfalso; omega)) (fun h519 => ?_)
      have h519c : y510 ≥ a1 := by omega
      clear h519 hz518
      refine X.lload_n 7 i204_6 rfl rfl rfl ?_
      refine X.lload 9 i204_7 rfl rfl rfl ?_
      refine X.lcmp 10 i204_9 rfl rfl (fun z520 hz520 => ?_)
      refine X.ifgt 17 13 i204_10 rfl rfl rfl (fun h521 => ?_) (fun h521 => ?_)
      · have h521c : y510 > a2 := by omega
        clear h521 hz520
        refine X.cut [] i204_17 rfl ?_
        refine X.iconst 18 i204_17 rfl rfl (by decide) ?_
        refine X.retz i204_18 rfl t204 (by omega) ?_
        show X (EE s) d 270 129 [(0, zr 4 44), (1, zi a1), (2, zi a2), (3, zi y510)] [zi 0] m511 _
        refine X.ifne 141 132 i270_129 rfl rfl rfl (fun h522 => (by exfalso; omega)) (fun h522 => ?_)
        refine X.aload_n 133 i270_132 rfl rfl rfl ?_
        refine X.iconst 134 i270_133 rfl rfl (by decide) ?_
        refine X.aload_n 135 i270_134 rfl rfl rfl ?_
        refine X.getI 138 10 i270_135 rfl rfl (by decide) rfl rfl rfl ?_
        refine X.callv 141 [zi 2, zi (m511 4 44 10)] [] [(0, zr 4 44), (1, zi 2), (2, zi (m511 4 44 10))] i270_138 rfl (by decide) rfl rfl (by omega) rfl rfl (by decide) rfl t268 (Nat.le_of_ble_eq_true rfl) (Nat.le_of_ble_eq_true rfl) rfl ?_
        refine c268_1 (S := zfr [] S) (m0 := m511) (B := B512)  2 (m511 4 44 10) (by omega) (hJ514.ow.up (by omega)) (by omega) (by omega) (by omega) (fun m523 hJ524 hqv5250 => ?_)
        have hJ526 := hJ514.trans hJ524 zi_n
        have mom523 := hJ524.mo rfl rfl
        show X (EE s) d 270 141 [(0, zr 4 44), (1, zi a1), (2, zi a2), (3, zi y510)] [] m523 _
        refine X.cut [(0, zr 4 44), (3, zi y510)] i270_141 rfl ?_
        refine X.aload_n 142 i270_141 rfl rfl rfl ?_
        refine X.getZ 145 9 i270_142 rfl rfl (by decide) rfl rfl rfl (fun h527 => ?_)
        refine X.ifeq 152 148 i270_145 rfl rfl rfl (fun h528 => ?_) (fun h528 => ?_)
        · refine X.cut [(3, zi y510)] i270_152 rfl ?_
          refine X.iload_n 153 i270_152 rfl rfl rfl ?_
          refine X.cut [] i270_153 rfl ?_
          refine X.reti i270_153 rfl t270 ?_
          exact hQ y510 m523 (by first | trivial | omega) (hJ526.up (by omega)) (by omega) (by omega)
        · refine X.iconst 149 i270_148 rfl rfl (by decide) ?_
          refine X.goto 153 i270_149 rfl rfl ?_
          refine X.cut [] i270_153 rfl ?_
          refine X.reti i270_153 rfl t270 ?_
          exact hQ 0 m523 (by first | trivial | omega) (hJ526.up (by omega)) (by omega) (by omega)
      · have h521c : y510 ≤ a2 := by omega
        clear h521 hz520
        refine X.iconst 14 i204_13 rfl rfl (by decide) ?_
        refine X.goto 18 i204_14 rfl rfl ?_
        refine X.cut [] i204_18 rfl ?_
        refine X.retz i204_18 rfl t204 (by omega) ?_
        show X (EE s) d 270 129 [(0, zr 4 44), (1, zi a1), (2, zi a2), (3, zi y510)] [zi 1] m511 _
        refine X.ifne 141 132 i270_129 rfl rfl rfl (fun h529 => ?_) (fun h529 => (by exfalso; omega))
        refine X.cut [(0, zr 4 44), (3, zi y510)] i270_141 rfl ?_
        refine X.aload_n 142 i270_141 rfl rfl rfl ?_
        refine X.getZ 145 9 i270_142 rfl rfl (by decide) rfl rfl rfl (fun h530 => ?_)
        refine X.ifeq 152 148 i270_145 rfl rfl rfl (fun h531 => ?_) (fun h531 => ?_)
        · refine X.cut [(3, zi y510)] i270_152 rfl ?_
          refine X.iload_n 153 i270_152 rfl rfl rfl ?_
          refine X.cut [] i270_153 rfl ?_
          refine X.reti i270_153 rfl t270 ?_
          exact hQ y510 m511 (by first | trivial | omega) (hJ514.up (by omega)) (by omega) (by omega)
        · refine X.iconst 149 i270_148 rfl rfl (by decide) ?_
          refine X.goto 153 i270_149 rfl rfl ?_
          refine X.cut [] i270_153 rfl ?_
          refine X.reti i270_153 rfl t270 ?_
          exact hQ 0 m511 (by first | trivial | omega) (hJ514.up (by omega)) (by omega) (by omega)
    · refine X.aload_n 109 i270_108 rfl rfl rfl ?_
      refine X.iconst 110 i270_109 rfl rfl (by decide) ?_
      refine X.aload_n 111 i270_110 rfl rfl rfl ?_
      refine X.getI 114 8 i270_111 rfl rfl (by decide) rfl rfl rfl ?_
      refine X.callv 117 [zi 1, zi (m511 4 44 8)] [] [(0, zr 4 44), (1, zi 1), (2, zi (m511 4 44 8))] i270_114 rfl (by decide) rfl rfl (by omega) rfl rfl (by decide) rfl t268 (Nat.le_of_ble_eq_true rfl) (Nat.le_of_ble_eq_true rfl) rfl ?_
      refine c268_2 (S := zfr [] S) (m0 := m511) (B := B512)  1 (m511 4 44 8) (by omega) (hJ514.ow.up (by omega)) (by omega) (by omega) (by omega) (fun m532 hJ533 hqv5340 => ?_)
      have hJ535 := hJ514.trans hJ533 zi_n
      have mom532 := hJ533.mo rfl rfl
      show X (EE s) d 270 117 [(0, zr 4 44), (1, zi a1), (2, zi a2), (3, zi y510)] [] m532 _
      refine X.goto 141 i270_117 rfl rfl ?_
      refine X.cut [(0, zr 4 44), (3, zi y510)] i270_141 rfl ?_
      refine X.aload_n 142 i270_141 rfl rfl rfl ?_
      refine X.getZ 145 9 i270_142 rfl rfl (by decide) rfl rfl rfl (fun h536 => ?_)
      refine X.ifeq 152 148 i270_145 rfl rfl rfl (fun h537 => ?_) (fun h537 => ?_)
      · refine X.cut [(3, zi y510)] i270_152 rfl ?_
        refine X.iload_n 153 i270_152 rfl rfl rfl ?_
        refine X.cut [] i270_153 rfl ?_
        refine X.reti i270_153 rfl t270 ?_
        exact hQ y510 m532 (by first | trivial | omega) (hJ535.up (by omega)) (by omega) (by omega)
      · refine X.iconst 149 i270_148 rfl rfl (by decide) ?_
        refine X.goto 153 i270_149 rfl rfl ?_
        refine X.cut [] i270_153 rfl ?_
        refine X.reti i270_153 rfl t270 ?_
        exact hQ 0 m532 (by first | trivial | omega) (hJ535.up (by omega)) (by omega) (by omega)
  · refine X.iconst 8 i270_7 rfl rfl (by decide) ?_
    refine X.reti i270_8 rfl t270 ?_
    exact hQ 0 m (by first | trivial | omega) (hJ.up (by omega)) (by omega) (by omega)
-- WorkMeterModel.wrong
theorem c268_3 {s : Nat × (Nat → Int32)} {S : zS} {m0 m : zM} {B : Int} {d : Nat} {Q : Option zV → zM → Prop} (a1 a2 : Int) (hd : 13 ≤ d) (hJ : J S m0 B m) (hB : B + 0 ≤ 1000000000) (ha1 : 3 ≤ a1 ∧ a1 ≤ 3) (ha2 : (-2147483648) ≤ a2 ∧ a2 ≤ 2147483647) (hQ : ∀ m', J S m0 (B) m' → (m' 4 44 9 = 1) → Q none m') : X (EE s) d 268 0 [(0, zr 4 44), (1, zi a1), (2, zi a2)] [] m Q := by
  refine X.aload_n 1 i268_0 rfl rfl rfl ?_
  refine X.getZ 4 9 i268_1 rfl rfl (by decide) rfl rfl rfl (fun h501 => ?_)
  refine X.ifeq 8 7 i268_4 rfl rfl rfl (fun h502 => ?_) (fun h502 => ?_)
  · refine X.aload_n 9 i268_8 rfl rfl rfl ?_
    refine X.iconst 10 i268_9 rfl rfl (by decide) ?_
    refine X.putZ' 13 9 i268_10 rfl rfl (by decide) rfl rfl rfl (by omega) (fun hrm503 m503 hm503 => ?_)
    have rmm503 := r44_9 hJ 4
    have hJ504 := w44_9 hJ hm503 (by omega) (.inl (by omega))
    have em503 : m503 4 44 9 = 1 := by rw [hm503]; exact z_upd_same _ _ _ _ _
    have wmm5038 : m503 4 44 8 = m 4 44 8 := by rw [hm503]; exact z_upd_o _ _ rfl
    have wmm50310 : m503 4 44 10 = m 4 44 10 := by rw [hm503]; exact z_upd_o _ _ rfl
    refine X.aload_n 14 i268_13 rfl rfl rfl ?_
    refine X.iload_n 15 i268_14 rfl rfl rfl ?_
    refine X.putI' 18 6 i268_15 rfl rfl (by decide) rfl rfl rfl (fun hrm505 m505 hm505 => ?_)
    have hJ506 := w44_6 hJ504 hm505 (by omega) hrm505
    have wmm5058 : m505 4 44 8 = m503 4 44 8 := by rw [hm505]; exact z_upd_o _ _ rfl
    have wmm5059 : m505 4 44 9 = m503 4 44 9 := by rw [hm505]; exact z_upd_o _ _ rfl
    have wmm50510 : m505 4 44 10 = m503 4 44 10 := by rw [hm505]; exact z_upd_o _ _ rfl
    refine X.aload_n 19 i268_18 rfl rfl rfl ?_
    refine X.iload_n 20 i268_19 rfl rfl rfl ?_
    refine X.putI' 23 7 i268_20 rfl rfl (by decide) rfl rfl rfl (fun hrm507 m507 hm507 => ?_)
    have hJ508 := w44_6 hJ506 hm507 (by omega) hrm507
    have wmm5078 : m507 4 44 8 = m505 4 44 8 := by rw [hm507]; exact z_upd_o _ _ rfl
    have wmm5079 : m507 4 44 9 = m505 4 44 9 := by rw [hm507]; exact z_upd_o _ _ rfl
    have wmm50710 : m507 4 44 10 = m505 4 44 10 := by rw [hm507]; exact z_upd_o _ _ rfl
    refine X.retv i268_23 rfl t268 ?_
    exact hQ  m507  (hJ508.up (by omega)) (by omega)
  · refine X.retv i268_7 rfl t268 ?_
    exact hQ  m  (hJ.up (by omega)) (by omega)
-- WorkMeterModel.specialLine
theorem c275_1 {s : Nat × (Nat → Int32)} {S : zS} {m0 m : zM} {B : Int} {d : Nat} {Q : Option zV → zM → Prop} (hd : 15 ≤ d) (hJ : J S m0 B m) (hB : B + 0 ≤ 1000000000) (hQ : ∀ m', J S m0 (B) m' → Q none m') : X (EE s) d 275 0 [(0, zr 4 44)] [] m Q := by
  refine X.aload_n 1 i275_0 rfl rfl rfl ?_
  refine X.iconst 2 i275_1 rfl rfl (by decide) ?_
  refine X.sipush 5 i275_2 rfl rfl (by decide) ?_
  refine X.callv 8 [zi 0, zi 364] [] [(0, zr 4 44), (1, zi 0), (2, zi 364)] i275_5 rfl (by decide) rfl rfl (by omega) rfl rfl (by decide) rfl t270 (Nat.le_of_ble_eq_true rfl) (Nat.le_of_ble_eq_true rfl) rfl ?_
  refine c270_1 (B := B)  0 364 (by omega) (hJ.up (by omega)) (by omega) (by omega) (by omega) (fun v503 m501 hv503 hJ502 hqv5030 hqv5031 => ?_)
  show X (EE s) d 275 8 [(0, zr 4 44)] [zi v503] m501 _
  refine X.istore_n 9 [(0, zr 4 44), (1, zi v503)] i275_8 rfl rfl rfl ?_
  refine X.aload_n 10 i275_9 rfl rfl rfl ?_
  refine X.getZ 13 9 i275_10 rfl rfl (by decide) rfl rfl rfl (fun h504 => ?_)
  refine X.ifne 42 16 i275_13 rfl rfl rfl (fun h505 => ?_) (fun h505 => ?_)
  · refine X.aload_n 43 i275_42 rfl rfl rfl ?_
    refine X.getF 46 i275_43 rfl rfl (by decide) rfl rfl ?_
    refine X.sipush 49 i275_46 rfl rfl (by decide) ?_
    refine X.iload_n 50 i275_49 rfl rfl rfl ?_
    refine X.iadd 51 i275_50 rfl rfl (by omega) ?_
    refine X.aload_n 52 i275_51 rfl rfl rfl ?_
    refine X.iconst 53 i275_52 rfl rfl (by decide) ?_
    refine X.bipush 55 i275_53 rfl rfl (by decide) ?_
    refine X.callv 58 [zi 0, zi 7] [zi (423 + v503), zr 4 45] [(0, zr 4 44), (1, zi 0), (2, zi 7)] i275_55 rfl (by decide) rfl rfl (by omega) rfl rfl (by decide) rfl t270 (Nat.le_of_ble_eq_true rfl) (Nat.le_of_ble_eq_true rfl) rfl ?_
    refine c270_1 (B := B)  0 7 (by omega) (hJ502.up (by omega)) (by omega) (by omega) (by omega) (fun v508 m506 hv508 hJ507 hqv5080 hqv5081 => ?_)
    show X (EE s) d 275 58 [(0, zr 4 44), (1, zi v503)] [zi v508, zi (423 + v503), zr 4 45] m506 _
    refine X.i2l 59 i275_58 rfl rfl ?_
    refine X.last' 60 i275_59 rfl rfl (by decide) rfl (by omega) (fun hrm509 m509 hm509 => ?_)
    have hJ510 := w45_423 hJ507 hm509 (by omega) (by omega)
    refine X.retv i275_60 rfl t275 ?_
    exact hQ  m509  (hJ510.up (by omega)) 
  · refine X.aload_n 17 i275_16 rfl rfl rfl ?_
    refine X.getF 20 i275_17 rfl rfl (by decide) rfl rfl ?_
    refine X.sipush 23 i275_20 rfl rfl (by decide) ?_
    refine X.iload_n 24 i275_23 rfl rfl rfl ?_
    refine X.iadd 25 i275_24 rfl rfl (by omega) ?_
    refine X.lald 26 i275_25 rfl rfl (by decide) rfl (by omega) ?_
    have h511 := r45_423 hJ502 4 (i := (423 + v503)) (by omega)
    refine X.ldc2 29 i275_26 rfl rfl (by decide) ?_
    refine X.lcmp 30 i275_29 rfl rfl (fun z512 hz512 => ?_)
    refine X.ifeq 42 33 i275_30 rfl rfl rfl (fun h513 => ?_) (fun h513 => ?_)
    · have h513c : (m501 4 45 (423 + v503)) = (-1) := by omega
      clear h513 hz512
      refine X.aload_n 43 i275_42 rfl rfl rfl ?_
      refine X.getF 46 i275_43 rfl rfl (by decide) rfl rfl ?_
      refine X.sipush 49 i275_46 rfl rfl (by decide) ?_
      refine X.iload_n 50 i275_49 rfl rfl rfl ?_
      refine X.iadd 51 i275_50 rfl rfl (by omega) ?_
      refine X.aload_n 52 i275_51 rfl rfl rfl ?_
      refine X.iconst 53 i275_52 rfl rfl (by decide) ?_
      refine X.bipush 55 i275_53 rfl rfl (by decide) ?_
      refine X.callv 58 [zi 0, zi 7] [zi (423 + v503), zr 4 45] [(0, zr 4 44), (1, zi 0), (2, zi 7)] i275_55 rfl (by decide) rfl rfl (by omega) rfl rfl (by decide) rfl t270 (Nat.le_of_ble_eq_true rfl) (Nat.le_of_ble_eq_true rfl) rfl ?_
      refine c270_1 (B := B)  0 7 (by omega) (hJ502.up (by omega)) (by omega) (by omega) (by omega) (fun v516 m514 hv516 hJ515 hqv5160 hqv5161 => ?_)
      show X (EE s) d 275 58 [(0, zr 4 44), (1, zi v503)] [zi v516, zi (423 + v503), zr 4 45] m514 _
      refine X.i2l 59 i275_58 rfl rfl ?_
      refine X.last' 60 i275_59 rfl rfl (by decide) rfl (by omega) (fun hrm517 m517 hm517 => ?_)
      have hJ518 := w45_423 hJ515 hm517 (by omega) (by omega)
      refine X.retv i275_60 rfl t275 ?_
      exact hQ  m517  (hJ518.up (by omega)) 
    · have h513c : (m501 4 45 (423 + v503)) ≠ (-1) := by omega
      clear h513 hz512
      refine X.aload_n 34 i275_33 rfl rfl rfl ?_
      refine X.iconst 35 i275_34 rfl rfl (by decide) ?_
      refine X.aload_n 36 i275_35 rfl rfl rfl ?_
      refine X.getIr 39 10 i275_36 rfl rfl (by decide) rfl rfl rfl (fun h519 => ?_)
      refine X.callv 42 [zi 3, zi (m501 4 44 10)] [] [(0, zr 4 44), (1, zi 3), (2, zi (m501 4 44 10))] i275_39 rfl (by decide) rfl rfl (by omega) rfl rfl (by decide) rfl t268 (Nat.le_of_ble_eq_true rfl) (Nat.le_of_ble_eq_true rfl) rfl ?_
      refine c268_3 (B := B)  3 (m501 4 44 10) (by omega) (hJ502.up (by omega)) (by omega) (by omega) (by omega) (fun m520 hJ521 hqv5220 => ?_)
      show X (EE s) d 275 42 [(0, zr 4 44), (1, zi v503)] [] m520 _
      refine X.aload_n 43 i275_42 rfl rfl rfl ?_
      refine X.getF 46 i275_43 rfl rfl (by decide) rfl rfl ?_
      refine X.sipush 49 i275_46 rfl rfl (by decide) ?_
      refine X.iload_n 50 i275_49 rfl rfl rfl ?_
      refine X.iadd 51 i275_50 rfl rfl (by omega) ?_
      refine X.aload_n 52 i275_51 rfl rfl rfl ?_
      refine X.iconst 53 i275_52 rfl rfl (by decide) ?_
      refine X.bipush 55 i275_53 rfl rfl (by decide) ?_
      refine X.callv 58 [zi 0, zi 7] [zi (423 + v503), zr 4 45] [(0, zr 4 44), (1, zi 0), (2, zi 7)] i275_55 rfl (by decide) rfl rfl (by omega) rfl rfl (by decide) rfl t270 (Nat.le_of_ble_eq_true rfl) (Nat.le_of_ble_eq_true rfl) rfl ?_
      refine c270_1 (B := B)  0 7 (by omega) (hJ521.up (by omega)) (by omega) (by omega) (by omega) (fun v525 m523 hv525 hJ524 hqv5250 hqv5251 => ?_)
      show X (EE s) d 275 58 [(0, zr 4 44), (1, zi v503)] [zi v525, zi (423 + v503), zr 4 45] m523 _
      refine X.i2l 59 i275_58 rfl rfl ?_
      refine X.last' 60 i275_59 rfl rfl (by decide) rfl (by omega) (fun hrm526 m526 hm526 => ?_)
      have hJ527 := w45_423 hJ524 hm526 (by omega) (by omega)
      refine X.retv i275_60 rfl t275 ?_
      exact hQ  m526  (hJ527.up (by omega)) 
-- WorkMeterModel.must
theorem c272_1 {s : Nat × (Nat → Int32)} {S : zS} {m0 m : zM} {B : Int} {d : Nat} {Q : Option zV → zM → Prop} (a1 : Int) (hd : 14 ≤ d) (hJ : J S m0 B m) (hB : B + 0 ≤ 1000000000) (ha1 : 59 ≤ a1 ∧ a1 ≤ 59) (hQ : ∀ m', J S m0 (B) m' → (m' 4 44 9 = 1 ∨ m 4 44 8 < m' 4 44 8) → Q none m') : X (EE s) d 272 0 [(0, zr 4 44), (1, zi a1)] [] m Q := by
  refine X.aload_n 1 i272_0 rfl rfl rfl ?_
  refine X.callv 4 [] [] [(0, zr 4 44)] i272_1 rfl (by decide) rfl rfl (by omega) rfl rfl (by decide) rfl t263 (Nat.le_of_ble_eq_true rfl) (Nat.le_of_ble_eq_true rfl) rfl ?_
  refine c263_1 (S := zfr [] S) (m0 := m) (B := B)   (by omega) (hJ.ow.up (by omega)) (by omega)  (fun m501 hJ502 => ?_)
  have hJ504 := hJ.trans hJ502 zi_n
  have mom501 := hJ502.mo rfl rfl
  show X (EE s) d 272 4 [(0, zr 4 44), (1, zi a1)] [] m501 _
  refine X.aload_n 5 i272_4 rfl rfl rfl ?_
  refine X.getI 8 8 i272_5 rfl rfl (by decide) rfl rfl rfl ?_
  have h505 := r44_8 hJ504 4
  refine X.aload_n 9 i272_8 rfl rfl rfl ?_
  refine X.getI 12 5 i272_9 rfl rfl (by decide) rfl rfl rfl ?_
  have h506 := r44_5 hJ504 4
  refine X.icmpge 41 15 i272_12 rfl rfl rfl (fun h507 => ?_) (fun h507 => ?_)
  · refine X.cut [(0, zr 4 44)] i272_41 rfl ?_
    refine X.aload_n 42 i272_41 rfl rfl rfl ?_
    refine X.iconst 43 i272_42 rfl rfl (by decide) ?_
    refine X.aload_n 44 i272_43 rfl rfl rfl ?_
    refine X.getI 47 8 i272_44 rfl rfl (by decide) rfl rfl rfl ?_
    refine X.callv 50 [zi 1, zi (m501 4 44 8)] [] [(0, zr 4 44), (1, zi 1), (2, zi (m501 4 44 8))] i272_47 rfl (by decide) rfl rfl (by omega) rfl rfl (by decide) rfl t268 (Nat.le_of_ble_eq_true rfl) (Nat.le_of_ble_eq_true rfl) rfl ?_
    refine c268_2 (S := zfr [] S) (m0 := m501) (B := B)  1 (m501 4 44 8) (by omega) (hJ504.ow.up (by omega)) (by omega) (by omega) (by omega) (fun m508 hJ509 hqv5100 => ?_)
    have hJ511 := hJ504.trans hJ509 zi_n
    have mom508 := hJ509.mo rfl rfl
    show X (EE s) d 272 50 [(0, zr 4 44)] [] m508 _
    refine X.cut [] i272_50 rfl ?_
    refine X.retv i272_50 rfl t272 ?_
    exact hQ  m508  (hJ511.up (by omega)) (by omega)
  · refine X.aload_n 16 i272_15 rfl rfl rfl ?_
    refine X.getF 19 i272_16 rfl rfl (by decide) rfl rfl ?_
    refine X.aload_n 20 i272_19 rfl rfl rfl ?_
    refine X.getI 23 8 i272_20 rfl rfl (by decide) rfl rfl rfl ?_
    refine X.bald 24 i272_23 rfl rfl (by decide) rfl (by omega) (fun h512 => ?_)
    refine X.iload_n 25 i272_24 rfl rfl rfl ?_
    refine X.icmpne 41 28 i272_25 rfl rfl rfl (fun h513 => ?_) (fun h513 => ?_)
    · refine X.cut [(0, zr 4 44)] i272_41 rfl ?_
      refine X.aload_n 42 i272_41 rfl rfl rfl ?_
      refine X.iconst 43 i272_42 rfl rfl (by decide) ?_
      refine X.aload_n 44 i272_43 rfl rfl rfl ?_
      refine X.getI 47 8 i272_44 rfl rfl (by decide) rfl rfl rfl ?_
      refine X.callv 50 [zi 1, zi (m501 4 44 8)] [] [(0, zr 4 44), (1, zi 1), (2, zi (m501 4 44 8))] i272_47 rfl (by decide) rfl rfl (by omega) rfl rfl (by decide) rfl t268 (Nat.le_of_ble_eq_true rfl) (Nat.le_of_ble_eq_true rfl) rfl ?_
      refine c268_2 (S := zfr [] S) (m0 := m501) (B := B)  1 (m501 4 44 8) (by omega) (hJ504.ow.up (by omega)) (by omega) (by omega) (by omega) (fun m514 hJ515 hqv5160 => ?_)
      have hJ517 := hJ504.trans hJ515 zi_n
      have mom514 := hJ515.mo rfl rfl
      show X (EE s) d 272 50 [(0, zr 4 44)] [] m514 _
      refine X.cut [] i272_50 rfl ?_
      refine X.retv i272_50 rfl t272 ?_
      exact hQ  m514  (hJ517.up (by omega)) (by omega)
    · refine X.aload_n 29 i272_28 rfl rfl rfl ?_
      refine X.dup 30 i272_29 rfl rfl rfl ?_
      refine X.getI 33 8 i272_30 rfl rfl (by decide) rfl rfl rfl ?_
      refine X.iconst 34 i272_33 rfl rfl (by decide) ?_
      refine X.iadd 35 i272_34 rfl rfl (by omega) ?_
      refine X.putI' 38 8 i272_35 rfl rfl (by decide) rfl rfl rfl (fun hrm518 m518 hm518 => ?_)
      have rmm518 := r44_8 hJ504 4
      have hJ519 := w44_8 hJ504 hm518 (by omega) (.inl (by omega))
      have em518 : m518 4 44 8 = ((m501 4 44 8) + 1) := by rw [hm518]; exact z_upd_same _ _ _ _ _
      have wmm5189 : m518 4 44 9 = m501 4 44 9 := by rw [hm518]; exact z_upd_o _ _ rfl
      have wmm51810 : m518 4 44 10 = m501 4 44 10 := by rw [hm518]; exact z_upd_o _ _ rfl
      refine X.goto 50 i272_38 rfl rfl ?_
      refine X.cut [] i272_50 rfl ?_
      refine X.retv i272_50 rfl t272 ?_
      exact hQ  m518  (hJ519.up (by omega)) (by omega)
theorem l274_60_1 {s : Nat × (Nat → Int32)} {S : zS} {m0 : zM} {d : Nat} {Q : Option zV → zM → Prop} (y1 : Int) (BE : Int) (hE : BE ≤ 1000000000) (hd : 15 ≤ d) (hy1 : 0 ≤ y1 ∧ y1 ≤ 3)
    (K95 : ∀ (m' : zM) (B' : Int), J S m0 B' m' → B' ≤ BE → X (EE s) d 274 95 [] [] m' Q) :
    ∀ (n : Nat) (y2 : Int) (m : zM) (B : Int), J S m0 B m → B + 0 * (n : Int) ≤ BE → (0 ≤ y2 ∧ y2 ≤ 7) → 7 - y2 < (n : Int) → X (EE s) d 274 60 [(0, zr 4 44), (1, zi y1), (2, zi y2)] [] m Q := by
  intro n
  induction n with
  | zero =>
    intro y2 m B hJ hB  hy2 hn
    exfalso
    omega
  | succ n ih =>
    intro y2 m B hJ hB  hy2 hn
    refine X.iload_n 61 i274_60 rfl rfl rfl ?_
    refine X.bipush 63 i274_61 rfl rfl (by decide) ?_
    refine X.icmpge 95 66 i274_63 rfl rfl rfl (fun h507 => ?_) (fun h507 => ?_)
    · refine X.cut [] i274_95 rfl ?_
      exact K95  m (B) (hJ.up (by omega)) (by omega)  
    · refine X.aload_n 67 i274_66 rfl rfl rfl ?_
      refine X.getF 70 i274_67 rfl rfl (by decide) rfl rfl ?_
      refine X.sipush 73 i274_70 rfl rfl (by decide) ?_
      refine X.bipush 75 i274_73 rfl rfl (by decide) ?_
      refine X.iload_n 76 i274_75 rfl rfl rfl ?_
      refine X.imul 77 i274_76 rfl rfl (by omega) ?_
      refine X.iadd 78 i274_77 rfl rfl (by omega) ?_
      refine X.iload_n 79 i274_78 rfl rfl rfl ?_
      refine X.iadd 80 i274_79 rfl rfl (by omega) ?_
      refine X.aload_n 81 i274_80 rfl rfl rfl ?_
      refine X.iconst 82 i274_81 rfl rfl (by decide) ?_
      refine X.bipush 84 i274_82 rfl rfl (by decide) ?_
      refine X.callv 87 [zi 0, zi 7] [zi ((395 + (7 * y1)) + y2), zr 4 45] [(0, zr 4 44), (1, zi 0), (2, zi 7)] i274_84 rfl (by decide) rfl rfl (by omega) rfl rfl (by decide) rfl t270 (Nat.le_of_ble_eq_true rfl) (Nat.le_of_ble_eq_true rfl) rfl ?_
      refine c270_1 (B := B)  0 7 (by omega) (hJ.up (by omega)) (by omega) (by omega) (by omega) (fun v510 m508 hv510 hJ509 hqv5100 hqv5101 => ?_)
      show X (EE s) d 274 87 [(0, zr 4 44), (1, zi y1), (2, zi y2)] [zi v510, zi ((395 + (7 * y1)) + y2), zr 4 45] m508 _
      refine X.i2l 88 i274_87 rfl rfl ?_
      refine X.last' 89 i274_88 rfl rfl (by decide) rfl (by omega) (fun hrm511 m511 hm511 => ?_)
      have hJ512 := w45_395 hJ509 hm511 (by omega) (by omega)
      refine X.iinc 92 [(0, zr 4 44), (1, zi y1), (2, zi (y2 + 1))] i274_89 rfl rfl rfl (by omega) rfl ?_
      refine X.goto 60 i274_92 rfl rfl ?_
      exact ih (y2 + 1) m511 (B) (hJ512.up (by omega)) (by omega)  (by omega) (by omega)
-- WorkMeterModel.seasonLine
theorem c274_1 {s : Nat × (Nat → Int32)} {S : zS} {m0 m : zM} {B : Int} {d : Nat} {Q : Option zV → zM → Prop} (hd : 15 ≤ d) (hJ : J S m0 B m) (hB : B + 0 ≤ 1000000000) (hQ : ∀ m', J S m0 (B) m' → Q none m') : X (EE s) d 274 0 [(0, zr 4 44)] [] m Q := by
  refine X.aload_n 1 i274_0 rfl rfl rfl ?_
  refine X.iconst 2 i274_1 rfl rfl (by decide) ?_
  refine X.iconst 3 i274_2 rfl rfl (by decide) ?_
  refine X.callv 6 [zi 0, zi 3] [] [(0, zr 4 44), (1, zi 0), (2, zi 3)] i274_3 rfl (by decide) rfl rfl (by omega) rfl rfl (by decide) rfl t270 (Nat.le_of_ble_eq_true rfl) (Nat.le_of_ble_eq_true rfl) rfl ?_
  refine c270_1 (B := B)  0 3 (by omega) (hJ.up (by omega)) (by omega) (by omega) (by omega) (fun v503 m501 hv503 hJ502 hqv5030 hqv5031 => ?_)
  show X (EE s) d 274 6 [(0, zr 4 44)] [zi v503] m501 _
  refine X.istore_n 7 [(0, zr 4 44), (1, zi v503)] i274_6 rfl rfl rfl ?_
  refine X.aload_n 8 i274_7 rfl rfl rfl ?_
  refine X.getZ 11 9 i274_8 rfl rfl (by decide) rfl rfl rfl (fun h504 => ?_)
  refine X.ifne 32 14 i274_11 rfl rfl rfl (fun h505 => ?_) (fun h505 => ?_)
  · refine X.aload_n 33 i274_32 rfl rfl rfl ?_
    refine X.getF 36 i274_33 rfl rfl (by decide) rfl rfl ?_
    refine X.iload_n 37 i274_36 rfl rfl rfl ?_
    refine X.iconst 38 i274_37 rfl rfl (by decide) ?_
    refine X.zast' 39 i274_38 rfl rfl (by decide) rfl (by omega) (by omega) (fun hrm506 m506 hm506 => ?_)
    have hJ507 := w50_0 hJ502 hm506 (by omega) hrm506
    refine X.aload_n 40 i274_39 rfl rfl rfl ?_
    refine X.getF 43 i274_40 rfl rfl (by decide) rfl rfl ?_
    refine X.sipush 46 i274_43 rfl rfl (by decide) ?_
    refine X.iload_n 47 i274_46 rfl rfl rfl ?_
    refine X.iadd 48 i274_47 rfl rfl (by omega) ?_
    refine X.aload_n 49 i274_48 rfl rfl rfl ?_
    refine X.iconst 50 i274_49 rfl rfl (by decide) ?_
    refine X.sipush 53 i274_50 rfl rfl (by decide) ?_
    refine X.callv 56 [zi 0, zi 364] [zi (391 + v503), zr 4 45] [(0, zr 4 44), (1, zi 0), (2, zi 364)] i274_53 rfl (by decide) rfl rfl (by omega) rfl rfl (by decide) rfl t270 (Nat.le_of_ble_eq_true rfl) (Nat.le_of_ble_eq_true rfl) rfl ?_
    refine c270_1 (B := B)  0 364 (by omega) (hJ507.up (by omega)) (by omega) (by omega) (by omega) (fun v510 m508 hv510 hJ509 hqv5100 hqv5101 => ?_)
    show X (EE s) d 274 56 [(0, zr 4 44), (1, zi v503)] [zi v510, zi (391 + v503), zr 4 45] m508 _
    refine X.i2l 57 i274_56 rfl rfl ?_
    refine X.last' 58 i274_57 rfl rfl (by decide) rfl (by omega) (fun hrm511 m511 hm511 => ?_)
    have hJ512 := w45_391 hJ509 hm511 (by omega) (by omega)
    refine X.iconst 59 i274_58 rfl rfl (by decide) ?_
    refine X.istore_n 60 [(0, zr 4 44), (1, zi v503), (2, zi 0)] i274_59 rfl rfl rfl ?_
    refine l274_60_1 (s := s) (S := S) (m0 := m0) (d := d)  v503 (BE := B + 0) (by omega) (by omega) (by omega) (fun  m513 B514 hJ515 hBB514 => ?_) ((7 - 0 : Int).toNat + 1) 0 m511 (B) (hJ512.up (by omega)) (by omega)  (by omega) (by omega)
    refine X.retv i274_95 rfl t274 ?_
    exact hQ  m513  (hJ515.up (by omega)) 
  · refine X.aload_n 15 i274_14 rfl rfl rfl ?_
    refine X.getF 18 i274_15 rfl rfl (by decide) rfl rfl ?_
    refine X.iload_n 19 i274_18 rfl rfl rfl ?_
    refine X.zald 20 i274_19 rfl rfl (by decide) rfl (by omega) (fun h516 => ?_)
    refine X.ifeq 32 23 i274_20 rfl rfl rfl (fun h517 => ?_) (fun h517 => ?_)
    · refine X.aload_n 33 i274_32 rfl rfl rfl ?_
      refine X.getF 36 i274_33 rfl rfl (by decide) rfl rfl ?_
      refine X.iload_n 37 i274_36 rfl rfl rfl ?_
      refine X.iconst 38 i274_37 rfl rfl (by decide) ?_
      refine X.zast' 39 i274_38 rfl rfl (by decide) rfl (by omega) (by omega) (fun hrm518 m518 hm518 => ?_)
      have hJ519 := w50_0 hJ502 hm518 (by omega) hrm518
      refine X.aload_n 40 i274_39 rfl rfl rfl ?_
      refine X.getF 43 i274_40 rfl rfl (by decide) rfl rfl ?_
      refine X.sipush 46 i274_43 rfl rfl (by decide) ?_
      refine X.iload_n 47 i274_46 rfl rfl rfl ?_
      refine X.iadd 48 i274_47 rfl rfl (by omega) ?_
      refine X.aload_n 49 i274_48 rfl rfl rfl ?_
      refine X.iconst 50 i274_49 rfl rfl (by decide) ?_
      refine X.sipush 53 i274_50 rfl rfl (by decide) ?_
      refine X.callv 56 [zi 0, zi 364] [zi (391 + v503), zr 4 45] [(0, zr 4 44), (1, zi 0), (2, zi 364)] i274_53 rfl (by decide) rfl rfl (by omega) rfl rfl (by decide) rfl t270 (Nat.le_of_ble_eq_true rfl) (Nat.le_of_ble_eq_true rfl) rfl ?_
      refine c270_1 (B := B)  0 364 (by omega) (hJ519.up (by omega)) (by omega) (by omega) (by omega) (fun v522 m520 hv522 hJ521 hqv5220 hqv5221 => ?_)
      show X (EE s) d 274 56 [(0, zr 4 44), (1, zi v503)] [zi v522, zi (391 + v503), zr 4 45] m520 _
      refine X.i2l 57 i274_56 rfl rfl ?_
      refine X.last' 58 i274_57 rfl rfl (by decide) rfl (by omega) (fun hrm523 m523 hm523 => ?_)
      have hJ524 := w45_391 hJ521 hm523 (by omega) (by omega)
      refine X.iconst 59 i274_58 rfl rfl (by decide) ?_
      refine X.istore_n 60 [(0, zr 4 44), (1, zi v503), (2, zi 0)] i274_59 rfl rfl rfl ?_
      refine l274_60_1 (s := s) (S := S) (m0 := m0) (d := d)  v503 (BE := B + 0) (by omega) (by omega) (by omega) (fun  m525 B526 hJ527 hBB526 => ?_) ((7 - 0 : Int).toNat + 1) 0 m523 (B) (hJ524.up (by omega)) (by omega)  (by omega) (by omega)
      refine X.retv i274_95 rfl t274 ?_
      exact hQ  m525  (hJ527.up (by omega)) 
    · refine X.aload_n 24 i274_23 rfl rfl rfl ?_
      refine X.iconst 25 i274_24 rfl rfl (by decide) ?_
      refine X.aload_n 26 i274_25 rfl rfl rfl ?_
      refine X.getIr 29 10 i274_26 rfl rfl (by decide) rfl rfl rfl (fun h528 => ?_)
      refine X.callv 32 [zi 3, zi (m501 4 44 10)] [] [(0, zr 4 44), (1, zi 3), (2, zi (m501 4 44 10))] i274_29 rfl (by decide) rfl rfl (by omega) rfl rfl (by decide) rfl t268 (Nat.le_of_ble_eq_true rfl) (Nat.le_of_ble_eq_true rfl) rfl ?_
      refine c268_3 (B := B)  3 (m501 4 44 10) (by omega) (hJ502.up (by omega)) (by omega) (by omega) (by omega) (fun m529 hJ530 hqv5310 => ?_)
      show X (EE s) d 274 32 [(0, zr 4 44), (1, zi v503)] [] m529 _
      refine X.aload_n 33 i274_32 rfl rfl rfl ?_
      refine X.getF 36 i274_33 rfl rfl (by decide) rfl rfl ?_
      refine X.iload_n 37 i274_36 rfl rfl rfl ?_
      refine X.iconst 38 i274_37 rfl rfl (by decide) ?_
      refine X.zast' 39 i274_38 rfl rfl (by decide) rfl (by omega) (by omega) (fun hrm532 m532 hm532 => ?_)
      have hJ533 := w50_0 hJ530 hm532 (by omega) hrm532
      refine X.aload_n 40 i274_39 rfl rfl rfl ?_
      refine X.getF 43 i274_40 rfl rfl (by decide) rfl rfl ?_
      refine X.sipush 46 i274_43 rfl rfl (by decide) ?_
      refine X.iload_n 47 i274_46 rfl rfl rfl ?_
      refine X.iadd 48 i274_47 rfl rfl (by omega) ?_
      refine X.aload_n 49 i274_48 rfl rfl rfl ?_
      refine X.iconst 50 i274_49 rfl rfl (by decide) ?_
      refine X.sipush 53 i274_50 rfl rfl (by decide) ?_
      refine X.callv 56 [zi 0, zi 364] [zi (391 + v503), zr 4 45] [(0, zr 4 44), (1, zi 0), (2, zi 364)] i274_53 rfl (by decide) rfl rfl (by omega) rfl rfl (by decide) rfl t270 (Nat.le_of_ble_eq_true rfl) (Nat.le_of_ble_eq_true rfl) rfl ?_
      refine c270_1 (B := B)  0 364 (by omega) (hJ533.up (by omega)) (by omega) (by omega) (by omega) (fun v536 m534 hv536 hJ535 hqv5360 hqv5361 => ?_)
      show X (EE s) d 274 56 [(0, zr 4 44), (1, zi v503)] [zi v536, zi (391 + v503), zr 4 45] m534 _
      refine X.i2l 57 i274_56 rfl rfl ?_
      refine X.last' 58 i274_57 rfl rfl (by decide) rfl (by omega) (fun hrm537 m537 hm537 => ?_)
      have hJ538 := w45_391 hJ535 hm537 (by omega) (by omega)
      refine X.iconst 59 i274_58 rfl rfl (by decide) ?_
      refine X.istore_n 60 [(0, zr 4 44), (1, zi v503), (2, zi 0)] i274_59 rfl rfl rfl ?_
      refine l274_60_1 (s := s) (S := S) (m0 := m0) (d := d)  v503 (BE := B + 0) (by omega) (by omega) (by omega) (fun  m539 B540 hJ541 hBB540 => ?_) ((7 - 0 : Int).toNat + 1) 0 m537 (B) (hJ538.up (by omega)) (by omega)  (by omega) (by omega)
      refine X.retv i274_95 rfl t274 ?_
      exact hQ  m539  (hJ541.up (by omega)) 
-- WorkMeterModel.isDigitNext
theorem c271_1 {s : Nat × (Nat → Int32)} {S : zS} {m0 m : zM} {B : Int} {d : Nat} {Q : Option zV → zM → Prop} (hd : 14 ≤ d) (hJ : J S m0 B m) (hB : B + 0 ≤ 1000000000) (hQ : ∀ (v : Int) m', (0 ≤ v ∧ v ≤ 1) → J S m0 (B) m' → Q (some (zi v)) m') : X (EE s) d 271 0 [(0, zr 4 44)] [] m Q := by
  refine X.aload_n 1 i271_0 rfl rfl rfl ?_
  refine X.callv 4 [] [] [(0, zr 4 44)] i271_1 rfl (by decide) rfl rfl (by omega) rfl rfl (by decide) rfl t263 (Nat.le_of_ble_eq_true rfl) (Nat.le_of_ble_eq_true rfl) rfl ?_
  refine c263_1 (B := B)   (by omega) (hJ.up (by omega)) (by omega)  (fun m501 hJ502 => ?_)
  show X (EE s) d 271 4 [(0, zr 4 44)] [] m501 _
  refine X.aload_n 5 i271_4 rfl rfl rfl ?_
  refine X.getI 8 8 i271_5 rfl rfl (by decide) rfl rfl rfl ?_
  have h504 := r44_8 hJ502 4
  refine X.aload_n 9 i271_8 rfl rfl rfl ?_
  refine X.getI 12 5 i271_9 rfl rfl (by decide) rfl rfl rfl ?_
  have h505 := r44_5 hJ502 4
  refine X.icmpge 41 15 i271_12 rfl rfl rfl (fun h506 => ?_) (fun h506 => ?_)
  · refine X.cut [] i271_41 rfl ?_
    refine X.iconst 42 i271_41 rfl rfl (by decide) ?_
    refine X.retz i271_42 rfl t271 (by omega) ?_
    exact hQ 0 m501 (by first | trivial | omega) (hJ502.up (by omega)) 
  · refine X.aload_n 16 i271_15 rfl rfl rfl ?_
    refine X.getF 19 i271_16 rfl rfl (by decide) rfl rfl ?_
    refine X.aload_n 20 i271_19 rfl rfl rfl ?_
    refine X.getI 23 8 i271_20 rfl rfl (by decide) rfl rfl rfl ?_
    refine X.bald 24 i271_23 rfl rfl (by decide) rfl (by omega) (fun h507 => ?_)
    refine X.i2l 25 i271_24 rfl rfl ?_
    refine X.ldc2 28 i271_25 rfl rfl (by decide) ?_
    refine X.ldc2 31 i271_28 rfl rfl (by decide) ?_
    refine X.calls 34 [zl (m501 4 48 (m501 4 44 8)), zl 48, zl 57] [] [(0, zl (m501 4 48 (m501 4 44 8))), (2, zl 48), (4, zl 57)] i271_31 (by decide) rfl rfl (by omega) rfl rfl t204 (Nat.le_of_ble_eq_true rfl) (Nat.le_of_ble_eq_true rfl) rfl ?_
    refine X.lload_n 1 i204_0 rfl rfl rfl ?_
    refine X.lload_n 2 i204_1 rfl rfl rfl ?_
    refine X.lcmp 3 i204_2 rfl rfl (fun z508 hz508 => ?_)
    refine X.iflt 17 6 i204_3 rfl rfl rfl (fun h509 => ?_) (fun h509 => ?_)
    · have h509c : (m501 4 48 (m501 4 44 8)) < 48 := by omega
      clear h509 hz508
      refine X.cut [] i204_17 rfl ?_
      refine X.iconst 18 i204_17 rfl rfl (by decide) ?_
      refine X.retz i204_18 rfl t204 (by omega) ?_
      show X (EE s) d 271 34 [(0, zr 4 44)] [zi 0] m501 _
      refine X.ifeq 41 37 i271_34 rfl rfl rfl (fun h510 => ?_) (fun h510 => (by exfalso; omega))
      refine X.cut [] i271_41 rfl ?_
      refine X.iconst 42 i271_41 rfl rfl (by decide) ?_
      refine X.retz i271_42 rfl t271 (by omega) ?_
      exact hQ 0 m501 (by first | trivial | omega) (hJ502.up (by omega)) 
    · have h509c : (m501 4 48 (m501 4 44 8)) ≥ 48 := by omega
      clear h509 hz508
      refine X.lload_n 7 i204_6 rfl rfl rfl ?_
      refine X.lload 9 i204_7 rfl rfl rfl ?_
      refine X.lcmp 10 i204_9 rfl rfl (fun z511 hz511 => ?_)
      refine X.ifgt 17 13 i204_10 rfl rfl rfl (fun h512 => ?_) (fun h512 => ?_)
      · have h512c : (m501 4 48 (m501 4 44 8)) > 57 := by omega
        clear h512 hz511
        refine X.cut [] i204_17 rfl ?_
        refine X.iconst 18 i204_17 rfl rfl (by decide) ?_
        refine X.retz i204_18 rfl t204 (by omega) ?_
        show X (EE s) d 271 34 [(0, zr 4 44)] [zi 0] m501 _
        refine X.ifeq 41 37 i271_34 rfl rfl rfl (fun h513 => ?_) (fun h513 => (by exfalso; omega))
        refine X.cut [] i271_41 rfl ?_
        refine X.iconst 42 i271_41 rfl rfl (by decide) ?_
        refine X.retz i271_42 rfl t271 (by omega) ?_
        exact hQ 0 m501 (by first | trivial | omega) (hJ502.up (by omega)) 
      · have h512c : (m501 4 48 (m501 4 44 8)) ≤ 57 := by omega
        clear h512 hz511
        refine X.iconst 14 i204_13 rfl rfl (by decide) ?_
        refine X.goto 18 i204_14 rfl rfl ?_
        refine X.cut [] i204_18 rfl ?_
        refine X.retz i204_18 rfl t204 (by omega) ?_
        show X (EE s) d 271 34 [(0, zr 4 44)] [zi 1] m501 _
        refine X.ifeq 41 37 i271_34 rfl rfl rfl (fun h514 => (by exfalso; omega)) (fun h514 => ?_)
        refine X.iconst 38 i271_37 rfl rfl (by decide) ?_
        refine X.goto 42 i271_38 rfl rfl ?_
        refine X.cut [] i271_42 rfl ?_
        refine X.retz i271_42 rfl t271 (by omega) ?_
        exact hQ 1 m501 (by first | trivial | omega) (hJ502.up (by omega)) 
-- WorkMeterModel.must
theorem c272_2 {s : Nat × (Nat → Int32)} {S : zS} {m0 m : zM} {B : Int} {d : Nat} {Q : Option zV → zM → Prop} (a1 : Int) (hd : 14 ≤ d) (hJ : J S m0 B m) (hB : B + 0 ≤ 1000000000) (ha1 : 58 ≤ a1 ∧ a1 ≤ 58) (hQ : ∀ m', J S m0 (B) m' → (m' 4 44 9 = 1 ∨ m 4 44 8 < m' 4 44 8) → Q none m') : X (EE s) d 272 0 [(0, zr 4 44), (1, zi a1)] [] m Q := by
  refine X.aload_n 1 i272_0 rfl rfl rfl ?_
  refine X.callv 4 [] [] [(0, zr 4 44)] i272_1 rfl (by decide) rfl rfl (by omega) rfl rfl (by decide) rfl t263 (Nat.le_of_ble_eq_true rfl) (Nat.le_of_ble_eq_true rfl) rfl ?_
  refine c263_1 (S := zfr [] S) (m0 := m) (B := B)   (by omega) (hJ.ow.up (by omega)) (by omega)  (fun m501 hJ502 => ?_)
  have hJ504 := hJ.trans hJ502 zi_n
  have mom501 := hJ502.mo rfl rfl
  show X (EE s) d 272 4 [(0, zr 4 44), (1, zi a1)] [] m501 _
  refine X.aload_n 5 i272_4 rfl rfl rfl ?_
  refine X.getI 8 8 i272_5 rfl rfl (by decide) rfl rfl rfl ?_
  have h505 := r44_8 hJ504 4
  refine X.aload_n 9 i272_8 rfl rfl rfl ?_
  refine X.getI 12 5 i272_9 rfl rfl (by decide) rfl rfl rfl ?_
  have h506 := r44_5 hJ504 4
  refine X.icmpge 41 15 i272_12 rfl rfl rfl (fun h507 => ?_) (fun h507 => ?_)
  · refine X.cut [(0, zr 4 44)] i272_41 rfl ?_
    refine X.aload_n 42 i272_41 rfl rfl rfl ?_
    refine X.iconst 43 i272_42 rfl rfl (by decide) ?_
    refine X.aload_n 44 i272_43 rfl rfl rfl ?_
    refine X.getI 47 8 i272_44 rfl rfl (by decide) rfl rfl rfl ?_
    refine X.callv 50 [zi 1, zi (m501 4 44 8)] [] [(0, zr 4 44), (1, zi 1), (2, zi (m501 4 44 8))] i272_47 rfl (by decide) rfl rfl (by omega) rfl rfl (by decide) rfl t268 (Nat.le_of_ble_eq_true rfl) (Nat.le_of_ble_eq_true rfl) rfl ?_
    refine c268_2 (S := zfr [] S) (m0 := m501) (B := B)  1 (m501 4 44 8) (by omega) (hJ504.ow.up (by omega)) (by omega) (by omega) (by omega) (fun m508 hJ509 hqv5100 => ?_)
    have hJ511 := hJ504.trans hJ509 zi_n
    have mom508 := hJ509.mo rfl rfl
    show X (EE s) d 272 50 [(0, zr 4 44)] [] m508 _
    refine X.cut [] i272_50 rfl ?_
    refine X.retv i272_50 rfl t272 ?_
    exact hQ  m508  (hJ511.up (by omega)) (by omega)
  · refine X.aload_n 16 i272_15 rfl rfl rfl ?_
    refine X.getF 19 i272_16 rfl rfl (by decide) rfl rfl ?_
    refine X.aload_n 20 i272_19 rfl rfl rfl ?_
    refine X.getI 23 8 i272_20 rfl rfl (by decide) rfl rfl rfl ?_
    refine X.bald 24 i272_23 rfl rfl (by decide) rfl (by omega) (fun h512 => ?_)
    refine X.iload_n 25 i272_24 rfl rfl rfl ?_
    refine X.icmpne 41 28 i272_25 rfl rfl rfl (fun h513 => ?_) (fun h513 => ?_)
    · refine X.cut [(0, zr 4 44)] i272_41 rfl ?_
      refine X.aload_n 42 i272_41 rfl rfl rfl ?_
      refine X.iconst 43 i272_42 rfl rfl (by decide) ?_
      refine X.aload_n 44 i272_43 rfl rfl rfl ?_
      refine X.getI 47 8 i272_44 rfl rfl (by decide) rfl rfl rfl ?_
      refine X.callv 50 [zi 1, zi (m501 4 44 8)] [] [(0, zr 4 44), (1, zi 1), (2, zi (m501 4 44 8))] i272_47 rfl (by decide) rfl rfl (by omega) rfl rfl (by decide) rfl t268 (Nat.le_of_ble_eq_true rfl) (Nat.le_of_ble_eq_true rfl) rfl ?_
      refine c268_2 (S := zfr [] S) (m0 := m501) (B := B)  1 (m501 4 44 8) (by omega) (hJ504.ow.up (by omega)) (by omega) (by omega) (by omega) (fun m514 hJ515 hqv5160 => ?_)
      have hJ517 := hJ504.trans hJ515 zi_n
      have mom514 := hJ515.mo rfl rfl
      show X (EE s) d 272 50 [(0, zr 4 44)] [] m514 _
      refine X.cut [] i272_50 rfl ?_
      refine X.retv i272_50 rfl t272 ?_
      exact hQ  m514  (hJ517.up (by omega)) (by omega)
    · refine X.aload_n 29 i272_28 rfl rfl rfl ?_
      refine X.dup 30 i272_29 rfl rfl rfl ?_
      refine X.getI 33 8 i272_30 rfl rfl (by decide) rfl rfl rfl ?_
      refine X.iconst 34 i272_33 rfl rfl (by decide) ?_
      refine X.iadd 35 i272_34 rfl rfl (by omega) ?_
      refine X.putI' 38 8 i272_35 rfl rfl (by decide) rfl rfl rfl (fun hrm518 m518 hm518 => ?_)
      have rmm518 := r44_8 hJ504 4
      have hJ519 := w44_8 hJ504 hm518 (by omega) (.inl (by omega))
      have em518 : m518 4 44 8 = ((m501 4 44 8) + 1) := by rw [hm518]; exact z_upd_same _ _ _ _ _
      have wmm5189 : m518 4 44 9 = m501 4 44 9 := by rw [hm518]; exact z_upd_o _ _ rfl
      have wmm51810 : m518 4 44 10 = m501 4 44 10 := by rw [hm518]; exact z_upd_o _ _ rfl
      refine X.goto 50 i272_38 rfl rfl ?_
      refine X.cut [] i272_50 rfl ?_
      refine X.retv i272_50 rfl t272 ?_
      exact hQ  m518  (hJ519.up (by omega)) (by omega)
theorem l273_2_1 {s : Nat × (Nat → Int32)} {S : zS} {m0 m : zM} {B : Int} {d : Nat} {Q : Option zV → zM → Prop} (y1 y2 : Int) (hd : 13 ≤ d) (hJ : J S m0 B m) (hB9 : B ≤ 1000000000) (hy1 : 0 ≤ y1 ∧ y1 ≤ 7) (hy2 : 0 ≤ y2 ∧ y2 ≤ 86340)
    (K39 : ∀ (x3 : Int) , (0 ≤ x3 ∧ x3 ≤ 5) → X (EE s) d 273 39 [(0, zr 4 44), (1, zi y1), (2, zi y2), (3, zi x3)] [] m Q)
    (K47 : X (EE s) d 273 47 [] [] m Q) :
    ∀ (n : Nat) (y3 : Int) , (0 ≤ y3 ∧ y3 ≤ 6) → 6 - y3 < (n : Int) → X (EE s) d 273 2 [(0, zr 4 44), (1, zi y1), (2, zi y2), (3, zi y3)] [] m Q := by
  intro n
  induction n with
  | zero =>
    intro y3 hy3 hn
    exfalso
    omega
  | succ n ih =>
    intro y3 hy3 hn
    refine X.iload_n 3 i273_2 rfl rfl rfl ?_
    refine X.i2l 4 i273_3 rfl rfl ?_
    refine X.aload_n 5 i273_4 rfl rfl rfl ?_
    refine X.getF 8 i273_5 rfl rfl (by decide) rfl rfl ?_
    refine X.sipush 11 i273_8 rfl rfl (by decide) ?_
    refine X.iload_n 12 i273_11 rfl rfl rfl ?_
    refine X.iadd 13 i273_12 rfl rfl (by omega) ?_
    refine X.lald 14 i273_13 rfl rfl (by decide) rfl (by omega) ?_
    have h509 := r45_287 hJ 4 (i := (287 + y1)) (by omega)
    refine X.lcmp 15 i273_14 rfl rfl (fun z510 hz510 => ?_)
    refine X.ifge 47 18 i273_15 rfl rfl rfl (fun h511 => ?_) (fun h511 => ?_)
    · have h511c : y3 ≥ (m 4 45 (287 + y1)) := by omega
      clear h511 hz510
      refine X.cut [] i273_47 rfl ?_
      exact K47  
    · have h511c : y3 < (m 4 45 (287 + y1)) := by omega
      clear h511 hz510
      refine X.aload_n 19 i273_18 rfl rfl rfl ?_
      refine X.getF 22 i273_19 rfl rfl (by decide) rfl rfl ?_
      refine X.sipush 25 i273_22 rfl rfl (by decide) ?_
      refine X.bipush 27 i273_25 rfl rfl (by decide) ?_
      refine X.iload_n 28 i273_27 rfl rfl rfl ?_
      refine X.imul 29 i273_28 rfl rfl (by omega) ?_
      refine X.iadd 30 i273_29 rfl rfl (by omega) ?_
      refine X.iload_n 31 i273_30 rfl rfl rfl ?_
      refine X.iadd 32 i273_31 rfl rfl (by omega) ?_
      refine X.lald 33 i273_32 rfl rfl (by decide) rfl (by omega) ?_
      have h512 := r45_295 hJ 4 (i := ((295 + (6 * y1)) + y3)) (by omega)
      refine X.iload_n 34 i273_33 rfl rfl rfl ?_
      refine X.i2l 35 i273_34 rfl rfl ?_
      refine X.lcmp 36 i273_35 rfl rfl (fun z513 hz513 => ?_)
      refine X.ifne 41 39 i273_36 rfl rfl rfl (fun h514 => ?_) (fun h514 => ?_)
      · have h514c : (m 4 45 ((295 + (6 * y1)) + y3)) ≠ y2 := by omega
        clear h514 hz513
        refine X.iinc 44 [(0, zr 4 44), (1, zi y1), (2, zi y2), (3, zi (y3 + 1))] i273_41 rfl rfl rfl (by omega) rfl ?_
        refine X.goto 2 i273_44 rfl rfl ?_
        exact ih (y3 + 1) (by omega) (by omega)
      · have h514c : (m 4 45 ((295 + (6 * y1)) + y3)) = y2 := by omega
        clear h514 hz513
        exact K39 y3 (by first | trivial | omega)
-- WorkMeterModel.isSwitch
theorem c273_1 {s : Nat × (Nat → Int32)} {S : zS} {m0 m : zM} {B : Int} {d : Nat} {Q : Option zV → zM → Prop} (a1 a2 : Int) (hd : 13 ≤ d) (hJ : J S m0 B m) (hB : B + 0 ≤ 1000000000) (ha1 : 0 ≤ a1 ∧ a1 ≤ 7) (ha2 : 0 ≤ a2 ∧ a2 ≤ 86340) (hQ : ∀ (v : Int), (0 ≤ v ∧ v ≤ 1) → Q (some (zi v)) m) : X (EE s) d 273 0 [(0, zr 4 44), (1, zi a1), (2, zi a2)] [] m Q := by
  refine X.iconst 1 i273_0 rfl rfl (by decide) ?_
  refine X.istore_n 2 [(0, zr 4 44), (1, zi a1), (2, zi a2), (3, zi 0)] i273_1 rfl rfl rfl ?_
  refine l273_2_1 (s := s) (S := S) (m0 := m0) (m := m) (B := B) (d := d)  a1 a2 (by omega) (hJ.up (by omega)) (by omega) (by omega) (by omega) (fun y501 hby501 => ?_) ?_ ((6 - 0 : Int).toNat + 1) 0 (by omega) (by omega)
  · refine X.iconst 40 i273_39 rfl rfl (by decide) ?_
    refine X.retz i273_40 rfl t273 (by omega) ?_
    exact hQ 1 (by first | trivial | omega) 
  · refine X.iconst 48 i273_47 rfl rfl (by decide) ?_
    refine X.retz i273_48 rfl t273 (by omega) ?_
    exact hQ 0 (by first | trivial | omega) 
-- WorkMeterModel.wrong
theorem c268_4 {s : Nat × (Nat → Int32)} {S : zS} {m0 m : zM} {B : Int} {d : Nat} {Q : Option zV → zM → Prop} (a1 a2 : Int) (hd : 13 ≤ d) (hJ : J S m0 B m) (hB : B + 0 ≤ 1000000000) (ha1 : 4 ≤ a1 ∧ a1 ≤ 4) (ha2 : (-2147483648) ≤ a2 ∧ a2 ≤ 2147483647) (hQ : ∀ m', J S m0 (B) m' → (m' 4 44 9 = 1) → Q none m') : X (EE s) d 268 0 [(0, zr 4 44), (1, zi a1), (2, zi a2)] [] m Q := by
  refine X.aload_n 1 i268_0 rfl rfl rfl ?_
  refine X.getZ 4 9 i268_1 rfl rfl (by decide) rfl rfl rfl (fun h501 => ?_)
  refine X.ifeq 8 7 i268_4 rfl rfl rfl (fun h502 => ?_) (fun h502 => ?_)
  · refine X.aload_n 9 i268_8 rfl rfl rfl ?_
    refine X.iconst 10 i268_9 rfl rfl (by decide) ?_
    refine X.putZ' 13 9 i268_10 rfl rfl (by decide) rfl rfl rfl (by omega) (fun hrm503 m503 hm503 => ?_)
    have rmm503 := r44_9 hJ 4
    have hJ504 := w44_9 hJ hm503 (by omega) (.inl (by omega))
    have em503 : m503 4 44 9 = 1 := by rw [hm503]; exact z_upd_same _ _ _ _ _
    have wmm5038 : m503 4 44 8 = m 4 44 8 := by rw [hm503]; exact z_upd_o _ _ rfl
    have wmm50310 : m503 4 44 10 = m 4 44 10 := by rw [hm503]; exact z_upd_o _ _ rfl
    refine X.aload_n 14 i268_13 rfl rfl rfl ?_
    refine X.iload_n 15 i268_14 rfl rfl rfl ?_
    refine X.putI' 18 6 i268_15 rfl rfl (by decide) rfl rfl rfl (fun hrm505 m505 hm505 => ?_)
    have hJ506 := w44_6 hJ504 hm505 (by omega) hrm505
    have wmm5058 : m505 4 44 8 = m503 4 44 8 := by rw [hm505]; exact z_upd_o _ _ rfl
    have wmm5059 : m505 4 44 9 = m503 4 44 9 := by rw [hm505]; exact z_upd_o _ _ rfl
    have wmm50510 : m505 4 44 10 = m503 4 44 10 := by rw [hm505]; exact z_upd_o _ _ rfl
    refine X.aload_n 19 i268_18 rfl rfl rfl ?_
    refine X.iload_n 20 i268_19 rfl rfl rfl ?_
    refine X.putI' 23 7 i268_20 rfl rfl (by decide) rfl rfl rfl (fun hrm507 m507 hm507 => ?_)
    have hJ508 := w44_6 hJ506 hm507 (by omega) hrm507
    have wmm5078 : m507 4 44 8 = m505 4 44 8 := by rw [hm507]; exact z_upd_o _ _ rfl
    have wmm5079 : m507 4 44 9 = m505 4 44 9 := by rw [hm507]; exact z_upd_o _ _ rfl
    have wmm50710 : m507 4 44 10 = m505 4 44 10 := by rw [hm507]; exact z_upd_o _ _ rfl
    refine X.retv i268_23 rfl t268 ?_
    exact hQ  m507  (hJ508.up (by omega)) (by omega)
  · refine X.retv i268_7 rfl t268 ?_
    exact hQ  m  (hJ.up (by omega)) (by omega)
theorem l269_40_1 {s : Nat × (Nat → Int32)} {S : zS} {m0 : zM} {d : Nat} {Q : Option zV → zM → Prop} (y1 : Int) (BE : Int) (hE : BE ≤ 1000000000) (hd : 15 ≤ d) (hy1 : 0 ≤ y1 ∧ y1 ≤ 7)
    (K175 : ∀ (m' : zM) (B' : Int), J S m0 B' m' → B' ≤ BE → X (EE s) d 269 175 [] [] m' Q) :
    ∀ (n : Nat) (m : zM) (B : Int), J S m0 B m → B + 0 * (n : Int) ≤ BE → 604 - m 4 44 8 - 302 * m 4 44 9 < (n : Int) → X (EE s) d 269 40 [(0, zr 4 44), (1, zi y1)] [] m Q := by
  intro n
  induction n with
  | zero =>
    intro  m B hJ hB   hn
    have zf0 := r44_8 hJ 4
    have zf1 := r44_9 hJ 4
    exfalso
    omega
  | succ n ih =>
    intro  m B hJ hB   hn
    refine X.aload_n 41 i269_40 rfl rfl rfl ?_
    refine X.getZ 44 9 i269_41 rfl rfl (by decide) rfl rfl rfl (fun h669 => ?_)
    refine X.ifne 175 47 i269_44 rfl rfl rfl (fun h670 => ?_) (fun h670 => ?_)
    · refine X.cut [] i269_175 rfl ?_
      exact K175  m (B) (hJ.up (by omega)) (by omega)  
    · refine X.aload_n 48 i269_47 rfl rfl rfl ?_
      refine X.callv 51 [] [] [(0, zr 4 44)] i269_48 rfl (by decide) rfl rfl (by omega) rfl rfl (by decide) rfl t271 (Nat.le_of_ble_eq_true rfl) (Nat.le_of_ble_eq_true rfl) rfl ?_
      refine c271_1 (S := zfr [] S) (m0 := m) (B := B)   (by omega) (hJ.ow.up (by omega)) (by omega)  (fun v673 m671 hv673 hJ672 => ?_)
      have hJ674 := hJ.trans hJ672 zi_n
      have mom671 := hJ672.mo rfl rfl
      show X (EE s) d 269 51 [(0, zr 4 44), (1, zi y1)] [zi v673] m671 _
      refine X.ifeq 175 54 i269_51 rfl rfl rfl (fun h675 => ?_) (fun h675 => ?_)
      · refine X.cut [] i269_175 rfl ?_
        exact K175  m671 (B) (hJ674.up (by omega)) (by omega)  
      · refine X.aload_n 55 i269_54 rfl rfl rfl ?_
        refine X.iconst 56 i269_55 rfl rfl (by decide) ?_
        refine X.bipush 58 i269_56 rfl rfl (by decide) ?_
        refine X.callv 61 [zi 0, zi 23] [] [(0, zr 4 44), (1, zi 0), (2, zi 23)] i269_58 rfl (by decide) rfl rfl (by omega) rfl rfl (by decide) rfl t270 (Nat.le_of_ble_eq_true rfl) (Nat.le_of_ble_eq_true rfl) rfl ?_
        refine c270_1 (S := zfr [] S) (m0 := m671) (B := B)  0 23 (by omega) (hJ674.ow.up (by omega)) (by omega) (by omega) (by omega) (fun v678 m676 hv678 hJ677 hqv6780 hqv6781 => ?_)
        have hJ679 := hJ674.trans hJ677 zi_n
        have mom676 := hJ677.mo rfl rfl
        show X (EE s) d 269 61 [(0, zr 4 44), (1, zi y1)] [zi v678] m676 _
        refine X.istore_n 62 [(0, zr 4 44), (1, zi y1), (2, zi v678)] i269_61 rfl rfl rfl ?_
        refine X.aload_n 63 i269_62 rfl rfl rfl ?_
        refine X.getZ 66 9 i269_63 rfl rfl (by decide) rfl rfl rfl (fun h680 => ?_)
        refine X.ifne 95 69 i269_66 rfl rfl rfl (fun h681 => ?_) (fun h681 => ?_)
        · refine X.aload_n 96 i269_95 rfl rfl rfl ?_
          refine X.bipush 98 i269_96 rfl rfl (by decide) ?_
          refine X.callv 101 [zi 58] [] [(0, zr 4 44), (1, zi 58)] i269_98 rfl (by decide) rfl rfl (by omega) rfl rfl (by decide) rfl t272 (Nat.le_of_ble_eq_true rfl) (Nat.le_of_ble_eq_true rfl) rfl ?_
          refine c272_2 (S := zfr [] S) (m0 := m676) (B := B)  58 (by omega) (hJ679.ow.up (by omega)) (by omega) (by omega) (fun m682 hJ683 hqv6840 => ?_)
          have hJ685 := hJ679.trans hJ683 zi_n
          have mom682 := hJ683.mo rfl rfl
          show X (EE s) d 269 101 [(0, zr 4 44), (1, zi y1), (2, zi v678)] [] m682 _
          refine X.aload_n 102 i269_101 rfl rfl rfl ?_
          refine X.iconst 103 i269_102 rfl rfl (by decide) ?_
          refine X.bipush 105 i269_103 rfl rfl (by decide) ?_
          refine X.callv 108 [zi 0, zi 59] [] [(0, zr 4 44), (1, zi 0), (2, zi 59)] i269_105 rfl (by decide) rfl rfl (by omega) rfl rfl (by decide) rfl t270 (Nat.le_of_ble_eq_true rfl) (Nat.le_of_ble_eq_true rfl) rfl ?_
          refine c270_1 (S := zfr [] S) (m0 := m682) (B := B)  0 59 (by omega) (hJ685.ow.up (by omega)) (by omega) (by omega) (by omega) (fun v688 m686 hv688 hJ687 hqv6880 hqv6881 => ?_)
          have hJ689 := hJ685.trans hJ687 zi_n
          have mom686 := hJ687.mo rfl rfl
          show X (EE s) d 269 108 [(0, zr 4 44), (1, zi y1), (2, zi v678)] [zi v688] m686 _
          refine X.istore_n 109 [(0, zr 4 44), (1, zi y1), (2, zi v678), (3, zi v688)] i269_108 rfl rfl rfl ?_
          refine X.sipush 112 i269_109 rfl rfl (by decide) ?_
          refine X.iload_n 113 i269_112 rfl rfl rfl ?_
          refine X.imul 114 i269_113 rfl rfl (by omega) ?_
          refine X.bipush 116 i269_114 rfl rfl (by decide) ?_
          refine X.iload_n 117 i269_116 rfl rfl rfl ?_
          refine X.imul 118 i269_117 rfl rfl (by omega) ?_
          refine X.iadd 119 i269_118 rfl rfl (by omega) ?_
          refine X.istore 121 [(0, zr 4 44), (1, zi y1), (2, zi v678), (3, zi v688), (4, zi ((3600 * v678) + (60 * v688)))] i269_119 rfl rfl rfl ?_
          refine X.aload_n 122 i269_121 rfl rfl rfl ?_
          refine X.getZ 125 9 i269_122 rfl rfl (by decide) rfl rfl rfl (fun h690 => ?_)
          refine X.ifne 147 128 i269_125 rfl rfl rfl (fun h691 => ?_) (fun h691 => ?_)
          · refine X.cut [(0, zr 4 44), (1, zi y1), (4, zi ((3600 * v678) + (60 * v688)))] i269_147 rfl ?_
            refine X.aload_n 148 i269_147 rfl rfl rfl ?_
            refine X.iconst 149 i269_148 rfl rfl (by decide) ?_
            refine X.iconst 150 i269_149 rfl rfl (by decide) ?_
            refine X.callv 153 [zi 0, zi 3] [] [(0, zr 4 44), (1, zi 0), (2, zi 3)] i269_150 rfl (by decide) rfl rfl (by omega) rfl rfl (by decide) rfl t270 (Nat.le_of_ble_eq_true rfl) (Nat.le_of_ble_eq_true rfl) rfl ?_
            refine c270_1 (S := zfr [] S) (m0 := m686) (B := B)  0 3 (by omega) (hJ689.ow.up (by omega)) (by omega) (by omega) (by omega) (fun v694 m692 hv694 hJ693 hqv6940 hqv6941 => ?_)
            have hJ695 := hJ689.trans hJ693 zi_n
            have mom692 := hJ693.mo rfl rfl
            show X (EE s) d 269 153 [(0, zr 4 44), (1, zi y1), (4, zi ((3600 * v678) + (60 * v688)))] [zi v694] m692 _
            refine X.istore 155 [(0, zr 4 44), (1, zi y1), (4, zi ((3600 * v678) + (60 * v688))), (5, zi v694)] i269_153 rfl rfl rfl ?_
            refine X.aload_n 156 i269_155 rfl rfl rfl ?_
            refine X.getZ 159 9 i269_156 rfl rfl (by decide) rfl rfl rfl (fun h696 => ?_)
            refine X.ifne 172 162 i269_159 rfl rfl rfl (fun h697 => ?_) (fun h697 => ?_)
            · refine X.cut [(0, zr 4 44), (1, zi y1)] i269_172 rfl ?_
              refine X.goto 40 i269_172 rfl rfl ?_
              exact ih  m692 (B) (hJ695.up (by omega)) (by omega)   (by omega)
            · refine X.aload_n 163 i269_162 rfl rfl rfl ?_
              refine X.iload_n 164 i269_163 rfl rfl rfl ?_
              refine X.iload 166 i269_164 rfl rfl rfl ?_
              refine X.iload 168 i269_166 rfl rfl rfl ?_
              refine X.callv 171 [zi y1, zi ((3600 * v678) + (60 * v688)), zi v694] [] [(0, zr 4 44), (1, zi y1), (2, zi ((3600 * v678) + (60 * v688))), (3, zi v694)] i269_168 rfl (by decide) rfl rfl (by omega) rfl rfl (by decide) rfl t243 (Nat.le_of_ble_eq_true rfl) (Nat.le_of_ble_eq_true rfl) rfl ?_
              refine c243_1 (S := zfr [] S) (m0 := m692) (B := B)  y1 ((3600 * v678) + (60 * v688)) v694 (by omega) (hJ695.ow.up (by omega)) (by omega) (by omega) (by omega) (by omega) (fun v700 m698 hv700 hJ699 => ?_)
              have hJ701 := hJ695.trans hJ699 zi_n
              have mom698 := hJ699.mo rfl rfl
              show X (EE s) d 269 171 [(0, zr 4 44), (1, zi y1), (4, zi ((3600 * v678) + (60 * v688))), (5, zi v694)] [zi v700] m698 _
              refine X.pop 172 i269_171 rfl rfl rfl ?_
              refine X.cut [(0, zr 4 44), (1, zi y1)] i269_172 rfl ?_
              refine X.goto 40 i269_172 rfl rfl ?_
              exact ih  m698 (B) (hJ701.up (by omega)) (by omega)   (by omega)
          · refine X.aload_n 129 i269_128 rfl rfl rfl ?_
            refine X.iload_n 130 i269_129 rfl rfl rfl ?_
            refine X.iload 132 i269_130 rfl rfl rfl ?_
            refine X.callv 135 [zi y1, zi ((3600 * v678) + (60 * v688))] [] [(0, zr 4 44), (1, zi y1), (2, zi ((3600 * v678) + (60 * v688)))] i269_132 rfl (by decide) rfl rfl (by omega) rfl rfl (by decide) rfl t273 (Nat.le_of_ble_eq_true rfl) (Nat.le_of_ble_eq_true rfl) rfl ?_
            refine c273_1 (B := B)  y1 ((3600 * v678) + (60 * v688)) (by omega) (hJ689.up (by omega)) (by omega) (by omega) (by omega) (fun v704 hv704 => ?_)
            show X (EE s) d 269 135 [(0, zr 4 44), (1, zi y1), (2, zi v678), (3, zi v688), (4, zi ((3600 * v678) + (60 * v688)))] [zi v704] m686 _
            refine X.ifeq 147 138 i269_135 rfl rfl rfl (fun h705 => ?_) (fun h705 => ?_)
            · refine X.cut [(0, zr 4 44), (1, zi y1), (4, zi ((3600 * v678) + (60 * v688)))] i269_147 rfl ?_
              refine X.aload_n 148 i269_147 rfl rfl rfl ?_
              refine X.iconst 149 i269_148 rfl rfl (by decide) ?_
              refine X.iconst 150 i269_149 rfl rfl (by decide) ?_
              refine X.callv 153 [zi 0, zi 3] [] [(0, zr 4 44), (1, zi 0), (2, zi 3)] i269_150 rfl (by decide) rfl rfl (by omega) rfl rfl (by decide) rfl t270 (Nat.le_of_ble_eq_true rfl) (Nat.le_of_ble_eq_true rfl) rfl ?_
              refine c270_1 (S := zfr [] S) (m0 := m686) (B := B)  0 3 (by omega) (hJ689.ow.up (by omega)) (by omega) (by omega) (by omega) (fun v708 m706 hv708 hJ707 hqv7080 hqv7081 => ?_)
              have hJ709 := hJ689.trans hJ707 zi_n
              have mom706 := hJ707.mo rfl rfl
              show X (EE s) d 269 153 [(0, zr 4 44), (1, zi y1), (4, zi ((3600 * v678) + (60 * v688)))] [zi v708] m706 _
              refine X.istore 155 [(0, zr 4 44), (1, zi y1), (4, zi ((3600 * v678) + (60 * v688))), (5, zi v708)] i269_153 rfl rfl rfl ?_
              refine X.aload_n 156 i269_155 rfl rfl rfl ?_
              refine X.getZ 159 9 i269_156 rfl rfl (by decide) rfl rfl rfl (fun h710 => ?_)
              refine X.ifne 172 162 i269_159 rfl rfl rfl (fun h711 => ?_) (fun h711 => ?_)
              · refine X.cut [(0, zr 4 44), (1, zi y1)] i269_172 rfl ?_
                refine X.goto 40 i269_172 rfl rfl ?_
                exact ih  m706 (B) (hJ709.up (by omega)) (by omega)   (by omega)
              · refine X.aload_n 163 i269_162 rfl rfl rfl ?_
                refine X.iload_n 164 i269_163 rfl rfl rfl ?_
                refine X.iload 166 i269_164 rfl rfl rfl ?_
                refine X.iload 168 i269_166 rfl rfl rfl ?_
                refine X.callv 171 [zi y1, zi ((3600 * v678) + (60 * v688)), zi v708] [] [(0, zr 4 44), (1, zi y1), (2, zi ((3600 * v678) + (60 * v688))), (3, zi v708)] i269_168 rfl (by decide) rfl rfl (by omega) rfl rfl (by decide) rfl t243 (Nat.le_of_ble_eq_true rfl) (Nat.le_of_ble_eq_true rfl) rfl ?_
                refine c243_1 (S := zfr [] S) (m0 := m706) (B := B)  y1 ((3600 * v678) + (60 * v688)) v708 (by omega) (hJ709.ow.up (by omega)) (by omega) (by omega) (by omega) (by omega) (fun v714 m712 hv714 hJ713 => ?_)
                have hJ715 := hJ709.trans hJ713 zi_n
                have mom712 := hJ713.mo rfl rfl
                show X (EE s) d 269 171 [(0, zr 4 44), (1, zi y1), (4, zi ((3600 * v678) + (60 * v688))), (5, zi v708)] [zi v714] m712 _
                refine X.pop 172 i269_171 rfl rfl rfl ?_
                refine X.cut [(0, zr 4 44), (1, zi y1)] i269_172 rfl ?_
                refine X.goto 40 i269_172 rfl rfl ?_
                exact ih  m712 (B) (hJ715.up (by omega)) (by omega)   (by omega)
            · refine X.aload_n 139 i269_138 rfl rfl rfl ?_
              refine X.iconst 140 i269_139 rfl rfl (by decide) ?_
              refine X.aload_n 141 i269_140 rfl rfl rfl ?_
              refine X.getIr 144 10 i269_141 rfl rfl (by decide) rfl rfl rfl (fun h716 => ?_)
              refine X.callv 147 [zi 3, zi (m686 4 44 10)] [] [(0, zr 4 44), (1, zi 3), (2, zi (m686 4 44 10))] i269_144 rfl (by decide) rfl rfl (by omega) rfl rfl (by decide) rfl t268 (Nat.le_of_ble_eq_true rfl) (Nat.le_of_ble_eq_true rfl) rfl ?_
              refine c268_3 (S := zfr [] S) (m0 := m686) (B := B)  3 (m686 4 44 10) (by omega) (hJ689.ow.up (by omega)) (by omega) (by omega) (by omega) (fun m717 hJ718 hqv7190 => ?_)
              have hJ720 := hJ689.trans hJ718 zi_n
              have mom717 := hJ718.mo rfl rfl
              show X (EE s) d 269 147 [(0, zr 4 44), (1, zi y1), (2, zi v678), (3, zi v688), (4, zi ((3600 * v678) + (60 * v688)))] [] m717 _
              refine X.cut [(0, zr 4 44), (1, zi y1), (4, zi ((3600 * v678) + (60 * v688)))] i269_147 rfl ?_
              refine X.aload_n 148 i269_147 rfl rfl rfl ?_
              refine X.iconst 149 i269_148 rfl rfl (by decide) ?_
              refine X.iconst 150 i269_149 rfl rfl (by decide) ?_
              refine X.callv 153 [zi 0, zi 3] [] [(0, zr 4 44), (1, zi 0), (2, zi 3)] i269_150 rfl (by decide) rfl rfl (by omega) rfl rfl (by decide) rfl t270 (Nat.le_of_ble_eq_true rfl) (Nat.le_of_ble_eq_true rfl) rfl ?_
              refine c270_1 (S := zfr [] S) (m0 := m717) (B := B)  0 3 (by omega) (hJ720.ow.up (by omega)) (by omega) (by omega) (by omega) (fun v723 m721 hv723 hJ722 hqv7230 hqv7231 => ?_)
              have hJ724 := hJ720.trans hJ722 zi_n
              have mom721 := hJ722.mo rfl rfl
              show X (EE s) d 269 153 [(0, zr 4 44), (1, zi y1), (4, zi ((3600 * v678) + (60 * v688)))] [zi v723] m721 _
              refine X.istore 155 [(0, zr 4 44), (1, zi y1), (4, zi ((3600 * v678) + (60 * v688))), (5, zi v723)] i269_153 rfl rfl rfl ?_
              refine X.aload_n 156 i269_155 rfl rfl rfl ?_
              refine X.getZ 159 9 i269_156 rfl rfl (by decide) rfl rfl rfl (fun h725 => ?_)
              refine X.ifne 172 162 i269_159 rfl rfl rfl (fun h726 => ?_) (fun h726 => ?_)
              · refine X.cut [(0, zr 4 44), (1, zi y1)] i269_172 rfl ?_
                refine X.goto 40 i269_172 rfl rfl ?_
                exact ih  m721 (B) (hJ724.up (by omega)) (by omega)   (by omega)
              · refine X.aload_n 163 i269_162 rfl rfl rfl ?_
                refine X.iload_n 164 i269_163 rfl rfl rfl ?_
                refine X.iload 166 i269_164 rfl rfl rfl ?_
                refine X.iload 168 i269_166 rfl rfl rfl ?_
                refine X.callv 171 [zi y1, zi ((3600 * v678) + (60 * v688)), zi v723] [] [(0, zr 4 44), (1, zi y1), (2, zi ((3600 * v678) + (60 * v688))), (3, zi v723)] i269_168 rfl (by decide) rfl rfl (by omega) rfl rfl (by decide) rfl t243 (Nat.le_of_ble_eq_true rfl) (Nat.le_of_ble_eq_true rfl) rfl ?_
                refine c243_1 (S := zfr [] S) (m0 := m721) (B := B)  y1 ((3600 * v678) + (60 * v688)) v723 (by omega) (hJ724.ow.up (by omega)) (by omega) (by omega) (by omega) (by omega) (fun v729 m727 hv729 hJ728 => ?_)
                have hJ730 := hJ724.trans hJ728 zi_n
                have mom727 := hJ728.mo rfl rfl
                show X (EE s) d 269 171 [(0, zr 4 44), (1, zi y1), (4, zi ((3600 * v678) + (60 * v688))), (5, zi v723)] [zi v729] m727 _
                refine X.pop 172 i269_171 rfl rfl rfl ?_
                refine X.cut [(0, zr 4 44), (1, zi y1)] i269_172 rfl ?_
                refine X.goto 40 i269_172 rfl rfl ?_
                exact ih  m727 (B) (hJ730.up (by omega)) (by omega)   (by omega)
        · refine X.aload_n 70 i269_69 rfl rfl rfl ?_
          refine X.getF 73 i269_70 rfl rfl (by decide) rfl rfl ?_
          refine X.sipush 76 i269_73 rfl rfl (by decide) ?_
          refine X.iload_n 77 i269_76 rfl rfl rfl ?_
          refine X.iadd 78 i269_77 rfl rfl (by omega) ?_
          refine X.lald 79 i269_78 rfl rfl (by decide) rfl (by omega) ?_
          have h731 := r45_287 hJ679 4 (i := (287 + y1)) (by omega)
          refine X.ldc2 82 i269_79 rfl rfl (by decide) ?_
          refine X.lcmp 83 i269_82 rfl rfl (fun z732 hz732 => ?_)
          refine X.ifne 95 86 i269_83 rfl rfl rfl (fun h733 => ?_) (fun h733 => ?_)
          · have h733c : (m676 4 45 (287 + y1)) ≠ 6 := by omega
            clear h733 hz732
            refine X.aload_n 96 i269_95 rfl rfl rfl ?_
            refine X.bipush 98 i269_96 rfl rfl (by decide) ?_
            refine X.callv 101 [zi 58] [] [(0, zr 4 44), (1, zi 58)] i269_98 rfl (by decide) rfl rfl (by omega) rfl rfl (by decide) rfl t272 (Nat.le_of_ble_eq_true rfl) (Nat.le_of_ble_eq_true rfl) rfl ?_
            refine c272_2 (S := zfr [] S) (m0 := m676) (B := B)  58 (by omega) (hJ679.ow.up (by omega)) (by omega) (by omega) (fun m734 hJ735 hqv7360 => ?_)
            have hJ737 := hJ679.trans hJ735 zi_n
            have mom734 := hJ735.mo rfl rfl
            show X (EE s) d 269 101 [(0, zr 4 44), (1, zi y1), (2, zi v678)] [] m734 _
            refine X.aload_n 102 i269_101 rfl rfl rfl ?_
            refine X.iconst 103 i269_102 rfl rfl (by decide) ?_
            refine X.bipush 105 i269_103 rfl rfl (by decide) ?_
            refine X.callv 108 [zi 0, zi 59] [] [(0, zr 4 44), (1, zi 0), (2, zi 59)] i269_105 rfl (by decide) rfl rfl (by omega) rfl rfl (by decide) rfl t270 (Nat.le_of_ble_eq_true rfl) (Nat.le_of_ble_eq_true rfl) rfl ?_
            refine c270_1 (S := zfr [] S) (m0 := m734) (B := B)  0 59 (by omega) (hJ737.ow.up (by omega)) (by omega) (by omega) (by omega) (fun v740 m738 hv740 hJ739 hqv7400 hqv7401 => ?_)
            have hJ741 := hJ737.trans hJ739 zi_n
            have mom738 := hJ739.mo rfl rfl
            show X (EE s) d 269 108 [(0, zr 4 44), (1, zi y1), (2, zi v678)] [zi v740] m738 _
            refine X.istore_n 109 [(0, zr 4 44), (1, zi y1), (2, zi v678), (3, zi v740)] i269_108 rfl rfl rfl ?_
            refine X.sipush 112 i269_109 rfl rfl (by decide) ?_
            refine X.iload_n 113 i269_112 rfl rfl rfl ?_
            refine X.imul 114 i269_113 rfl rfl (by omega) ?_
            refine X.bipush 116 i269_114 rfl rfl (by decide) ?_
            refine X.iload_n 117 i269_116 rfl rfl rfl ?_
            refine X.imul 118 i269_117 rfl rfl (by omega) ?_
            refine X.iadd 119 i269_118 rfl rfl (by omega) ?_
            refine X.istore 121 [(0, zr 4 44), (1, zi y1), (2, zi v678), (3, zi v740), (4, zi ((3600 * v678) + (60 * v740)))] i269_119 rfl rfl rfl ?_
            refine X.aload_n 122 i269_121 rfl rfl rfl ?_
            refine X.getZ 125 9 i269_122 rfl rfl (by decide) rfl rfl rfl (fun h742 => ?_)
            refine X.ifne 147 128 i269_125 rfl rfl rfl (fun h743 => ?_) (fun h743 => ?_)
            · refine X.cut [(0, zr 4 44), (1, zi y1), (4, zi ((3600 * v678) + (60 * v740)))] i269_147 rfl ?_
              refine X.aload_n 148 i269_147 rfl rfl rfl ?_
              refine X.iconst 149 i269_148 rfl rfl (by decide) ?_
              refine X.iconst 150 i269_149 rfl rfl (by decide) ?_
              refine X.callv 153 [zi 0, zi 3] [] [(0, zr 4 44), (1, zi 0), (2, zi 3)] i269_150 rfl (by decide) rfl rfl (by omega) rfl rfl (by decide) rfl t270 (Nat.le_of_ble_eq_true rfl) (Nat.le_of_ble_eq_true rfl) rfl ?_
              refine c270_1 (S := zfr [] S) (m0 := m738) (B := B)  0 3 (by omega) (hJ741.ow.up (by omega)) (by omega) (by omega) (by omega) (fun v746 m744 hv746 hJ745 hqv7460 hqv7461 => ?_)
              have hJ747 := hJ741.trans hJ745 zi_n
              have mom744 := hJ745.mo rfl rfl
              show X (EE s) d 269 153 [(0, zr 4 44), (1, zi y1), (4, zi ((3600 * v678) + (60 * v740)))] [zi v746] m744 _
              refine X.istore 155 [(0, zr 4 44), (1, zi y1), (4, zi ((3600 * v678) + (60 * v740))), (5, zi v746)] i269_153 rfl rfl rfl ?_
              refine X.aload_n 156 i269_155 rfl rfl rfl ?_
              refine X.getZ 159 9 i269_156 rfl rfl (by decide) rfl rfl rfl (fun h748 => ?_)
              refine X.ifne 172 162 i269_159 rfl rfl rfl (fun h749 => ?_) (fun h749 => ?_)
              · refine X.cut [(0, zr 4 44), (1, zi y1)] i269_172 rfl ?_
                refine X.goto 40 i269_172 rfl rfl ?_
                exact ih  m744 (B) (hJ747.up (by omega)) (by omega)   (by omega)
              · refine X.aload_n 163 i269_162 rfl rfl rfl ?_
                refine X.iload_n 164 i269_163 rfl rfl rfl ?_
                refine X.iload 166 i269_164 rfl rfl rfl ?_
                refine X.iload 168 i269_166 rfl rfl rfl ?_
                refine X.callv 171 [zi y1, zi ((3600 * v678) + (60 * v740)), zi v746] [] [(0, zr 4 44), (1, zi y1), (2, zi ((3600 * v678) + (60 * v740))), (3, zi v746)] i269_168 rfl (by decide) rfl rfl (by omega) rfl rfl (by decide) rfl t243 (Nat.le_of_ble_eq_true rfl) (Nat.le_of_ble_eq_true rfl) rfl ?_
                refine c243_1 (S := zfr [] S) (m0 := m744) (B := B)  y1 ((3600 * v678) + (60 * v740)) v746 (by omega) (hJ747.ow.up (by omega)) (by omega) (by omega) (by omega) (by omega) (fun v752 m750 hv752 hJ751 => ?_)
                have hJ753 := hJ747.trans hJ751 zi_n
                have mom750 := hJ751.mo rfl rfl
                show X (EE s) d 269 171 [(0, zr 4 44), (1, zi y1), (4, zi ((3600 * v678) + (60 * v740))), (5, zi v746)] [zi v752] m750 _
                refine X.pop 172 i269_171 rfl rfl rfl ?_
                refine X.cut [(0, zr 4 44), (1, zi y1)] i269_172 rfl ?_
                refine X.goto 40 i269_172 rfl rfl ?_
                exact ih  m750 (B) (hJ753.up (by omega)) (by omega)   (by omega)
            · refine X.aload_n 129 i269_128 rfl rfl rfl ?_
              refine X.iload_n 130 i269_129 rfl rfl rfl ?_
              refine X.iload 132 i269_130 rfl rfl rfl ?_
              refine X.callv 135 [zi y1, zi ((3600 * v678) + (60 * v740))] [] [(0, zr 4 44), (1, zi y1), (2, zi ((3600 * v678) + (60 * v740)))] i269_132 rfl (by decide) rfl rfl (by omega) rfl rfl (by decide) rfl t273 (Nat.le_of_ble_eq_true rfl) (Nat.le_of_ble_eq_true rfl) rfl ?_
              refine c273_1 (B := B)  y1 ((3600 * v678) + (60 * v740)) (by omega) (hJ741.up (by omega)) (by omega) (by omega) (by omega) (fun v756 hv756 => ?_)
              show X (EE s) d 269 135 [(0, zr 4 44), (1, zi y1), (2, zi v678), (3, zi v740), (4, zi ((3600 * v678) + (60 * v740)))] [zi v756] m738 _
              refine X.ifeq 147 138 i269_135 rfl rfl rfl (fun h757 => ?_) (fun h757 => ?_)
              · refine X.cut [(0, zr 4 44), (1, zi y1), (4, zi ((3600 * v678) + (60 * v740)))] i269_147 rfl ?_
                refine X.aload_n 148 i269_147 rfl rfl rfl ?_
                refine X.iconst 149 i269_148 rfl rfl (by decide) ?_
                refine X.iconst 150 i269_149 rfl rfl (by decide) ?_
                refine X.callv 153 [zi 0, zi 3] [] [(0, zr 4 44), (1, zi 0), (2, zi 3)] i269_150 rfl (by decide) rfl rfl (by omega) rfl rfl (by decide) rfl t270 (Nat.le_of_ble_eq_true rfl) (Nat.le_of_ble_eq_true rfl) rfl ?_
                refine c270_1 (S := zfr [] S) (m0 := m738) (B := B)  0 3 (by omega) (hJ741.ow.up (by omega)) (by omega) (by omega) (by omega) (fun v760 m758 hv760 hJ759 hqv7600 hqv7601 => ?_)
                have hJ761 := hJ741.trans hJ759 zi_n
                have mom758 := hJ759.mo rfl rfl
                show X (EE s) d 269 153 [(0, zr 4 44), (1, zi y1), (4, zi ((3600 * v678) + (60 * v740)))] [zi v760] m758 _
                refine X.istore 155 [(0, zr 4 44), (1, zi y1), (4, zi ((3600 * v678) + (60 * v740))), (5, zi v760)] i269_153 rfl rfl rfl ?_
                refine X.aload_n 156 i269_155 rfl rfl rfl ?_
                refine X.getZ 159 9 i269_156 rfl rfl (by decide) rfl rfl rfl (fun h762 => ?_)
                refine X.ifne 172 162 i269_159 rfl rfl rfl (fun h763 => ?_) (fun h763 => ?_)
                · refine X.cut [(0, zr 4 44), (1, zi y1)] i269_172 rfl ?_
                  refine X.goto 40 i269_172 rfl rfl ?_
                  exact ih  m758 (B) (hJ761.up (by omega)) (by omega)   (by omega)
                · refine X.aload_n 163 i269_162 rfl rfl rfl ?_
                  refine X.iload_n 164 i269_163 rfl rfl rfl ?_
                  refine X.iload 166 i269_164 rfl rfl rfl ?_
                  refine X.iload 168 i269_166 rfl rfl rfl ?_
                  refine X.callv 171 [zi y1, zi ((3600 * v678) + (60 * v740)), zi v760] [] [(0, zr 4 44), (1, zi y1), (2, zi ((3600 * v678) + (60 * v740))), (3, zi v760)] i269_168 rfl (by decide) rfl rfl (by omega) rfl rfl (by decide) rfl t243 (Nat.le_of_ble_eq_true rfl) (Nat.le_of_ble_eq_true rfl) rfl ?_
                  refine c243_1 (S := zfr [] S) (m0 := m758) (B := B)  y1 ((3600 * v678) + (60 * v740)) v760 (by omega) (hJ761.ow.up (by omega)) (by omega) (by omega) (by omega) (by omega) (fun v766 m764 hv766 hJ765 => ?_)
                  have hJ767 := hJ761.trans hJ765 zi_n
                  have mom764 := hJ765.mo rfl rfl
                  show X (EE s) d 269 171 [(0, zr 4 44), (1, zi y1), (4, zi ((3600 * v678) + (60 * v740))), (5, zi v760)] [zi v766] m764 _
                  refine X.pop 172 i269_171 rfl rfl rfl ?_
                  refine X.cut [(0, zr 4 44), (1, zi y1)] i269_172 rfl ?_
                  refine X.goto 40 i269_172 rfl rfl ?_
                  exact ih  m764 (B) (hJ767.up (by omega)) (by omega)   (by omega)
              · refine X.aload_n 139 i269_138 rfl rfl rfl ?_
                refine X.iconst 140 i269_139 rfl rfl (by decide) ?_
                refine X.aload_n 141 i269_140 rfl rfl rfl ?_
                refine X.getIr 144 10 i269_141 rfl rfl (by decide) rfl rfl rfl (fun h768 => ?_)
                refine X.callv 147 [zi 3, zi (m738 4 44 10)] [] [(0, zr 4 44), (1, zi 3), (2, zi (m738 4 44 10))] i269_144 rfl (by decide) rfl rfl (by omega) rfl rfl (by decide) rfl t268 (Nat.le_of_ble_eq_true rfl) (Nat.le_of_ble_eq_true rfl) rfl ?_
                refine c268_3 (S := zfr [] S) (m0 := m738) (B := B)  3 (m738 4 44 10) (by omega) (hJ741.ow.up (by omega)) (by omega) (by omega) (by omega) (fun m769 hJ770 hqv7710 => ?_)
                have hJ772 := hJ741.trans hJ770 zi_n
                have mom769 := hJ770.mo rfl rfl
                show X (EE s) d 269 147 [(0, zr 4 44), (1, zi y1), (2, zi v678), (3, zi v740), (4, zi ((3600 * v678) + (60 * v740)))] [] m769 _
                refine X.cut [(0, zr 4 44), (1, zi y1), (4, zi ((3600 * v678) + (60 * v740)))] i269_147 rfl ?_
                refine X.aload_n 148 i269_147 rfl rfl rfl ?_
                refine X.iconst 149 i269_148 rfl rfl (by decide) ?_
                refine X.iconst 150 i269_149 rfl rfl (by decide) ?_
                refine X.callv 153 [zi 0, zi 3] [] [(0, zr 4 44), (1, zi 0), (2, zi 3)] i269_150 rfl (by decide) rfl rfl (by omega) rfl rfl (by decide) rfl t270 (Nat.le_of_ble_eq_true rfl) (Nat.le_of_ble_eq_true rfl) rfl ?_
                refine c270_1 (S := zfr [] S) (m0 := m769) (B := B)  0 3 (by omega) (hJ772.ow.up (by omega)) (by omega) (by omega) (by omega) (fun v775 m773 hv775 hJ774 hqv7750 hqv7751 => ?_)
                have hJ776 := hJ772.trans hJ774 zi_n
                have mom773 := hJ774.mo rfl rfl
                show X (EE s) d 269 153 [(0, zr 4 44), (1, zi y1), (4, zi ((3600 * v678) + (60 * v740)))] [zi v775] m773 _
                refine X.istore 155 [(0, zr 4 44), (1, zi y1), (4, zi ((3600 * v678) + (60 * v740))), (5, zi v775)] i269_153 rfl rfl rfl ?_
                refine X.aload_n 156 i269_155 rfl rfl rfl ?_
                refine X.getZ 159 9 i269_156 rfl rfl (by decide) rfl rfl rfl (fun h777 => ?_)
                refine X.ifne 172 162 i269_159 rfl rfl rfl (fun h778 => ?_) (fun h778 => ?_)
                · refine X.cut [(0, zr 4 44), (1, zi y1)] i269_172 rfl ?_
                  refine X.goto 40 i269_172 rfl rfl ?_
                  exact ih  m773 (B) (hJ776.up (by omega)) (by omega)   (by omega)
                · refine X.aload_n 163 i269_162 rfl rfl rfl ?_
                  refine X.iload_n 164 i269_163 rfl rfl rfl ?_
                  refine X.iload 166 i269_164 rfl rfl rfl ?_
                  refine X.iload 168 i269_166 rfl rfl rfl ?_
                  refine X.callv 171 [zi y1, zi ((3600 * v678) + (60 * v740)), zi v775] [] [(0, zr 4 44), (1, zi y1), (2, zi ((3600 * v678) + (60 * v740))), (3, zi v775)] i269_168 rfl (by decide) rfl rfl (by omega) rfl rfl (by decide) rfl t243 (Nat.le_of_ble_eq_true rfl) (Nat.le_of_ble_eq_true rfl) rfl ?_
                  refine c243_1 (S := zfr [] S) (m0 := m773) (B := B)  y1 ((3600 * v678) + (60 * v740)) v775 (by omega) (hJ776.ow.up (by omega)) (by omega) (by omega) (by omega) (by omega) (fun v781 m779 hv781 hJ780 => ?_)
                  have hJ782 := hJ776.trans hJ780 zi_n
                  have mom779 := hJ780.mo rfl rfl
                  show X (EE s) d 269 171 [(0, zr 4 44), (1, zi y1), (4, zi ((3600 * v678) + (60 * v740))), (5, zi v775)] [zi v781] m779 _
                  refine X.pop 172 i269_171 rfl rfl rfl ?_
                  refine X.cut [(0, zr 4 44), (1, zi y1)] i269_172 rfl ?_
                  refine X.goto 40 i269_172 rfl rfl ?_
                  exact ih  m779 (B) (hJ782.up (by omega)) (by omega)   (by omega)
          · have h733c : (m676 4 45 (287 + y1)) = 6 := by omega
            clear h733 hz732
            refine X.aload_n 87 i269_86 rfl rfl rfl ?_
            refine X.iconst 88 i269_87 rfl rfl (by decide) ?_
            refine X.aload_n 89 i269_88 rfl rfl rfl ?_
            refine X.getIr 92 10 i269_89 rfl rfl (by decide) rfl rfl rfl (fun h783 => ?_)
            refine X.callv 95 [zi 4, zi (m676 4 44 10)] [] [(0, zr 4 44), (1, zi 4), (2, zi (m676 4 44 10))] i269_92 rfl (by decide) rfl rfl (by omega) rfl rfl (by decide) rfl t268 (Nat.le_of_ble_eq_true rfl) (Nat.le_of_ble_eq_true rfl) rfl ?_
            refine c268_4 (S := zfr [] S) (m0 := m676) (B := B)  4 (m676 4 44 10) (by omega) (hJ679.ow.up (by omega)) (by omega) (by omega) (by omega) (fun m784 hJ785 hqv7860 => ?_)
            have hJ787 := hJ679.trans hJ785 zi_n
            have mom784 := hJ785.mo rfl rfl
            show X (EE s) d 269 95 [(0, zr 4 44), (1, zi y1), (2, zi v678)] [] m784 _
            refine X.aload_n 96 i269_95 rfl rfl rfl ?_
            refine X.bipush 98 i269_96 rfl rfl (by decide) ?_
            refine X.callv 101 [zi 58] [] [(0, zr 4 44), (1, zi 58)] i269_98 rfl (by decide) rfl rfl (by omega) rfl rfl (by decide) rfl t272 (Nat.le_of_ble_eq_true rfl) (Nat.le_of_ble_eq_true rfl) rfl ?_
            refine c272_2 (S := zfr [] S) (m0 := m784) (B := B)  58 (by omega) (hJ787.ow.up (by omega)) (by omega) (by omega) (fun m788 hJ789 hqv7900 => ?_)
            have hJ791 := hJ787.trans hJ789 zi_n
            have mom788 := hJ789.mo rfl rfl
            show X (EE s) d 269 101 [(0, zr 4 44), (1, zi y1), (2, zi v678)] [] m788 _
            refine X.aload_n 102 i269_101 rfl rfl rfl ?_
            refine X.iconst 103 i269_102 rfl rfl (by decide) ?_
            refine X.bipush 105 i269_103 rfl rfl (by decide) ?_
            refine X.callv 108 [zi 0, zi 59] [] [(0, zr 4 44), (1, zi 0), (2, zi 59)] i269_105 rfl (by decide) rfl rfl (by omega) rfl rfl (by decide) rfl t270 (Nat.le_of_ble_eq_true rfl) (Nat.le_of_ble_eq_true rfl) rfl ?_
            refine c270_1 (S := zfr [] S) (m0 := m788) (B := B)  0 59 (by omega) (hJ791.ow.up (by omega)) (by omega) (by omega) (by omega) (fun v794 m792 hv794 hJ793 hqv7940 hqv7941 => ?_)
            have hJ795 := hJ791.trans hJ793 zi_n
            have mom792 := hJ793.mo rfl rfl
            show X (EE s) d 269 108 [(0, zr 4 44), (1, zi y1), (2, zi v678)] [zi v794] m792 _
            refine X.istore_n 109 [(0, zr 4 44), (1, zi y1), (2, zi v678), (3, zi v794)] i269_108 rfl rfl rfl ?_
            refine X.sipush 112 i269_109 rfl rfl (by decide) ?_
            refine X.iload_n 113 i269_112 rfl rfl rfl ?_
            refine X.imul 114 i269_113 rfl rfl (by omega) ?_
            refine X.bipush 116 i269_114 rfl rfl (by decide) ?_
            refine X.iload_n 117 i269_116 rfl rfl rfl ?_
            refine X.imul 118 i269_117 rfl rfl (by omega) ?_
            refine X.iadd 119 i269_118 rfl rfl (by omega) ?_
            refine X.istore 121 [(0, zr 4 44), (1, zi y1), (2, zi v678), (3, zi v794), (4, zi ((3600 * v678) + (60 * v794)))] i269_119 rfl rfl rfl ?_
            refine X.aload_n 122 i269_121 rfl rfl rfl ?_
            refine X.getZ 125 9 i269_122 rfl rfl (by decide) rfl rfl rfl (fun h796 => ?_)
            refine X.ifne 147 128 i269_125 rfl rfl rfl (fun h797 => ?_) (fun h797 => ?_)
            · refine X.cut [(0, zr 4 44), (1, zi y1), (4, zi ((3600 * v678) + (60 * v794)))] i269_147 rfl ?_
              refine X.aload_n 148 i269_147 rfl rfl rfl ?_
              refine X.iconst 149 i269_148 rfl rfl (by decide) ?_
              refine X.iconst 150 i269_149 rfl rfl (by decide) ?_
              refine X.callv 153 [zi 0, zi 3] [] [(0, zr 4 44), (1, zi 0), (2, zi 3)] i269_150 rfl (by decide) rfl rfl (by omega) rfl rfl (by decide) rfl t270 (Nat.le_of_ble_eq_true rfl) (Nat.le_of_ble_eq_true rfl) rfl ?_
              refine c270_1 (S := zfr [] S) (m0 := m792) (B := B)  0 3 (by omega) (hJ795.ow.up (by omega)) (by omega) (by omega) (by omega) (fun v800 m798 hv800 hJ799 hqv8000 hqv8001 => ?_)
              have hJ801 := hJ795.trans hJ799 zi_n
              have mom798 := hJ799.mo rfl rfl
              show X (EE s) d 269 153 [(0, zr 4 44), (1, zi y1), (4, zi ((3600 * v678) + (60 * v794)))] [zi v800] m798 _
              refine X.istore 155 [(0, zr 4 44), (1, zi y1), (4, zi ((3600 * v678) + (60 * v794))), (5, zi v800)] i269_153 rfl rfl rfl ?_
              refine X.aload_n 156 i269_155 rfl rfl rfl ?_
              refine X.getZ 159 9 i269_156 rfl rfl (by decide) rfl rfl rfl (fun h802 => ?_)
              refine X.ifne 172 162 i269_159 rfl rfl rfl (fun h803 => ?_) (fun h803 => ?_)
              · refine X.cut [(0, zr 4 44), (1, zi y1)] i269_172 rfl ?_
                refine X.goto 40 i269_172 rfl rfl ?_
                exact ih  m798 (B) (hJ801.up (by omega)) (by omega)   (by omega)
              · refine X.aload_n 163 i269_162 rfl rfl rfl ?_
                refine X.iload_n 164 i269_163 rfl rfl rfl ?_
                refine X.iload 166 i269_164 rfl rfl rfl ?_
                refine X.iload 168 i269_166 rfl rfl rfl ?_
                refine X.callv 171 [zi y1, zi ((3600 * v678) + (60 * v794)), zi v800] [] [(0, zr 4 44), (1, zi y1), (2, zi ((3600 * v678) + (60 * v794))), (3, zi v800)] i269_168 rfl (by decide) rfl rfl (by omega) rfl rfl (by decide) rfl t243 (Nat.le_of_ble_eq_true rfl) (Nat.le_of_ble_eq_true rfl) rfl ?_
                refine c243_1 (S := zfr [] S) (m0 := m798) (B := B)  y1 ((3600 * v678) + (60 * v794)) v800 (by omega) (hJ801.ow.up (by omega)) (by omega) (by omega) (by omega) (by omega) (fun v806 m804 hv806 hJ805 => ?_)
                have hJ807 := hJ801.trans hJ805 zi_n
                have mom804 := hJ805.mo rfl rfl
                show X (EE s) d 269 171 [(0, zr 4 44), (1, zi y1), (4, zi ((3600 * v678) + (60 * v794))), (5, zi v800)] [zi v806] m804 _
                refine X.pop 172 i269_171 rfl rfl rfl ?_
                refine X.cut [(0, zr 4 44), (1, zi y1)] i269_172 rfl ?_
                refine X.goto 40 i269_172 rfl rfl ?_
                exact ih  m804 (B) (hJ807.up (by omega)) (by omega)   (by omega)
            · refine X.aload_n 129 i269_128 rfl rfl rfl ?_
              refine X.iload_n 130 i269_129 rfl rfl rfl ?_
              refine X.iload 132 i269_130 rfl rfl rfl ?_
              refine X.callv 135 [zi y1, zi ((3600 * v678) + (60 * v794))] [] [(0, zr 4 44), (1, zi y1), (2, zi ((3600 * v678) + (60 * v794)))] i269_132 rfl (by decide) rfl rfl (by omega) rfl rfl (by decide) rfl t273 (Nat.le_of_ble_eq_true rfl) (Nat.le_of_ble_eq_true rfl) rfl ?_
              refine c273_1 (B := B)  y1 ((3600 * v678) + (60 * v794)) (by omega) (hJ795.up (by omega)) (by omega) (by omega) (by omega) (fun v810 hv810 => ?_)
              show X (EE s) d 269 135 [(0, zr 4 44), (1, zi y1), (2, zi v678), (3, zi v794), (4, zi ((3600 * v678) + (60 * v794)))] [zi v810] m792 _
              refine X.ifeq 147 138 i269_135 rfl rfl rfl (fun h811 => ?_) (fun h811 => ?_)
              · refine X.cut [(0, zr 4 44), (1, zi y1), (4, zi ((3600 * v678) + (60 * v794)))] i269_147 rfl ?_
                refine X.aload_n 148 i269_147 rfl rfl rfl ?_
                refine X.iconst 149 i269_148 rfl rfl (by decide) ?_
                refine X.iconst 150 i269_149 rfl rfl (by decide) ?_
                refine X.callv 153 [zi 0, zi 3] [] [(0, zr 4 44), (1, zi 0), (2, zi 3)] i269_150 rfl (by decide) rfl rfl (by omega) rfl rfl (by decide) rfl t270 (Nat.le_of_ble_eq_true rfl) (Nat.le_of_ble_eq_true rfl) rfl ?_
                refine c270_1 (S := zfr [] S) (m0 := m792) (B := B)  0 3 (by omega) (hJ795.ow.up (by omega)) (by omega) (by omega) (by omega) (fun v814 m812 hv814 hJ813 hqv8140 hqv8141 => ?_)
                have hJ815 := hJ795.trans hJ813 zi_n
                have mom812 := hJ813.mo rfl rfl
                show X (EE s) d 269 153 [(0, zr 4 44), (1, zi y1), (4, zi ((3600 * v678) + (60 * v794)))] [zi v814] m812 _
                refine X.istore 155 [(0, zr 4 44), (1, zi y1), (4, zi ((3600 * v678) + (60 * v794))), (5, zi v814)] i269_153 rfl rfl rfl ?_
                refine X.aload_n 156 i269_155 rfl rfl rfl ?_
                refine X.getZ 159 9 i269_156 rfl rfl (by decide) rfl rfl rfl (fun h816 => ?_)
                refine X.ifne 172 162 i269_159 rfl rfl rfl (fun h817 => ?_) (fun h817 => ?_)
                · refine X.cut [(0, zr 4 44), (1, zi y1)] i269_172 rfl ?_
                  refine X.goto 40 i269_172 rfl rfl ?_
                  exact ih  m812 (B) (hJ815.up (by omega)) (by omega)   (by omega)
                · refine X.aload_n 163 i269_162 rfl rfl rfl ?_
                  refine X.iload_n 164 i269_163 rfl rfl rfl ?_
                  refine X.iload 166 i269_164 rfl rfl rfl ?_
                  refine X.iload 168 i269_166 rfl rfl rfl ?_
                  refine X.callv 171 [zi y1, zi ((3600 * v678) + (60 * v794)), zi v814] [] [(0, zr 4 44), (1, zi y1), (2, zi ((3600 * v678) + (60 * v794))), (3, zi v814)] i269_168 rfl (by decide) rfl rfl (by omega) rfl rfl (by decide) rfl t243 (Nat.le_of_ble_eq_true rfl) (Nat.le_of_ble_eq_true rfl) rfl ?_
                  refine c243_1 (S := zfr [] S) (m0 := m812) (B := B)  y1 ((3600 * v678) + (60 * v794)) v814 (by omega) (hJ815.ow.up (by omega)) (by omega) (by omega) (by omega) (by omega) (fun v820 m818 hv820 hJ819 => ?_)
                  have hJ821 := hJ815.trans hJ819 zi_n
                  have mom818 := hJ819.mo rfl rfl
                  show X (EE s) d 269 171 [(0, zr 4 44), (1, zi y1), (4, zi ((3600 * v678) + (60 * v794))), (5, zi v814)] [zi v820] m818 _
                  refine X.pop 172 i269_171 rfl rfl rfl ?_
                  refine X.cut [(0, zr 4 44), (1, zi y1)] i269_172 rfl ?_
                  refine X.goto 40 i269_172 rfl rfl ?_
                  exact ih  m818 (B) (hJ821.up (by omega)) (by omega)   (by omega)
              · refine X.aload_n 139 i269_138 rfl rfl rfl ?_
                refine X.iconst 140 i269_139 rfl rfl (by decide) ?_
                refine X.aload_n 141 i269_140 rfl rfl rfl ?_
                refine X.getIr 144 10 i269_141 rfl rfl (by decide) rfl rfl rfl (fun h822 => ?_)
                refine X.callv 147 [zi 3, zi (m792 4 44 10)] [] [(0, zr 4 44), (1, zi 3), (2, zi (m792 4 44 10))] i269_144 rfl (by decide) rfl rfl (by omega) rfl rfl (by decide) rfl t268 (Nat.le_of_ble_eq_true rfl) (Nat.le_of_ble_eq_true rfl) rfl ?_
                refine c268_3 (S := zfr [] S) (m0 := m792) (B := B)  3 (m792 4 44 10) (by omega) (hJ795.ow.up (by omega)) (by omega) (by omega) (by omega) (fun m823 hJ824 hqv8250 => ?_)
                have hJ826 := hJ795.trans hJ824 zi_n
                have mom823 := hJ824.mo rfl rfl
                show X (EE s) d 269 147 [(0, zr 4 44), (1, zi y1), (2, zi v678), (3, zi v794), (4, zi ((3600 * v678) + (60 * v794)))] [] m823 _
                refine X.cut [(0, zr 4 44), (1, zi y1), (4, zi ((3600 * v678) + (60 * v794)))] i269_147 rfl ?_
                refine X.aload_n 148 i269_147 rfl rfl rfl ?_
                refine X.iconst 149 i269_148 rfl rfl (by decide) ?_
                refine X.iconst 150 i269_149 rfl rfl (by decide) ?_
                refine X.callv 153 [zi 0, zi 3] [] [(0, zr 4 44), (1, zi 0), (2, zi 3)] i269_150 rfl (by decide) rfl rfl (by omega) rfl rfl (by decide) rfl t270 (Nat.le_of_ble_eq_true rfl) (Nat.le_of_ble_eq_true rfl) rfl ?_
                refine c270_1 (S := zfr [] S) (m0 := m823) (B := B)  0 3 (by omega) (hJ826.ow.up (by omega)) (by omega) (by omega) (by omega) (fun v829 m827 hv829 hJ828 hqv8290 hqv8291 => ?_)
                have hJ830 := hJ826.trans hJ828 zi_n
                have mom827 := hJ828.mo rfl rfl
                show X (EE s) d 269 153 [(0, zr 4 44), (1, zi y1), (4, zi ((3600 * v678) + (60 * v794)))] [zi v829] m827 _
                refine X.istore 155 [(0, zr 4 44), (1, zi y1), (4, zi ((3600 * v678) + (60 * v794))), (5, zi v829)] i269_153 rfl rfl rfl ?_
                refine X.aload_n 156 i269_155 rfl rfl rfl ?_
                refine X.getZ 159 9 i269_156 rfl rfl (by decide) rfl rfl rfl (fun h831 => ?_)
                refine X.ifne 172 162 i269_159 rfl rfl rfl (fun h832 => ?_) (fun h832 => ?_)
                · refine X.cut [(0, zr 4 44), (1, zi y1)] i269_172 rfl ?_
                  refine X.goto 40 i269_172 rfl rfl ?_
                  exact ih  m827 (B) (hJ830.up (by omega)) (by omega)   (by omega)
                · refine X.aload_n 163 i269_162 rfl rfl rfl ?_
                  refine X.iload_n 164 i269_163 rfl rfl rfl ?_
                  refine X.iload 166 i269_164 rfl rfl rfl ?_
                  refine X.iload 168 i269_166 rfl rfl rfl ?_
                  refine X.callv 171 [zi y1, zi ((3600 * v678) + (60 * v794)), zi v829] [] [(0, zr 4 44), (1, zi y1), (2, zi ((3600 * v678) + (60 * v794))), (3, zi v829)] i269_168 rfl (by decide) rfl rfl (by omega) rfl rfl (by decide) rfl t243 (Nat.le_of_ble_eq_true rfl) (Nat.le_of_ble_eq_true rfl) rfl ?_
                  refine c243_1 (S := zfr [] S) (m0 := m827) (B := B)  y1 ((3600 * v678) + (60 * v794)) v829 (by omega) (hJ830.ow.up (by omega)) (by omega) (by omega) (by omega) (by omega) (fun v835 m833 hv835 hJ834 => ?_)
                  have hJ836 := hJ830.trans hJ834 zi_n
                  have mom833 := hJ834.mo rfl rfl
                  show X (EE s) d 269 171 [(0, zr 4 44), (1, zi y1), (4, zi ((3600 * v678) + (60 * v794))), (5, zi v829)] [zi v835] m833 _
                  refine X.pop 172 i269_171 rfl rfl rfl ?_
                  refine X.cut [(0, zr 4 44), (1, zi y1)] i269_172 rfl ?_
                  refine X.goto 40 i269_172 rfl rfl ?_
                  exact ih  m833 (B) (hJ836.up (by omega)) (by omega)   (by omega)
