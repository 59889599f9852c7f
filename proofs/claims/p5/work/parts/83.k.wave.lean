/-! The samples and the period on both sides. -/
/-- sums of the period; samples as they come -/
def WS (c : Nat → Int → Int) (w : Int → Int) : Prop := (∀ f : Nat, (f : Int) < w 1 → c 22 f = AC w f ∧ c 22 (4 + f) = RE w f ∧ c 22 (8 + f) = SQ w 95 f ∧ c 22 (12 + f) = SQ w 143 f) ∧
  c 22 3 = sumN (TG w 0) (w 1).toNat ∧ c 22 7 = sumN (TG w 1) (w 1).toNat ∧ c 22 11 = sumN (TG w 2) (w 1).toNat ∧ c 22 15 = sumN (TG w 3) (w 1).toNat ∧ isRoot (c 22 3 * c 22 3 + c 22 7 * c 22 7) (c 19 6)
def WN (c : Nat → Int → Int) (w : Int → Int) : Prop := w 3 < w 1 * w 2 ∧ ∀ k, 0 ≤ k → k < w 3 → c 20 k = w (191 + 16 * (k % w 1) + k / w 1) ∧ c 21 k = w (239 + 16 * (k % w 1) + k / w 1)
theorem WB.pt {w w' : Int → Int} (h : WB w) (e : ∀ i, (1 ≤ i ∧ i ≤ 3) ∨ (95 ≤ i ∧ i ≤ 286) → w' i = w i) : WB w' := by
  unfold WB
  rw [e 1 (by omega), e 2 (by omega), e 3 (by omega)]
  obtain ⟨a1, a2, a3, a4, a5, a6, a7⟩ := h
  exact ⟨a1, a2, a3, a4, a5, a6, fun i i0 i1 => by rw [e i (by omega)]; exact a7 i i0 i1⟩
theorem WB.of {B : Int} {m : zM} (h : OM B m) : WB (m 4 45) := by
  have h1 := r45_1 h.2.o 4
  have h2 := r45_2 h.2.o 4
  have h3 := r45_3 h.2.o 4
  exact ⟨h1.1, h1.2, h2.1, h2.2, h3.1, h3.2, fun i i0 i1 => r45_95 h.2.o 4 ⟨i0, i1⟩⟩
theorem mul_bd {a b : Int} (ha : -500 ≤ a ∧ a ≤ 500) (hb : -500 ≤ b ∧ b ≤ 500) : -250000 ≤ a * b ∧ a * b ≤ 250000 := by
  have h1 : 0 ≤ (a + 500) * (500 - b) := Int.mul_nonneg (by omega) (by omega)
  have h2 : 0 ≤ (500 - a) * (500 + b) := Int.mul_nonneg (by omega) (by omega)
  have h3 : 0 ≤ (a + 500) * (b + 500) := Int.mul_nonneg (by omega) (by omega)
  have h4 : 0 ≤ (500 - a) * (500 - b) := Int.mul_nonneg (by omega) (by omega)
  have e1 : (a + 500) * (500 - b) = a * 500 - a * b + 250000 - 500 * b := by rw [Int.add_mul, Int.mul_sub, Int.mul_sub]; omega
  have e2 : (500 - a) * (500 + b) = 250000 + 500 * b - a * 500 - a * b := by rw [Int.sub_mul, Int.mul_add, Int.mul_add]; omega
  have e3 : (a + 500) * (b + 500) = a * b + a * 500 + 500 * b + 250000 := by rw [Int.add_mul, Int.mul_add, Int.mul_add]; omega
  have e4 : (500 - a) * (500 - b) = 250000 - 500 * b - a * 500 + a * b := by rw [Int.sub_mul, Int.mul_sub, Int.mul_sub]; omega
  omega
theorem sq_nn (a : Int) : 0 ≤ a * a := by
  by_cases h : 0 ≤ a
  · exact Int.mul_nonneg h h
  · have := Int.mul_nonneg (show 0 ≤ -a by omega) (show 0 ≤ -a by omega)
    rw [Int.neg_mul_neg] at this
    exact this
theorem sum16 {f : Nat → Int} {n : Int} (hn : 4 ≤ n ∧ n ≤ 16) (h : ∀ k : Nat, (k : Int) < n → -250000 ≤ f k ∧ f k ≤ 250000) : -4000000 ≤ sumN f n.toNat ∧ sumN f n.toNat ≤ 4000000 := by
  have h1 := sumN_bd (f := f) (b := 250000) n.toNat (fun k hk => h k (by omega))
  omega
theorem AC_b {w : Int → Int} (h : WB w) {f : Int} (h0 : 0 ≤ f) (h1 : f < 3) : -4000000 ≤ AC w f ∧ AC w f ≤ 4000000 := by
  obtain ⟨-, -, n0, n1, -, -, hw⟩ := h
  exact sum16 ⟨n0, n1⟩ (fun k hk => mul_bd (hw _ (by omega) (by omega)) (hw _ (by omega) (by omega)))
theorem RE_b {w : Int → Int} (h : WB w) {f : Int} (h0 : 0 ≤ f) (h1 : f < 3) : -4000000 ≤ RE w f ∧ RE w f ≤ 4000000 := by
  obtain ⟨-, -, n0, n1, -, -, hw⟩ := h
  refine sum16 ⟨n0, n1⟩ (fun k hk => ?_)
  have e1 : 0 ≤ ((k : Int) + w 2 / 4) % w 2 := Int.emod_nonneg _ (by omega)
  have e2 : ((k : Int) + w 2 / 4) % w 2 < w 2 := Int.emod_lt_of_pos _ (by omega)
  unfold tR
  exact mul_bd (hw _ (by omega) (by omega)) (hw _ (by omega) (by omega))
theorem SQ_b {w : Int → Int} (h : WB w) {b f : Int} (hb : b = 95 ∨ b = 143) (h0 : 0 ≤ f) (h1 : f < 3) : 0 ≤ SQ w b f ∧ SQ w b f ≤ 4000000 := by
  obtain ⟨-, -, n0, n1, -, -, hw⟩ := h
  have h2 : -4000000 ≤ SQ w b f ∧ SQ w b f ≤ 4000000 := sum16 ⟨n0, n1⟩ (fun k hk => mul_bd (hw _ (by omega) (by omega)) (hw _ (by omega) (by omega)))
  exact ⟨sumN_nn _ (fun k _ => sq_nn _), h2.2⟩
theorem TG_b {w : Int → Int} (h : WB w) (i : Int) : -12000000 ≤ sumN (TG w i) (w 1).toNat ∧ sumN (TG w i) (w 1).toNat ≤ 12000000 := by
  have h1 := sumN_bd (f := TG w i) (b := 4000000) (w 1).toNat (fun k hk => by
    have hk3 : (k : Int) < 3 := by have := h.2.1; omega
    have a := AC_b h (f := k) (by omega) hk3
    have b := RE_b h (f := k) (by omega) hk3
    have c := SQ_b h (.inl rfl) (f := k) (by omega) hk3
    have d := SQ_b h (.inr rfl) (f := k) (by omega) hk3
    unfold TG
    repeat' split
    all_goals omega)
  have := h.1
  have := h.2.1
  omega
theorem AC_fw {w w' : Int → Int} (e : ∀ i, (1 ≤ i ∧ i ≤ 2) ∨ (95 ≤ i ∧ i ≤ 190) → w' i = w i) (hb : WB w) {f : Int} (h0 : 0 ≤ f) (h1 : f < 3) : AC w' f = AC w f ∧ RE w' f = RE w f ∧ SQ w' 95 f = SQ w 95 f ∧ SQ w' 143 f = SQ w 143 f := by
  obtain ⟨-, -, n0, n1, -, -, -⟩ := hb
  have e2 := e 2 (by omega)
  unfold AC RE SQ
  rw [e2]
  refine ⟨sumN_congr _ (fun k hk => ?_), sumN_congr _ (fun k hk => ?_), sumN_congr _ (fun k hk => ?_), sumN_congr _ (fun k hk => ?_)⟩
  · unfold tA
    rw [e _ (by omega), e _ (by omega)]
  · have e3 : 0 ≤ ((k : Int) + w 2 / 4) % w 2 := Int.emod_nonneg _ (by omega)
    have e4 : ((k : Int) + w 2 / 4) % w 2 < w 2 := Int.emod_lt_of_pos _ (by omega)
    unfold tR
    rw [e _ (by omega), e _ (by omega)]
  · unfold tS
    rw [e _ (by omega)]
  · unfold tS
    rw [e _ (by omega)]
theorem TG_fw {w w' : Int → Int} (e : ∀ i, (1 ≤ i ∧ i ≤ 2) ∨ (95 ≤ i ∧ i ≤ 190) → w' i = w i) (hb : WB w) (i : Int) : sumN (TG w' i) (w' 1).toNat = sumN (TG w i) (w 1).toNat := by
  rw [e 1 (by omega)]
  refine sumN_congr _ (fun k hk => ?_)
  have := hb.2.1
  obtain ⟨a, b, c, d⟩ := AC_fw e hb (f := k) (by omega) (by omega)
  unfold TG
  rw [a, b, c, d]
theorem WS.fe {c c' : Nat → Int → Int} {w w' : Int → Int} (h : WS c w) (hb : WB w) (h1 : FE 2 c c') (h2 : FW 2 w w') : WS c' w' := by
  have e : ∀ i, (1 ≤ i ∧ i ≤ 2) ∨ (95 ≤ i ∧ i ≤ 190) → w' i = w i := fun i hi => by
    rcases hi with hi | hi
    · exact h2 i (by omega) (by omega) (ja45_1 (by omega))
    · exact h2 i (by omega) (by omega) (ja45_95 (by omega))
  obtain ⟨a0, a1, a2, a3, a4, a5⟩ := h
  have hp := hb.2.1
  refine ⟨fun f hf => ?_, ?_, ?_, ?_, ?_, ?_⟩
  · rw [e 1 (by omega)] at hf
    obtain ⟨q1, q2, q3, q4⟩ := AC_fw e hb (f := f) (by omega) (by omega)
    obtain ⟨b1, b2, b3, b4⟩ := a0 f hf
    rw [h1.p22_0 _ (by omega) (by omega), h1.p22_0 _ (by omega) (by omega), h1.p22_0 _ (by omega) (by omega), h1.p22_0 _ (by omega) (by omega), q1, q2, q3, q4]
    exact ⟨b1, b2, b3, b4⟩
  · rw [h1.p22_0 _ (by omega) (by omega), TG_fw e hb]
    exact a1
  · rw [h1.p22_0 _ (by omega) (by omega), TG_fw e hb]
    exact a2
  · rw [h1.p22_0 _ (by omega) (by omega), TG_fw e hb]
    exact a3
  · rw [h1.p22_0 _ (by omega) (by omega), TG_fw e hb]
    exact a4
  · rw [h1.p22_0 3 (by omega) (by omega), h1.p22_0 7 (by omega) (by omega), h1.p19_3 6 (by omega) (by omega)]
    exact a5
theorem WN.fe {c c' : Nat → Int → Int} {w w' : Int → Int} (h : WN c w) (hb : WB w) (h1 : FE 2 c c') (h2 : FW 2 w w') : WN c' w' := by
  have e1 := h2 1 (by omega) (by omega) (ja45_1 (by omega))
  have e3 := h2 3 (by omega) (by omega) (ja45_1 (by omega))
  have e2 := h2 2 (by omega) (by omega) (ja45_1 (by omega))
  obtain ⟨p0, p1, n0, n1, s0, s1, -⟩ := hb
  refine ⟨by rw [e1, e2, e3]; exact h.1, fun k k0 k1 => ?_⟩
  rw [e3] at k1
  have q0 : 0 ≤ k % w 1 := Int.emod_nonneg _ (by omega)
  have q1 : k % w 1 < w 1 := Int.emod_lt_of_pos _ (by omega)
  have d0 : 0 ≤ k / w 1 := Int.ediv_nonneg k0 (by omega)
  have h9 := h.1
  rw [Int.mul_comm] at h9
  have d3 : k / w 1 < w 2 := Int.ediv_lt_of_lt_mul (by omega) (by omega)
  rw [e1, h1.p20_0 k k0 (by omega), h1.p21_0 k k0 (by omega), h2 _ (by omega) (by omega) (ja45_95 (by omega)), h2 _ (by omega) (by omega) (ja45_95 (by omega))]
  exact h.2 k k0 k1
theorem WS.pt {c c' : Nat → Int → Int} {w w' : Int → Int} (h : WS c w) (hb : WB w) (ec : ∀ i, c' 22 i = c 22 i) (e6 : c' 19 6 = c 19 6) (e : ∀ i, (1 ≤ i ∧ i ≤ 2) ∨ (95 ≤ i ∧ i ≤ 190) → w' i = w i) : WS c' w' := by
  obtain ⟨a0, a1, a2, a3, a4, a5⟩ := h
  have hp := hb.2.1
  unfold WS
  rw [ec 3, ec 7, ec 11, ec 15, e6, TG_fw e hb, TG_fw e hb, TG_fw e hb, TG_fw e hb]
  refine ⟨fun f hf => ?_, a1, a2, a3, a4, a5⟩
  rw [e 1 (by omega)] at hf
  obtain ⟨q1, q2, q3, q4⟩ := AC_fw e hb (f := f) (by omega) (by omega)
  rw [ec, ec, ec, ec, q1, q2, q3, q4]
  exact a0 f hf
