/-! What moves, part by part. -/
def CN (c : Nat → Int → Int) (w : Int → Int) : Prop := w 13 = c 8 13 ∧ w 14 = c 8 14 ∧ w 15 = c 8 15
def CO (c : Nat → Int → Int) (w : Int → Int) : Prop := w 10 = c 8 10 ∧ w 11 = c 8 11 ∧ w 12 = c 8 12
def RG (c : Nat → Int → Int) (w : Int → Int) : Prop := (∀ q t, 0 ≤ q → q < 7 → 0 ≤ t → t < 4 → w (60 + 5 * q + t) = c 24 (q * 4 + t)) ∧ ∀ q, 0 ≤ q → q < 7 → w (60 + 5 * q + 4) = w (60 + 5 * q + 0) + w (60 + 5 * q + 1) + w (60 + 5 * q + 2) + w (60 + 5 * q + 3)
theorem CO.pt {c c' : Nat → Int → Int} {w w' : Int → Int} (h : CO c w) (hc : ∀ i, 10 ≤ i → i ≤ 12 → c' 8 i = c 8 i) (hw : ∀ i, 10 ≤ i → i ≤ 12 → w' i = w i) : CO c' w' := by
  unfold CO
  rw [hc 10 (by omega) (by omega), hc 11 (by omega) (by omega), hc 12 (by omega) (by omega), hw 10 (by omega) (by omega), hw 11 (by omega) (by omega), hw 12 (by omega) (by omega)]
  exact h
theorem RG.pt {c c' : Nat → Int → Int} {w w' : Int → Int} (h : RG c w) (hc : c' 24 = c 24) (hw : ∀ i, 60 ≤ i → i ≤ 94 → w' i = w i) : RG c' w' := by
  refine ⟨fun q t q0 q1 t0 t1 => ?_, fun q q0 q1 => ?_⟩
  · rw [hc, hw _ (by omega) (by omega)]
    exact h.1 q t q0 q1 t0 t1
  · rw [hw _ (by omega) (by omega), hw _ (by omega) (by omega), hw _ (by omega) (by omega), hw _ (by omega) (by omega), hw _ (by omega) (by omega)]
    exact h.2 q q0 q1
theorem MK.pt {c c' : Nat → Int → Int} {w w' : Int → Int} (h : MK c w) (hc : ∀ k, 33 ≤ k → k ≤ 36 → c' k = c k) (hw : ∀ i, 40 ≤ i → i ≤ 59 → w' i = w i) : MK c' w' := by
  obtain ⟨a1, a2, a3, a4, a5⟩ := h
  refine ⟨a1.of (fun i i0 i1 => hw i i0 (by omega)), by rw [hc 33 (by omega) (by omega), onV_of (fun i i0 i1 => hw i i0 (by omega))]; exact a2, fun m m0 m1 => ?_, fun m m0 m1 => ?_, fun m m0 m1 => ?_⟩
  · rw [hc 34 (by omega) (by omega), hw _ (by omega) (by omega)]
    exact a3 m m0 m1
  · rw [hc 35 (by omega) (by omega), hw _ (by omega) (by omega)]
    exact a4 m m0 m1
  · rw [hc 36 (by omega) (by omega), hw _ (by omega) (by omega)]
    exact a5 m m0 m1
theorem DM.pt {c c' : Nat → Int → Int} {w w' : Int → Int} (h : DM c w) (hc : ∀ k, 30 ≤ k → k ≤ 32 → c' k = c k) (hw : ∀ i, i = 19 ∨ i = 20 ∨ (32 ≤ i ∧ i ≤ 39) → w' i = w i) : DM c' w' := by
  obtain ⟨a1, a2, a3, a4⟩ := h
  refine ⟨by rw [hc 30 (by omega) (by omega), hw 19 (by omega)]; exact a1, by rw [hc 30 (by omega) (by omega), hw 20 (by omega)]; exact a2, fun t t0 t1 => ?_, fun t t0 t1 => ?_⟩
  · rw [hc 31 (by omega) (by omega), hw _ (by omega)]
    exact a3 t t0 t1
  · rw [hc 32 (by omega) (by omega), hw _ (by omega)]
    exact a4 t t0 t1
theorem ST.pt {c c' : Nat → Int → Int} {w w' : Int → Int} (h : ST c w) (hc : c' 10 = c 10) (hw : ∀ i, (4 ≤ i ∧ i ≤ 9) ∨ (28 ≤ i ∧ i ≤ 31) ∨ (1611 ≤ i ∧ i ≤ 1613) → w' i = w i) : ST c' w' := by
  unfold ST
  rw [hc, hw 4 (by omega), hw 5 (by omega), hw 6 (by omega), hw 7 (by omega), hw 8 (by omega), hw 9 (by omega), hw 1611 (by omega), hw 1612 (by omega), hw 1613 (by omega)]
  obtain ⟨b0, b1, b2, b3, b4, b5, b6, b7, b8, b9, b10⟩ := h
  exact ⟨b0, b1, b2, b3, b4, b5, fun t t0 t1 => by rw [hw _ (by omega)]; exact b6 t t0 t1, b7, b8, b9, b10⟩
theorem LD.pt {c c' : Nat → Int → Int} {w w' : Int → Int} (h : LD c w) (h27 : ∀ i, 2 ≤ i → i ≤ 8 → c' 27 i = c 27 i) (h28 : c' 28 = c 28) (h29 : c' 29 = c 29) (hw : ∀ i, i = 17 ∨ (22 ≤ i ∧ i ≤ 27) ∨ (788 ≤ i ∧ i ≤ 1171) ∨ (1607 ≤ i ∧ i ≤ 1610) → w' i = w i) : LD c' w' := by
  obtain ⟨a1, a2, ⟨a3, a4⟩, a5, b⟩ := h
  have e17 := hw 17 (by omega)
  refine ⟨by rw [h27 2 (by omega) (by omega), e17]; exact a1, by omega, ⟨fun i i0 i1 k k0 k1 => ?_, fun j j0 j1 k k0 k1 => ?_⟩, fun k k0 k1 => ?_, ?_⟩
  · rw [e17] at i1 ⊢
    rw [h28, hw _ (by omega)]
    exact a3 i i0 i1 k k0 k1
  · rw [e17] at j0
    rw [h28]
    exact a4 j j0 j1 k k0 k1
  · rw [h29, hw _ (by omega)]
    exact a5 k k0 k1
  · unfold LB at b ⊢
    rw [h27 3 (by omega) (by omega), h27 4 (by omega) (by omega), h27 5 (by omega) (by omega), h27 6 (by omega) (by omega), h27 7 (by omega) (by omega), h27 8 (by omega) (by omega), hw 22 (by omega), hw 23 (by omega), hw 24 (by omega), hw 25 (by omega), hw 26 (by omega), hw 27 (by omega)]
    exact b
theorem CBD.pt {A Z : Int} {c c' : Nat → Int → Int} (h : CBD A Z c) (hk : ∀ k, k = 8 ∨ k = 24 ∨ k = 27 ∨ k = 34 ∨ k = 35 ∨ k = 36 → c' k = c k) : CBD A Z c' := by
  unfold CBD
  rw [hk 8 (by omega), hk 24 (by omega), hk 27 (by omega), hk 34 (by omega), hk 35 (by omega), hk 36 (by omega)]
  exact h
/-- all but the time -/
def NUM (c : Nat → Int → Int) (w : Int → Int) : Prop := w 13 = c 8 13 ∧ w 14 = c 8 14 ∧ w 15 = c 8 15 ∧ w 10 = c 8 10 ∧ w 11 = c 8 11 ∧ w 12 = c 8 12 ∧ (∀ q t, 0 ≤ q → q < 7 → 0 ≤ t → t < 4 → w (60 + 5 * q + t) = c 24 (q * 4 + t)) ∧ (∀ q, 0 ≤ q → q < 7 → w (60 + 5 * q + 4) = w (60 + 5 * q + 0) + w (60 + 5 * q + 1) + w (60 + 5 * q + 2) + w (60 + 5 * q + 3)) ∧ MK c w ∧ LG c w ∧ DM c w ∧ LD c w ∧ OD c w
theorem NUM.t {c c' : Nat → Int → Int} {w w' : Int → Int} (h : NUM c w) (hk : ∀ k, k ≠ 8 → c' k = c k) (h8 : ∀ i, i ≠ 9 → c' 8 i = c 8 i) (hw : ∀ i, i ≠ 0 → w' i = w i) : NUM c' w' := by
  obtain ⟨a1, a2, a3, a4, a5, a6, a7, a8, a9, a10, a11, a12, a13⟩ := h
  obtain ⟨g1, g2⟩ := RG.pt (c' := c') (w' := w') ⟨a7, a8⟩ (hk 24 (by omega)) (fun i i0 i1 => hw i (by omega))
  unfold NUM
  rw [hw 13 (by omega), hw 14 (by omega), hw 15 (by omega), hw 10 (by omega), hw 11 (by omega), hw 12 (by omega), h8 13 (by omega), h8 14 (by omega), h8 15 (by omega), h8 10 (by omega), h8 11 (by omega), h8 12 (by omega)]
  refine ⟨a1, a2, a3, a4, a5, a6, g1, g2, a9.pt (fun k k0 k1 => hk k (by omega)) (fun i i0 i1 => hw i (by omega)), a10.pt (fun k k0 => hk k (by omega)) (fun i hi => hw i (by omega)), a11.pt (fun k k0 k1 => hk k (by omega)) (fun i hi => hw i (by omega)), a12.pt (fun i _ _ => by rw [hk 27 (by omega)]) (hk 28 (by omega)) (hk 29 (by omega)) (fun i hi => hw i (by omega)), ?_⟩
  unfold OD
  rw [hw 21 (by omega), hw 8 (by omega), hk 27 (by omega)]
  exact a13
