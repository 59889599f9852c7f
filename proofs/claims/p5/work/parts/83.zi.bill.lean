/-! Bills, on both sides. -/
/-- the place of a bill in the reference's row -/
def bp (e k : Int) : Int := 1172 + 45 * e + k
def BI (c : Nat → Int → Int) (w : Int → Int) : Prop := c 23 3 = w 18 ∧ 0 ≤ w 18 ∧
  (∀ q t, 0 ≤ q → q < 7 → 0 ≤ t → t < 4 → c 25 (q * 4 + t) = if w 18 = 0 then 0 else w (bp (min (w 18) 7 - 1) (1 + (5 * q + t)))) ∧
  (∀ i, 0 ≤ i → i < min (w 18) 6 → c 26 ((w 18 - 1 - i) % 6 * 33 + 32) = w (bp (min (w 18) 7 - 1 - i) 0) ∧ (∀ k, 0 ≤ k → k < 4 → c 26 ((w 18 - 1 - i) % 6 * 33 + (28 + k)) = w (bp (min (w 18) 7 - 1 - i) (36 + k))) ∧
    ∀ q t, 0 ≤ q → q < 7 → 0 ≤ t → t < 4 → c 26 ((w 18 - 1 - i) % 6 * 33 + (q * 4 + t)) = w (bp (min (w 18) 7 - 1 - i) (1 + (5 * q + t))) - if min (w 18) 7 - 1 - i = 0 then 0 else w (bp (min (w 18) 7 - 1 - i - 1) (1 + (5 * q + t)))) ∧
  (∀ e q, 0 ≤ e → e < min (w 18) 7 → 0 ≤ q → q < 7 → w (bp e (1 + (5 * q + 4))) = w (bp e (1 + (5 * q + 0))) + w (bp e (1 + (5 * q + 1))) + w (bp e (1 + (5 * q + 2))) + w (bp e (1 + (5 * q + 3)))) ∧
  ∀ e q t, 0 ≤ e → e < min (w 18) 7 → 0 ≤ q → q < 7 → 0 ≤ t → t < 4 → 0 ≤ w (bp e (1 + (5 * q + t))) ∧ w (bp e (1 + (5 * q + t))) ≤ 100000000000000
theorem BI.pt {c c' : Nat → Int → Int} {w w' : Int → Int} (h : BI c w) (h23 : c' 23 3 = c 23 3) (h25 : ∀ i, 0 ≤ i → i < 28 → c' 25 i = c 25 i) (h26 : ∀ i, 0 ≤ i → i < 198 → c' 26 i = c 26 i) (hw : ∀ i, i = 18 ∨ (1172 ≤ i ∧ i ≤ 1486) → w' i = w i) : BI c' w' := by
  obtain ⟨a1, a2, a3, a4, a5, a6⟩ := h
  have e18 := hw 18 (by omega)
  have eb : ∀ e k, 0 ≤ e → e < 7 → 0 ≤ k → k < 45 → w' (bp e k) = w (bp e k) := fun e k e0 e1 k0 k1 => hw _ (by unfold bp; omega)
  unfold BI
  rw [e18]
  refine ⟨by rw [h23]; exact a1, a2, fun q t q0 q1 t0 t1 => ?_, fun i i0 i1 => ?_, fun e q e0 e1 q0 q1 => ?_, fun e q t e0 e1 q0 q1 t0 t1 => ?_⟩
  · rw [h25 _ (by omega) (by omega), a3 q t q0 q1 t0 t1]
    by_cases z : w 18 = 0
    · rw [if_pos z, if_pos z]
    · rw [if_neg z, if_neg z, eb _ _ (by omega) (by omega) (by omega) (by omega)]
  · obtain ⟨b1, b2, b3⟩ := a4 i i0 i1
    refine ⟨?_, fun k k0 k1 => ?_, fun q t q0 q1 t0 t1 => ?_⟩
    · rw [h26 _ (by omega) (by omega), eb _ _ (by omega) (by omega) (by omega) (by omega)]
      exact b1
    · rw [h26 _ (by omega) (by omega), eb _ _ (by omega) (by omega) (by omega) (by omega)]
      exact b2 k k0 k1
    · rw [h26 _ (by omega) (by omega), eb _ _ (by omega) (by omega) (by omega) (by omega), b3 q t q0 q1 t0 t1]
      by_cases z : min (w 18) 7 - 1 - i = 0
      · rw [if_pos z, if_pos z]
      · rw [if_neg z, if_neg z, eb _ _ (by omega) (by omega) (by omega) (by omega)]
  · rw [eb _ _ (by omega) (by omega) (by omega) (by omega), eb _ _ (by omega) (by omega) (by omega) (by omega), eb _ _ (by omega) (by omega) (by omega) (by omega), eb _ _ (by omega) (by omega) (by omega) (by omega), eb _ _ (by omega) (by omega) (by omega) (by omega)]
    exact a5 e q e0 e1 q0 q1
  · rw [eb _ _ (by omega) (by omega) (by omega) (by omega)]
    exact a6 e q t e0 e1 q0 q1 t0 t1
theorem BI.fe {c c' : Nat → Int → Int} {w w' : Int → Int} (h : BI c w) (h1 : FE 5 c c') (h2 : FW 5 w w') : BI c' w' :=
  h.pt h1.p23_3 (fun i i0 i1 => h1.p25_0 i i0 (by omega)) (fun i i0 i1 => h1.p26_0 i i0 (by omega)) (fun i hi => by
    rcases hi with e | e
    · rw [e]
      exact h2 18 (by omega) (by omega) ja45_18
    · exact h2 i (by omega) (by omega) (ja45_1172 e))
/-- a bill more -/
theorem BI.add {c c' : Nat → Int → Int} {w w' : Int → Int} {v sh t : Int} (h : BI c w) (hv : v = min (w 18) 6) (hsh : sh = if w 18 < 7 then 0 else 1)
    (b24 : ∀ q t, 0 ≤ q → q < 7 → 0 ≤ t → t < 4 → c 24 (q * 4 + t) = w (60 + (5 * q + t)) ∧ 0 ≤ w (60 + (5 * q + t)) ∧ w (60 + (5 * q + t)) ≤ 100000000000000) (b4 : ∀ q, 0 ≤ q → q < 7 → w (60 + (5 * q + 4)) = w (60 + (5 * q + 0)) + w (60 + (5 * q + 1)) + w (60 + (5 * q + 2)) + w (60 + (5 * q + 3))) (b31 : ∀ k, 0 ≤ k → k < 4 → c 31 k = w (32 + k))
    (h23 : c' 23 3 = c 23 3 + 1) (h25 : ∀ i, 0 ≤ i → i < 28 → c' 25 i = c 24 i) (h26a : ∀ i, 0 ≤ i → i < 28 → c' 26 (c 23 3 % 6 * 33 + i) = c 24 i - c 25 i) (h26b : ∀ i, 0 ≤ i → i < 4 → c' 26 (c 23 3 % 6 * 33 + (28 + i)) = c 31 i) (h26c : c' 26 (c 23 3 % 6 * 33 + 32) = t) (h26o : ∀ i, (i < c 23 3 % 6 * 33 ∨ c 23 3 % 6 * 33 + 33 ≤ i) → c' 26 i = c 26 i)
    (w18 : w' 18 = w 18 + 1) (wn0 : w' (bp v 0) = t) (wn1 : ∀ k, 0 ≤ k → k < 35 → w' (bp v (1 + k)) = w (60 + k)) (wn2 : ∀ k, 0 ≤ k → k < 4 → w' (bp v (36 + k)) = w (32 + k)) (wo : ∀ e k, 0 ≤ e → e < v → 0 ≤ k → k < 45 → w' (bp e k) = w (bp (e + sh) k)) : BI c' w' := by
  obtain ⟨a1, a2, a3, a4, a5, a6⟩ := h
  have hsh2 : (w 18 < 7 ∧ sh = 0) ∨ (7 ≤ w 18 ∧ sh = 1) := by
    by_cases z : w 18 < 7
    · rw [if_pos z] at hsh
      exact .inl ⟨z, hsh⟩
    · rw [if_neg z] at hsh
      exact .inr ⟨by omega, hsh⟩
  have ev : min (w 18 + 1) 7 - 1 = v := by omega
  unfold BI
  rw [w18, ev]
  refine ⟨by rw [h23, a1], by omega, fun q t q0 q1 t0 t1 => ?_, fun i i0 i1 => ?_, fun e q e0 e1 q0 q1 => ?_, fun e q t e0 e1 q0 q1 t0 t1 => ?_⟩
  · rw [if_neg (by omega), h25 _ (by omega) (by omega), wn1 _ (by omega) (by omega)]
    exact (b24 q t q0 q1 t0 t1).1
  · by_cases z : i = 0
    · subst z
      rw [show w 18 + 1 - 1 - 0 = c 23 3 by omega, show v - 0 = v by omega]
      refine ⟨by rw [h26c, wn0], fun k k0 k1 => by rw [h26b k k0 k1, wn2 k k0 k1, b31 k k0 k1], fun q t q0 q1 t0 t1 => ?_⟩
      rw [h26a _ (by omega) (by omega), wn1 _ (by omega) (by omega), (b24 q t q0 q1 t0 t1).1, a3 q t q0 q1 t0 t1]
      by_cases y : w 18 = 0
      · rw [if_pos y, if_pos (by omega)]
      · rw [if_neg y, if_neg (by omega), wo (v - 1) _ (by omega) (by omega) (by omega) (by omega)]
        rw [show v - 1 + sh = min (w 18) 7 - 1 by omega]
    · obtain ⟨d1, d2, d3⟩ := a4 (i - 1) (by omega) (by omega)
      have es : w 18 + 1 - 1 - i = w 18 - 1 - (i - 1) := by omega
      have ee : v - i + sh = min (w 18) 7 - 1 - (i - 1) := by omega
      have so : ∀ k, 0 ≤ k → k < 33 → c' 26 ((w 18 - 1 - (i - 1)) % 6 * 33 + k) = c 26 ((w 18 - 1 - (i - 1)) % 6 * 33 + k) := fun k k0 k1 => h26o _ (by omega)
      rw [es]
      refine ⟨?_, fun k k0 k1 => ?_, fun q t q0 q1 t0 t1 => ?_⟩
      · rw [so 32 (by omega) (by omega), wo _ _ (by omega) (by omega) (by omega) (by omega), ee]
        exact d1
      · rw [so _ (by omega) (by omega), wo _ _ (by omega) (by omega) (by omega) (by omega), ee]
        exact d2 k k0 k1
      · rw [so _ (by omega) (by omega), wo (v - i) _ (by omega) (by omega) (by omega) (by omega), ee, d3 q t q0 q1 t0 t1]
        by_cases y : v - i = 0
        · have y2 : min (w 18) 7 - 1 - (i - 1) = 0 := by omega
          rw [if_pos y, if_pos y2]
        · have y2 : ¬ min (w 18) 7 - 1 - (i - 1) = 0 := by omega
          rw [if_neg y, if_neg y2, wo (v - i - 1) _ (by omega) (by omega) (by omega) (by omega), show v - i - 1 + sh = min (w 18) 7 - 1 - (i - 1) - 1 by omega]
  · by_cases z : e = v
    · rw [z, wn1 _ (by omega) (by omega), wn1 _ (by omega) (by omega), wn1 _ (by omega) (by omega), wn1 _ (by omega) (by omega), wn1 _ (by omega) (by omega)]
      exact b4 q q0 q1
    · rw [wo _ _ e0 (by omega) (by omega) (by omega), wo _ _ e0 (by omega) (by omega) (by omega), wo _ _ e0 (by omega) (by omega) (by omega), wo _ _ e0 (by omega) (by omega) (by omega), wo _ _ e0 (by omega) (by omega) (by omega)]
      exact a5 (e + sh) q (by omega) (by omega) q0 q1
  · by_cases z : e = v
    · rw [z, wn1 _ (by omega) (by omega)]
      exact (b24 q t q0 q1 t0 t1).2
    · rw [wo _ _ e0 (by omega) (by omega) (by omega)]
      exact a6 (e + sh) q t (by omega) (by omega) q0 q1 t0 t1
