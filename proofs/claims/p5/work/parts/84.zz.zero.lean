/-! COST and CHEAPEST of a new object: PRICES are 0, TIME is 0. -/
def ZZ (m : zM) : Prop := m 0 8 9 = 0 ∧ m 4 45 0 = 0 ∧ (∀ i : Int, 6 ≤ i → i ≤ 9 → m 0 10 i = 0) ∧ (∀ i : Int, 28 ≤ i → i ≤ 31 → m 4 45 i = 0)
theorem w64_0 : w64 0 = 0 := w64_id (x := 0) (by omega)
section
variable {m : zM} {B : Int}
theorem cls0 (hc : OM B m) (hB : B ≤ 700000000) (hZ : ZZ m) {y2 y4 : Int} (h4 : 0 ≤ y4 ∧ y4 ≤ 2000185600) : ∀ (n : Nat) (y5 y8 : Int), 0 ≤ y5 ∧ y5 ≤ 2000185600 → fl182_14_1 (fun y => y) 0 0 y2 y4 m n y5 0 y8 = 0
  | 0, _, _, _ => rfl
  | n + 1, y5, y8, h5 => by
    show fl182_14_1_b (fl182_14_1 (fun y => y) 0 0 y2 y4 m n) (fun y => y) 0 0 y2 y4 m y5 0 y8 = 0
    unfold fl182_14_1_b
    simp only [zn_a]
    by_cases c1 : y2 ≤ y8
    · rw [if_pos c1]
    rw [if_neg c1]
    by_cases c2 : y4 ≤ y5
    · rw [if_pos c2]
    rw [if_neg c2]
    have b1 := q37_1 0 y5 hc.1 hc.2 (by omega) (by omega) h5
    have b2 := q27_1 0 y5 hc.1 hc.2 (by omega) (by omega) h5
    rw [hZ.2.2.1 (6 + f27_1 0 y5 m) (by omega) (by omega), Int.zero_mul, Int.add_zero, w64_0]
    exact cls0 hc hB hZ h4 n _ _ (by omega)
theorem f182_0 (hc : OM B m) (hB : B ≤ 700000000) (hZ : ZZ m) {a1 a2 : Int} (h1 : 0 ≤ a1 ∧ a1 ≤ 2000000000) (h2 : 1 ≤ a2 ∧ a2 ≤ 100000) : f182_1 0 0 a1 a2 m = 0 :=
  cls0 hc hB hZ (by omega) _ _ _ (by omega)
theorem day0 (hc : OM B m) (hZ : ZZ m) {y2 y3 y4 : Int} (h4 : 0 ≤ y4 ∧ y4 ≤ 7) : ∀ (n : Nat) (y7 y8 y9 : Int), 0 ≤ y7 ∧ y7 ≤ 3 → 0 ≤ y9 → fl307_19_1 (fun y => y) y2 y3 y4 m n 0 y7 y8 y9 = 0
  | 0, _, _, _, _, _ => rfl
  | n + 1, y7, y8, y9, h7, h9 => by
    show fl307_19_1_b (fl307_19_1 (fun y => y) y2 y3 y4 m n) (fun y => y) y2 y3 y4 m 0 y7 y8 y9 = 0
    unfold fl307_19_1_b
    have e : m 4 45 (28 + y7) = 0 := hZ.2.2.2 _ (by omega) (by omega)
    have b := r45_287 hc.2.o 4 (i := 287 + y4) (by omega)
    simp only [zn_a, e, Int.mul_zero, Int.add_zero, w64_0, ite_self]
    by_cases c1 : y9 ≤ m 4 45 (287 + y4)
    · rw [if_pos c1]
      refine day0 hc hZ h4 n _ _ _ ?_ (by omega)
      split
      · exact r45_343 hc.2.o 4 (i := 343 + 6 * y4 + y9) (by omega)
      · exact h7
    · rw [if_neg c1]
theorem f307_0 (hc : OM B m) (hB : B ≤ 700000000) (hZ : ZZ m) {a1 a2 a3 : Int} (h1 : 0 ≤ a1 ∧ a1 ≤ 23150) : f307_1 a1 a2 a3 m = 0 := by
  have b := q218_1 a1 hc.1 hc.2 (by omega) h1
  unfold f307_1
  rw [zn_a]
  exact day0 hc hZ b _ _ _ _ (by omega) (by omega)
theorem from0 (hc : OM B m) (hB : B ≤ 700000000) (hZ : ZZ m) {y1 y2 : Int} (h : y1 + y2 ≤ 2000100000) : ∀ (n : Nat) (y5 : Int), 0 ≤ y5 → fl306_5_1 (fun y => y) y1 y2 m n 0 y5 = 0
  | 0, _, _ => rfl
  | n + 1, y5, h5 => by
    show fl306_5_1_b (fl306_5_1 (fun y => y) y1 y2 m n) (fun y => y) y1 y2 m 0 y5 = 0
    unfold fl306_5_1_b
    simp only [zn_a]
    by_cases c1 : y1 + y2 ≤ y5
    · rw [if_pos c1]
    rw [if_neg c1, f307_0 hc hB hZ (by omega), Int.add_zero, w64_0]
    refine from0 hc hB hZ h n _ ?_
    split <;> omega
theorem f306_0 (hc : OM B m) (hB : B ≤ 700000000) (hZ : ZZ m) {a1 a2 : Int} (h1 : 0 ≤ a1) (h : a1 + a2 ≤ 2000100000) : f306_1 a1 a2 m = 0 :=
  from0 hc hB hZ h _ _ h1
theorem an_cost0 {a : Int} (hc : OM B m) (hB : B ≤ 700000000) (hZ : ZZ m) : f181_1 a m = f305_1 a m := by
  obtain ⟨z1, z2, -, -⟩ := id hZ
  unfold f181_1 f305_1
  simp only [zn_a, z1, z2]
  by_cases c1 : a < 1
  · rw [if_pos c1, if_pos c1]
  rw [if_neg c1, if_neg c1]
  by_cases c2 : a ≤ 100000
  · rw [if_neg (show ¬ 100000 < a by omega), if_pos c2, if_pos (show 0 + a - 1 ≤ 2000000000 by omega), if_pos (show 0 + a ≤ 2000000000 by omega), f182_0 hc hB hZ (by omega) (by omega), f306_0 hc hB hZ (by omega) (by omega)]
  · rw [if_pos (show 100000 < a by omega), if_neg c2]
theorem chC (hc : OM B m) (hB : B ≤ 700000000) (hZ : ZZ m) {k : Int → Int → Int} {a y2 : Int} (ha : 1 ≤ a ∧ a ≤ 100000) (hk : k 0 0 = 0) : ∀ (n : Nat) (y6 : Int), 0 ≤ y6 → fl183_80_1 k a y2 m n 0 0 y6 = 0
  | 0, _, _ => rfl
  | n + 1, y6, h6 => by
    show fl183_80_1_b (fl183_80_1 k a y2 m n) k a y2 m 0 0 y6 = 0
    unfold fl183_80_1_b
    simp only [zn_a]
    by_cases c1 : 96 ≤ y6
    · rw [if_pos c1]
      exact hk
    have z := hZ.1
    rw [if_neg c1, f182_0 hc hB hZ (by omega) ha, if_neg (show ¬ (0 : Int) < 0 by omega)]
    exact chC hc hB hZ ha hk n _ (by omega)
theorem chR (hc : OM B m) (hB : B ≤ 700000000) (hZ : ZZ m) {k : Int → Int} {a y2 : Int} (ha : 1 ≤ a ∧ a ≤ 100000) (hk : k 0 = 0) : ∀ (n : Nat) (y4 : Int), 0 ≤ y4 → fl308_57_1 k a y2 m n 0 y4 = 0
  | 0, _, _ => rfl
  | n + 1, y4, h4 => by
    show fl308_57_1_b (fl308_57_1 k a y2 m n) k a y2 m 0 y4 = 0
    unfold fl308_57_1_b
    simp only [zn_a]
    by_cases c1 : 96 ≤ y4
    · rw [if_pos c1]
      exact hk
    have z := hZ.2.1
    rw [if_neg c1, f306_0 hc hB hZ (by omega) (by omega), f306_0 hc hB hZ (by omega) (by omega), if_neg (show ¬ (0 : Int) < 0 by omega)]
    exact chR hc hB hZ ha hk n _ (by omega)
theorem an_cheapest0 {a b : Int} (hc : OM B m) (hB : B ≤ 700000000) (hZ : ZZ m) : f183_1 a b m = f308_1 a b m := by
  obtain ⟨z1, z2, -, -⟩ := id hZ
  unfold f183_1 f308_1
  by_cases c1 : a < 1
  · rw [if_pos c1, if_pos c1]
  rw [if_neg c1, if_neg c1]
  by_cases c2 : a ≤ 100000
  case neg => rw [if_pos (show 100000 < a by omega), if_neg c2]
  rw [if_neg (show ¬ 100000 < a by omega), if_pos c2, z1, z2, if_pos (show (0 : Int) + 85500 + a ≤ 2000000000 by omega), if_pos (show (0 : Int) + 85500 + a - 1 ≤ 2000000000 by omega)]
  by_cases c3 : b < 0
  · rw [if_pos c3, if_pos c3]
  rw [if_neg c3, if_neg c3]
  by_cases c4 : b ≤ 1
  case neg => rw [if_neg c4, if_neg c4]
  rw [if_pos c4, if_pos c4, zn_a, f182_0 hc hB hZ (by omega) (by omega), chC hc hB hZ (by omega) (by simp only [zn_a, ite_self]) _ _ (by omega), chR hc hB hZ (by omega) (by simp only [zn_a, f306_0 hc hB hZ (Int.le_refl 0) (show (0 : Int) + a ≤ 2000100000 by omega), ite_self]) _ _ (by omega)]
end
def kZZ (m : zM) : Bool := decide (m 0 8 9 = 0) && (decide (m 4 45 0 = 0) && (((List.range 4).all fun i => decide (m 0 10 (6 + i) = 0)) && ((List.range 4).all fun i => decide (m 4 45 (28 + i) = 0))))
theorem kZZ_ok {m : zM} (h : kZZ m = true) : ZZ m := by
  unfold kZZ at h
  simp only [Bool.and_eq_true, decide_eq_true_eq] at h
  obtain ⟨h1, h2, h3, h4⟩ := h
  refine ⟨h1, h2, fun i i0 i1 => ?_, fun i i0 i1 => ?_⟩
  · obtain ⟨k, e, hk⟩ := rng_all h3 (i - 6) (by omega) (by omega)
    rw [show i = 6 + (k : Int) by omega]
    exact of_decide_eq_true hk
  · obtain ⟨k, e, hk⟩ := rng_all h4 (i - 28) (by omega) (by omega)
    rw [show i = 28 + (k : Int) by omega]
    exact of_decide_eq_true hk
