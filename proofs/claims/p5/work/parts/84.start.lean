/-! How both sides hang together on a new object. -/
def kRel (m : zM) : Bool := decide (m 0 8 9 = m 4 45 0) && (decide (m 0 19 3 = m 4 45 1) && (decide (m 0 19 4 = m 4 45 2) && (decide (m 0 19 5 = m 4 45 3) &&
  (decide (m 0 39 0 = m 4 45 1614) && (decide (m 0 39 1 = m 4 45 1615) && (decide (m 0 39 2 = m 4 45 1616) && (decide (m 0 39 4 = m 4 45 1617) && (decide (m 0 39 3 = m 4 45 1618) && (decide (m 0 39 3 = 0) &&
  (((List.range 8).all fun t => decide (m 0 12 t = 0) && decide (m 4 45 (287 + t) = 0)) && (((List.range 4).all fun s => decide (m 0 15 s = m 4 45 (391 + s))) && (((List.range 28).all fun d => decide (m 0 16 d = m 4 45 (395 + d))) &&
  (decide (m 0 11 7 = 0) && (((List.range 365).all fun d => decide (m 4 45 (423 + d) = -1)) &&
  (decide (m 4 40 4 = m 4 44 3) && (decide (m 4 44 3 = 0) && (decide (m 4 41 3 = m 4 44 5) && (decide (m 4 41 3 = 0) && (decide (m 4 41 4 = m 4 44 6) && decide (m 4 41 5 = m 4 44 7))))))))))))))))))))
theorem spN_zero {w : Int → Int} : ∀ n : Nat, (∀ d : Int, 0 ≤ d → d < n → w (423 + d) = -1) → spN w n = 0
  | 0, _ => rfl
  | n + 1, h => by
    unfold spN
    rw [spN_zero n (fun d h0 h1 => h d h0 (by omega)), h n (by omega) (by omega)]
    rfl
theorem rng_all {n : Nat} {p : Nat → Bool} (h : (List.range n).all p = true) (i : Int) (h0 : 0 ≤ i) (h1 : i < n) : ∃ k : Nat, (k : Int) = i ∧ p k = true := ⟨i.toNat, by omega, List.all_eq_true.mp h i.toNat (List.mem_range.mpr (by omega))⟩
theorem kRel_ok {m : zM} (h : kRel m = true) : Rel2 0 m m := by
  unfold kRel at h
  simp only [Bool.and_eq_true, decide_eq_true_eq] at h
  obtain ⟨a1, a2, a3, a4, a5, a6, a7, a8, a9, a10, a11, a12, a13, a14, a15, a16, a17, a18, a19, a20, a21⟩ := h
  have e11 : ∀ t : Int, 0 ≤ t → t < 8 → m 0 12 t = 0 ∧ m 4 45 (287 + t) = 0 := fun t h0 h1 => by
    obtain ⟨k, rfl, hk⟩ := rng_all a11 t h0 h1
    simpa only [Bool.and_eq_true, decide_eq_true_eq] using hk
  have e15 : ∀ d : Int, 0 ≤ d → d < 365 → m 4 45 (423 + d) = -1 := fun t h0 h1 => by
    obtain ⟨k, rfl, hk⟩ := rng_all a15 t h0 h1
    exact of_decide_eq_true hk
  refine ⟨⟨a1, ⟨a2, a3, a4⟩, ⟨a5, a6, a7, a8, a9, by omega, by omega⟩, ⟨fun t h0 h1 => by rw [(e11 t h0 h1).1, (e11 t h0 h1).2], fun t k h0 h1 h2 h3 => ?_, fun t k h0 h1 h2 h3 => ?_⟩, ⟨fun s h0 h1 => ?_, fun d h0 h1 => ?_⟩, fun k h0 h1 => ?_, fun j k h0 h1 h2 => ?_, fun d h0 h1 h2 => ?_, ?_⟩, a16, fun e => ?_, ⟨a18, fun i h0 h1 => ?_⟩, a20, a21⟩
  · rw [(e11 t h0 h1).1] at h3
    omega
  · rw [(e11 t h0 h1).1] at h3
    omega
  · obtain ⟨k, rfl, hk⟩ := rng_all a12 s h0 h1
    exact of_decide_eq_true hk
  · obtain ⟨k, rfl, hk⟩ := rng_all a13 d h0 h1
    exact of_decide_eq_true hk
  · omega
  · omega
  · exact absurd (e15 d h0 h1) h2
  · rw [a14]
    exact spN_zero 365 e15
  · omega
  · omega
