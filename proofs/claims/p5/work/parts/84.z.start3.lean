/-! How both sides hang together on a new object: all of it. -/
def kEv (n : Nat) (p : Int → Bool) : Bool := (List.range n).all fun k => p (k : Int)
theorem kEv_at {n : Nat} {p : Int → Bool} (h : kEv n p = true) (i : Int) (h0 : 0 ≤ i) (h1 : i < n) : p i = true := by
  obtain ⟨k, rfl, hk⟩ := rng_all (p := fun k => p (k : Int)) h i h0 h1
  exact hk
theorem sumN_z {f : Nat → Int} : ∀ n : Nat, (∀ k, k < n → f k = 0) → sumN f n = 0
  | 0, _ => rfl
  | n + 1, h => by
    have e := sumN_z n (fun k hk => h k (by omega))
    show sumN f n + f n = 0
    rw [e, h n (by omega)]
    rfl
def kW (w : Int → Int) : Bool := decide (w 1 = 1) && (decide (w 2 = 8) && (decide (w 8 = 900) && (kEv 9 (fun i => decide (w (10 + i) = 0)) && (kEv 7 (fun i => decide (w (21 + i) = 0)) && (kEv 20 (fun i => decide (w (40 + i) = 0)) && (kEv 35 (fun i => decide (w (60 + i) = 0)) && (kEv 192 (fun i => decide (w (95 + i) = 0)) && decide (w 3 = 0))))))))
def kC (c : Nat → Int → Int) (w : Int → Int) : Bool := kEv 6 (fun i => decide (c 10 i = w (4 + i))) && (kEv 4 (fun i => decide (c 10 (6 + i) = w (28 + i))) && (kEv 3 (fun i => decide (c 10 (10 + i) = w (1611 + i))) && (decide (c 30 2 = w 19) && (decide (c 30 3 = w 20) && (kEv 4 (fun i => decide (c 31 i = w (32 + i))) && (kEv 4 (fun i => decide (c 32 i = w (36 + i))) && (kEv 4 (fun i => decide (c 29 i = w (1607 + i))) && (decide (c 19 3 = w 1) && (decide (c 19 4 = w 2) && decide (w 0 = c 8 9))))))))))
def kZ (c : Nat → Int → Int) : Bool := kEv 6 (fun i => decide (c 8 (10 + i) = 0)) && (kEv 28 (fun i => decide (c 24 i = 0)) && (kEv 28 (fun i => decide (c 25 i = 0)) && (kEv 16 (fun i => decide (c 22 i = 0)) && (decide (c 19 6 = 0) && (decide (c 33 3 = 0) && (kEv 5 (fun i => decide (c 34 i = 0)) && (kEv 5 (fun i => decide (c 35 i = 0)) && (kEv 5 (fun i => decide (c 36 i = 0)) && (decide (c 37 1 = 0) && (kEv 384 (fun i => decide (c 28 i = 0)) && (kEv 8 (fun i => decide (c 27 (2 + i) = 0)) && (decide (c 23 3 = 0) && (kEv 198 (fun i => decide (c 26 i = 0)) && kEv 4 (fun i => decide (c 31 i = -1)))))))))))))))
theorem kMY_ok {c : Nat → Int → Int} {w : Int → Int} (hcr : CR c w) (h1 : kW w = true) (h2 : kC c w = true) (h3 : kZ c = true) : MY 0 c w := by
  unfold kW at h1
  unfold kC at h2
  unfold kZ at h3
  simp only [Bool.and_eq_true, decide_eq_true_eq] at h1 h2 h3
  obtain ⟨w1, w2, w8, x10, x21, x40, x60, x95, w3⟩ := h1
  obtain ⟨y4, y28, y11, y19, y20, y31, y32, y29, p1, p2, t0⟩ := h2
  obtain ⟨z8, z24, z25, z22, z19, z33, z34, z35, z36, z37, z28, z27, z23, z26, z31⟩ := h3
  have W10 : ∀ i, 10 ≤ i → i ≤ 18 → w i = 0 := fun i i0 i1 => by
    have := of_decide_eq_true (kEv_at x10 (i - 10) (by omega) (by omega))
    rw [show 10 + (i - 10) = i by omega] at this
    exact this
  have W21 : ∀ i, 21 ≤ i → i ≤ 27 → w i = 0 := fun i i0 i1 => by
    have := of_decide_eq_true (kEv_at x21 (i - 21) (by omega) (by omega))
    rw [show 21 + (i - 21) = i by omega] at this
    exact this
  have W40 : ∀ i, 40 ≤ i → i ≤ 59 → w i = 0 := fun i i0 i1 => by
    have := of_decide_eq_true (kEv_at x40 (i - 40) (by omega) (by omega))
    rw [show 40 + (i - 40) = i by omega] at this
    exact this
  have W60 : ∀ i, 60 ≤ i → i ≤ 94 → w i = 0 := fun i i0 i1 => by
    have := of_decide_eq_true (kEv_at x60 (i - 60) (by omega) (by omega))
    rw [show 60 + (i - 60) = i by omega] at this
    exact this
  have W95 : ∀ i, 95 ≤ i → i ≤ 286 → w i = 0 := fun i i0 i1 => by
    have := of_decide_eq_true (kEv_at x95 (i - 95) (by omega) (by omega))
    rw [show 95 + (i - 95) = i by omega] at this
    exact this
  have Z8 : ∀ i, 10 ≤ i → i ≤ 15 → c 8 i = 0 := fun i i0 i1 => by
    have := of_decide_eq_true (kEv_at z8 (i - 10) (by omega) (by omega))
    rw [show 10 + (i - 10) = i by omega] at this
    exact this
  have Z27 : ∀ i, 2 ≤ i → i ≤ 9 → c 27 i = 0 := fun i i0 i1 => by
    have := of_decide_eq_true (kEv_at z27 (i - 2) (by omega) (by omega))
    rw [show 2 + (i - 2) = i by omega] at this
    exact this
  have Z24 : ∀ i, 0 ≤ i → i < 28 → c 24 i = 0 := fun i i0 i1 => of_decide_eq_true (kEv_at z24 i i0 (by omega))
  have Z25 : ∀ i, 0 ≤ i → i < 28 → c 25 i = 0 := fun i i0 i1 => of_decide_eq_true (kEv_at z25 i i0 (by omega))
  have Z22 : ∀ i, 0 ≤ i → i < 16 → c 22 i = 0 := fun i i0 i1 => of_decide_eq_true (kEv_at z22 i i0 (by omega))
  have Z34 : ∀ i, 0 ≤ i → i < 5 → c 34 i = 0 := fun i i0 i1 => of_decide_eq_true (kEv_at z34 i i0 (by omega))
  have Z35 : ∀ i, 0 ≤ i → i < 5 → c 35 i = 0 := fun i i0 i1 => of_decide_eq_true (kEv_at z35 i i0 (by omega))
  have Z36 : ∀ i, 0 ≤ i → i < 5 → c 36 i = 0 := fun i i0 i1 => of_decide_eq_true (kEv_at z36 i i0 (by omega))
  have Z28 : ∀ i, 0 ≤ i → i < 384 → c 28 i = 0 := fun i i0 i1 => of_decide_eq_true (kEv_at z28 i i0 (by omega))
  have Y4 : ∀ i, 0 ≤ i → i < 6 → c 10 i = w (4 + i) := fun i i0 i1 => of_decide_eq_true (kEv_at y4 i i0 (by omega))
  have Y28 : ∀ i, 0 ≤ i → i < 4 → c 10 (6 + i) = w (28 + i) := fun i i0 i1 => of_decide_eq_true (kEv_at y28 i i0 (by omega))
  have Y11 : ∀ i, 0 ≤ i → i < 3 → c 10 (10 + i) = w (1611 + i) := fun i i0 i1 => of_decide_eq_true (kEv_at y11 i i0 (by omega))
  have Y31 : ∀ i, 0 ≤ i → i < 4 → c 31 i = w (32 + i) := fun i i0 i1 => of_decide_eq_true (kEv_at y31 i i0 (by omega))
  have Y32 : ∀ i, 0 ≤ i → i < 4 → c 32 i = w (36 + i) := fun i i0 i1 => of_decide_eq_true (kEv_at y32 i i0 (by omega))
  have Y29 : ∀ i, 0 ≤ i → i < 4 → c 29 i = w (1607 + i) := fun i i0 i1 => of_decide_eq_true (kEv_at y29 i i0 (by omega))
  have w16 := W10 16 (by omega) (by omega)
  have w17 := W10 17 (by omega) (by omega)
  have w18 := W10 18 (by omega) (by omega)
  -- sums of samples that are none
  have sT : ∀ f : Int, 0 ≤ f → f < 1 → AC w f = 0 ∧ RE w f = 0 ∧ SQ w 95 f = 0 ∧ SQ w 143 f = 0 := fun f f0 f1 => by
    have hn : (w 2).toNat = 8 := by rw [w2]; rfl
    refine ⟨sumN_z _ (fun k hk => ?_), sumN_z _ (fun k hk => ?_), sumN_z _ (fun k hk => ?_), sumN_z _ (fun k hk => ?_)⟩
    · unfold tA
      rw [W95 _ (by omega) (by omega), Int.zero_mul]
    · unfold tR
      rw [W95 _ (by omega) (by omega), Int.zero_mul]
    · unfold tS
      rw [W95 _ (by omega) (by omega), Int.zero_mul]
    · unfold tS
      rw [W95 _ (by omega) (by omega), Int.zero_mul]
  have tT : ∀ i : Int, sumN (TG w i) (w 1).toNat = 0 := fun i => sumN_z _ (fun k hk => by
    have hn : (w 1).toNat = 1 := by rw [w1]; rfl
    obtain ⟨a1, a2, a3, a4⟩ := sT (k : Int) (by omega) (by omega)
    unfold TG
    repeat' split
    all_goals assumption)
  have hws : WS c w := by
    refine ⟨fun f hf => ?_, ?_, ?_, ?_, ?_, ?_⟩
    · obtain ⟨a1, a2, a3, a4⟩ := sT (f : Int) (by omega) (by omega)
      rw [a1, a2, a3, a4]
      exact ⟨Z22 _ (by omega) (by omega), Z22 _ (by omega) (by omega), Z22 _ (by omega) (by omega), Z22 _ (by omega) (by omega)⟩
    · rw [tT]
      exact Z22 3 (by omega) (by omega)
    · rw [tT]
      exact Z22 7 (by omega) (by omega)
    · rw [tT]
      exact Z22 11 (by omega) (by omega)
    · rw [tT]
      exact Z22 15 (by omega) (by omega)
    · rw [Z22 3 (by omega) (by omega), Z22 7 (by omega) (by omega), z19]
      exact ⟨by omega, by omega, by omega⟩
  have hwb : WB w := ⟨by omega, by omega, by omega, by omega, by omega, by omega, fun i i0 i1 => by have := W95 i i0 i1; omega⟩
  have hst : ST c w := ⟨Y4 0 (by omega) (by omega), Y4 1 (by omega) (by omega), Y4 2 (by omega) (by omega), Y4 3 (by omega) (by omega), Y4 4 (by omega) (by omega), Y4 5 (by omega) (by omega), Y28, Y11 0 (by omega) (by omega), Y11 1 (by omega) (by omega), Y11 2 (by omega) (by omega), by omega⟩
  have v40 := W40 40 (by omega) (by omega)
  have v41 := W40 41 (by omega) (by omega)
  have v42 := W40 42 (by omega) (by omega)
  have v43 := W40 43 (by omega) (by omega)
  have v44 := W40 44 (by omega) (by omega)
  have g13 := Z8 13 (by omega) (by omega)
  have g14 := Z8 14 (by omega) (by omega)
  have g15 := Z8 15 (by omega) (by omega)
  have g10 := Z8 10 (by omega) (by omega)
  have g11 := Z8 11 (by omega) (by omega)
  have g12 := Z8 12 (by omega) (by omega)
  have hld : LD c w := by
    refine ⟨by rw [Z27 2 (by omega) (by omega)]; exact w17.symm, by omega, ⟨fun i i0 i1 => by omega, fun j j0 j1 k k0 k1 => Z28 _ (by omega) (by omega)⟩, Y29, ?_⟩
    refine ⟨?_, ?_, ?_, ?_, ?_, ?_, by have := W21 25 (by omega) (by omega); omega, by have := W21 25 (by omega) (by omega); omega, by have := W21 26 (by omega) (by omega); omega, by have := W21 26 (by omega) (by omega); omega, by have := W21 27 (by omega) (by omega); omega, by have := W21 27 (by omega) (by omega); omega⟩
    · rw [Z27 3 (by omega) (by omega), W21 22 (by omega) (by omega)]
    · rw [Z27 4 (by omega) (by omega), W21 23 (by omega) (by omega)]
    · rw [Z27 5 (by omega) (by omega), W21 24 (by omega) (by omega)]
    · rw [Z27 6 (by omega) (by omega), W21 25 (by omega) (by omega)]
    · rw [Z27 7 (by omega) (by omega), W21 26 (by omega) (by omega)]
    · rw [Z27 8 (by omega) (by omega), W21 27 (by omega) (by omega)]
  have hod : OD c w := by
    unfold OD
    rw [Z27 9 (by omega) (by omega), W21 21 (by omega) (by omega), w8, if_pos (show (0 : Int) % 900 = 0 from rfl)]
  have hk : MK c w := by
    refine ⟨fun m m0 m1 => .inl (W40 _ (by omega) (by omega)), ?_, fun m m0 m1 => ?_, fun m m0 m1 => ?_, fun m m0 m1 => ?_⟩
    · unfold onV
      rw [v40, v41, v42, v43, v44, z33]
      rfl
    · rw [Z34 m m0 m1, W40 _ (by omega) (by omega)]
    · rw [Z35 m m0 m1, W40 _ (by omega) (by omega)]
    · rw [Z36 m m0 m1, W40 _ (by omega) (by omega)]
  have hl : LG c w := ⟨by rw [z37]; exact w16.symm, by omega, fun i i0 i1 => by omega⟩
  have hmv : MV c w := MV.of t0 ⟨by rw [g13]; exact W10 13 (by omega) (by omega), by rw [g14]; exact W10 14 (by omega) (by omega), by rw [g15]; exact W10 15 (by omega) (by omega)⟩ ⟨by rw [g10]; exact W10 10 (by omega) (by omega), by rw [g11]; exact W10 11 (by omega) (by omega), by rw [g12]; exact W10 12 (by omega) (by omega)⟩
    ⟨fun q t q0 q1 t0 t1 => by rw [W60 _ (by omega) (by omega), Z24 _ (by omega) (by omega)], fun q q0 q1 => by rw [W60 _ (by omega) (by omega), W60 _ (by omega) (by omega), W60 _ (by omega) (by omega), W60 _ (by omega) (by omega), W60 _ (by omega) (by omega)]; rfl⟩ hk hl ⟨y19, y20, Y31, Y32⟩ hld hod
  have hcb : CBD 0 0 c := by
    refine ⟨by omega, fun i i0 i1 => by have := Z24 i i0 i1; omega, fun i i0 i1 => by have := Z27 i (by omega) (by omega); omega, by have := Z27 6 (by omega) (by omega); omega, by omega, fun m m0 m1 => ?_, by omega, by have := Z27 7 (by omega) (by omega); omega, by omega, by have := Z27 8 (by omega) (by omega); omega⟩
    have q4 := Z34 m m0 m1
    have q5 := Z35 m m0 m1
    have q6 := Z36 m m0 m1
    omega
  have hsh : c 8 12 = shO (c 8 11) (c 8 10) := by
    rw [g12, g11, g10]
    rfl
  refine ⟨⟨hmv, ⟨p1, p2, hws, hst, hwb⟩, hcr, hcb, hsh, .inl g11⟩, ⟨by rw [w3, w1, w2]; decide, fun k k0 k1 => by omega⟩, ⟨by rw [z23]; exact w18.symm, by omega, fun q t q0 q1 t0 t1 => ?_, fun i i0 i1 => by omega, fun e q e0 e1 => by omega, fun e q t e0 e1 => by omega⟩, by omega, by omega, ?_⟩
  · rw [if_pos w18]
    exact Z25 _ (by omega) (by omega)
  · refine ⟨fun j j0 j1 => by rw [Z28 _ (by omega) (by omega)]; omega, fun t t0 t1 => by rw [of_decide_eq_true (kEv_at z31 t t0 (by omega))]; omega, fun i i0 i1 => by rw [Z25 i i0 i1, Z24 i i0 i1]; omega, fun j i j0 j1 i0 i1 => ?_, fun j k j0 j1 k0 k1 => ?_⟩
    · rw [of_decide_eq_true (kEv_at z26 (j * 33 + i) (by omega) (by omega))]
      omega
    · rw [of_decide_eq_true (kEv_at z26 (j * 33 + (28 + k)) (by omega) (by omega))]
      omega
def kRel3 (m : zM) : Bool := kRel m && (kW (m 4 45) && (kC (m 0) (m 4 45) && (kZ (m 0) && decide (m 4 44 3 = 0))))
theorem kRel3_ok {m : zM} (h : kRel3 m = true) : Rel3 0 m m := by
  unfold kRel3 at h
  simp only [Bool.and_eq_true, decide_eq_true_eq] at h
  obtain ⟨h1, h2, h3, h4, h5⟩ := h
  have r := kRel_ok h1
  exact ⟨r, kMY_ok r.1.2.2.2 h2 h3 h4, fun e => by omega⟩
