/-! words -/
theorem ite0 {p : Prop} [Decidable p] {x : Int} (h : p → x = 0) : (if p then x else 0) = 0 := by
  by_cases c : p
  · rw [if_pos c]
    exact h c
  · rw [if_neg c]
theorem let_loop {c r : zM} (h : TP c r) : ∀ (n n2 : Nat) (y : Int), 0 ≤ y → y ≤ c 4 41 3 → c 4 41 3 - y < n → c 4 41 3 - y < n2 →
    ∃ e, fl95_5_1 (fun y => y - c 4 41 7) c n y = e - c 4 41 7 ∧ fl267_5_1 (fun y => y) r n2 y = e ∧ y ≤ e ∧ e ≤ c 4 41 3 := by
  intro n
  induction n with
  | zero =>
    intro n2 y h0 h1 h2
    omega
  | succ n ih =>
    intro n2 y h0 h1 h2 h3
    obtain ⟨n2, rfl⟩ : ∃ j, n2 = j + 1 := ⟨n2 - 1, by omega⟩
    show ∃ e, fl95_5_1_b (fl95_5_1 (fun y => y - c 4 41 7) c n) (fun y => y - c 4 41 7) c y = e - c 4 41 7 ∧ fl267_5_1_b (fl267_5_1 (fun y => y) r n2) (fun y => y) r y = e ∧ y ≤ e ∧ e ≤ c 4 41 3
    unfold fl95_5_1_b fl267_5_1_b
    rw [← h.1]
    by_cases c1 : c 4 41 3 ≤ y
    · rw [if_pos c1, if_pos c1]
      exact ⟨y, rfl, rfl, Int.le_refl _, h1⟩
    · rw [if_neg c1, if_neg c1]
      have ht := h.2.2.1 y h0 (by omega)
      by_cases c2 : 97 ≤ c 4 42 y ∧ c 4 42 y ≤ 122
      · rw [if_neg (by omega), if_neg (by omega), if_neg (by unfold tE at ht; omega), if_pos (by unfold tE at ht; omega)]
        obtain ⟨e, e1, e2, e3, e4⟩ := ih n2 (y + 1) (by omega) (by omega) (by omega) (by omega)
        exact ⟨e, e1, e2, by omega, e4⟩
      · refine ⟨y, ?_, ?_, Int.le_refl _, h1⟩
        · by_cases c3 : c 4 42 y < 97
          · rw [if_pos c3]
          · rw [if_neg c3, if_pos (by omega)]
        · by_cases c3 : r 4 48 y < 97
          · rw [if_pos c3]
          · rw [if_neg c3, if_neg (by unfold tE at ht; omega)]
theorem let_eq {c r : zM} (h : TP c r) : f267_1 r = c 4 41 7 + f95_1 c ∧ 0 ≤ f95_1 c ∧ c 4 41 7 + f95_1 c ≤ c 4 41 3 := by
  obtain ⟨e, e1, e2, e3, e4⟩ := let_loop h (zfu 301) (zfu 301) (c 4 41 7) h.2.2.2.1 h.2.2.2.2.1 (by rw [zfu_eq]; have := h.2.1; have := h.2.2.2.1; omega) (by rw [zfu_eq]; have := h.2.1; have := h.2.2.2.1; omega)
  unfold f267_1 f95_1
  rw [← h.2.2.2.2.2, e1, e2]
  omega
theorem sp1_loop {c : zM} : ∀ (n : Nat) (j : Int), 0 ≤ j → j ≤ 5 → 5 - j < n →
    (fl96_25_1 (fun _ => 0) 1 5 c n j = 1 ∧ ∀ i, j ≤ i → i < 5 → c 4 42 (c 4 41 7 + i) = zch 4 i) ∨ (fl96_25_1 (fun _ => 0) 1 5 c n j = 0 ∧ ∃ i, j ≤ i ∧ i < 5 ∧ c 4 42 (c 4 41 7 + i) ≠ zch 4 i) := by
  intro n
  induction n with
  | zero =>
    intro j h0 h1 h2
    omega
  | succ n ih =>
    intro j h0 h1 h2
    have e : fl96_25_1 (fun _ => 0) 1 5 c (n + 1) j = fl96_25_1_b (fl96_25_1 (fun _ => 0) 1 5 c n) (fun _ => 0) 1 5 c j := rfl
    rw [e]
    unfold fl96_25_1_b
    by_cases c1 : 5 ≤ j
    · rw [if_pos c1]
      exact .inl ⟨rfl, fun i i0 i1 => by omega⟩
    · rw [if_neg c1]
      simp only [zn]
      by_cases c2 : c 4 42 (c 4 41 7 + j) = zch 4 j
      · rw [if_pos c2]
        rcases ih (j + 1) (by omega) (by omega) (by omega) with ⟨g1, g2⟩ | ⟨g1, i, i0, i1, i2⟩
        · refine .inl ⟨g1, fun i i0 i1 => ?_⟩
          by_cases e9 : i = j
          · rw [e9]
            exact c2
          · exact g2 i (by omega) i1
        · exact .inr ⟨g1, i, by omega, i1, i2⟩
      · rw [if_neg c2]
        exact .inr ⟨rfl, j, Int.le_refl _, by omega, c2⟩
theorem word1_eq {c r : zM} (h : TP c r) : f96_1 (f95_1 c) c = f266_1 5 116 97 98 108 101 0 0 r ∧ (f96_1 (f95_1 c) c = 0 ∨ (f96_1 (f95_1 c) c = 1 ∧ f95_1 c = 5)) := by
  obtain ⟨l1, l2, l3⟩ := let_eq h
  have hp := h.2.2.2.1
  unfold f266_1
  simp only [zn]
  rw [l1, ← h.2.2.2.2.2]
  by_cases c1 : f95_1 c = 5
  · have ht : ∀ i, 0 ≤ i → i < 5 → tE (c 4 42 (c 4 41 7 + i)) (r 4 48 (c 4 41 7 + i)) := fun i i0 i1 => h.2.2.1 _ (by omega) (by omega)
    have e : f96_1 (f95_1 c) c = fl96_25_1 (fun _ => 0) 1 5 c (zfu 6) 0 := by
      unfold f96_1
      rw [c1, if_pos rfl, if_pos (by omega)]
    rw [e, c1, if_pos rfl]
    have z0 : zch 4 0 = 116 := by decide +kernel
    have z1 : zch 4 1 = 97 := by decide +kernel
    have z2 : zch 4 2 = 98 := by decide +kernel
    have z3 : zch 4 3 = 108 := by decide +kernel
    have z4 : zch 4 4 = 101 := by decide +kernel
    have t0 := ht 0 (by decide) (by decide)
    have t1 := ht 1 (by decide) (by decide)
    have t2 := ht 2 (by decide) (by decide)
    have t3 := ht 3 (by decide) (by decide)
    have t4 := ht 4 (by decide) (by decide)
    rw [Int.add_zero] at t0
    rcases sp1_loop (c := c) (zfu 6) 0 (by omega) (by omega) (by rw [zfu_eq]; decide) with ⟨g1, g2⟩ | ⟨g1, i, i0, i1, i2⟩
    · rw [g1]
      have d0 := g2 0 (by decide) (by decide)
      have d1 := g2 1 (by decide) (by decide)
      have d2 := g2 2 (by decide) (by decide)
      have d3 := g2 3 (by decide) (by decide)
      have d4 := g2 4 (by decide) (by decide)
      rw [Int.add_zero] at d0
      unfold tE at t0 t1 t2 t3 t4
      rw [if_pos (show r 4 48 (c 4 41 7) = 116 by omega), if_pos (show r 4 48 (c 4 41 7 + 1) = 97 by omega), if_pos (show r 4 48 (c 4 41 7 + 2) = 98 by omega), if_pos (show r 4 48 (c 4 41 7 + 3) = 108 by omega), if_pos (show r 4 48 (c 4 41 7 + 4) = 101 by omega), if_pos (by decide)]
      exact ⟨rfl, .inr ⟨rfl, rfl⟩⟩
    · rw [g1]
      refine ⟨?_, .inl rfl⟩
      symm
      rcases (show i = 0 ∨ i = 1 ∨ i = 2 ∨ i = 3 ∨ i = 4 by omega) with rfl | rfl | rfl | rfl | rfl
      · rw [Int.add_zero] at i2
        unfold tE at t0
        exact ite0 fun _ => (by exfalso; omega)
      · unfold tE at t1
        exact ite0 fun _ => ite0 fun _ => (by exfalso; omega)
      · unfold tE at t2
        exact ite0 fun _ => ite0 fun _ => ite0 fun _ => (by exfalso; omega)
      · unfold tE at t3
        exact ite0 fun _ => ite0 fun _ => ite0 fun _ => ite0 fun _ => (by exfalso; omega)
      · unfold tE at t4
        exact ite0 fun _ => ite0 fun _ => ite0 fun _ => ite0 fun _ => ite0 fun _ => (by exfalso; omega)
  · rw [if_neg (by omega)]
    have e : f96_1 (f95_1 c) c = 0 := by
      unfold f96_1
      rw [if_neg c1]
    exact ⟨e, .inl e⟩
theorem sp2_loop {c : zM} : ∀ (n : Nat) (j : Int), 0 ≤ j → j ≤ 6 → 6 - j < n →
    (fl96_25_2 (fun _ => 0) 1 6 c n j = 1 ∧ ∀ i, j ≤ i → i < 6 → c 4 42 (c 4 41 7 + i) = zch 5 i) ∨ (fl96_25_2 (fun _ => 0) 1 6 c n j = 0 ∧ ∃ i, j ≤ i ∧ i < 6 ∧ c 4 42 (c 4 41 7 + i) ≠ zch 5 i) := by
  intro n
  induction n with
  | zero =>
    intro j h0 h1 h2
    omega
  | succ n ih =>
    intro j h0 h1 h2
    have e : fl96_25_2 (fun _ => 0) 1 6 c (n + 1) j = fl96_25_2_b (fl96_25_2 (fun _ => 0) 1 6 c n) (fun _ => 0) 1 6 c j := rfl
    rw [e]
    unfold fl96_25_2_b
    by_cases c1 : 6 ≤ j
    · rw [if_pos c1]
      exact .inl ⟨rfl, fun i i0 i1 => by omega⟩
    · rw [if_neg c1]
      simp only [zn]
      by_cases c2 : c 4 42 (c 4 41 7 + j) = zch 5 j
      · rw [if_pos c2]
        rcases ih (j + 1) (by omega) (by omega) (by omega) with ⟨g1, g2⟩ | ⟨g1, i, i0, i1, i2⟩
        · refine .inl ⟨g1, fun i i0 i1 => ?_⟩
          by_cases e9 : i = j
          · rw [e9]
            exact c2
          · exact g2 i (by omega) i1
        · exact .inr ⟨g1, i, by omega, i1, i2⟩
      · rw [if_neg c2]
        exact .inr ⟨rfl, j, Int.le_refl _, by omega, c2⟩
theorem word2_eq {c r : zM} (h : TP c r) : f96_2 (f95_1 c) c = f266_1 6 115 101 97 115 111 110 0 r ∧ (f96_2 (f95_1 c) c = 0 ∨ (f96_2 (f95_1 c) c = 1 ∧ f95_1 c = 6)) := by
  obtain ⟨l1, l2, l3⟩ := let_eq h
  have hp := h.2.2.2.1
  unfold f266_1
  simp only [zn]
  rw [l1, ← h.2.2.2.2.2]
  by_cases c1 : f95_1 c = 6
  · have ht : ∀ i, 0 ≤ i → i < 6 → tE (c 4 42 (c 4 41 7 + i)) (r 4 48 (c 4 41 7 + i)) := fun i i0 i1 => h.2.2.1 _ (by omega) (by omega)
    have e : f96_2 (f95_1 c) c = fl96_25_2 (fun _ => 0) 1 6 c (zfu 7) 0 := by
      unfold f96_2
      rw [c1, if_pos rfl, if_pos (by omega)]
    rw [e, c1, if_pos rfl]
    have z0 : zch 5 0 = 115 := by decide +kernel
    have z1 : zch 5 1 = 101 := by decide +kernel
    have z2 : zch 5 2 = 97 := by decide +kernel
    have z3 : zch 5 3 = 115 := by decide +kernel
    have z4 : zch 5 4 = 111 := by decide +kernel
    have z5 : zch 5 5 = 110 := by decide +kernel
    have t0 := ht 0 (by decide) (by decide)
    have t1 := ht 1 (by decide) (by decide)
    have t2 := ht 2 (by decide) (by decide)
    have t3 := ht 3 (by decide) (by decide)
    have t4 := ht 4 (by decide) (by decide)
    have t5 := ht 5 (by decide) (by decide)
    rw [Int.add_zero] at t0
    rcases sp2_loop (c := c) (zfu 7) 0 (by omega) (by omega) (by rw [zfu_eq]; decide) with ⟨g1, g2⟩ | ⟨g1, i, i0, i1, i2⟩
    · rw [g1]
      have d0 := g2 0 (by decide) (by decide)
      have d1 := g2 1 (by decide) (by decide)
      have d2 := g2 2 (by decide) (by decide)
      have d3 := g2 3 (by decide) (by decide)
      have d4 := g2 4 (by decide) (by decide)
      have d5 := g2 5 (by decide) (by decide)
      rw [Int.add_zero] at d0
      unfold tE at t0 t1 t2 t3 t4 t5
      rw [if_pos (show r 4 48 (c 4 41 7) = 115 by omega), if_pos (show r 4 48 (c 4 41 7 + 1) = 101 by omega), if_pos (show r 4 48 (c 4 41 7 + 2) = 97 by omega), if_pos (show r 4 48 (c 4 41 7 + 3) = 115 by omega), if_pos (show r 4 48 (c 4 41 7 + 4) = 111 by omega), if_neg (by decide), if_pos (show r 4 48 (c 4 41 7 + 5) = 110 by omega), if_pos (by decide)]
      exact ⟨rfl, .inr ⟨rfl, rfl⟩⟩
    · rw [g1]
      refine ⟨?_, .inl rfl⟩
      symm
      rcases (show i = 0 ∨ i = 1 ∨ i = 2 ∨ i = 3 ∨ i = 4 ∨ i = 5 by omega) with rfl | rfl | rfl | rfl | rfl | rfl
      · rw [Int.add_zero] at i2
        unfold tE at t0
        exact ite0 fun _ => (by exfalso; omega)
      · unfold tE at t1
        exact ite0 fun _ => ite0 fun _ => (by exfalso; omega)
      · unfold tE at t2
        exact ite0 fun _ => ite0 fun _ => ite0 fun _ => (by exfalso; omega)
      · unfold tE at t3
        exact ite0 fun _ => ite0 fun _ => ite0 fun _ => ite0 fun _ => (by exfalso; omega)
      · unfold tE at t4
        exact ite0 fun _ => ite0 fun _ => ite0 fun _ => ite0 fun _ => ite0 fun _ => (by exfalso; omega)
      · unfold tE at t5
        exact ite0 fun _ => ite0 fun _ => ite0 fun _ => ite0 fun _ => ite0 fun _ => (by rw [if_neg (by decide)]; exact ite0 fun _ => (by exfalso; omega))
  · rw [if_neg (by omega)]
    have e : f96_2 (f95_1 c) c = 0 := by
      unfold f96_2
      rw [if_neg c1]
    exact ⟨e, .inl e⟩
theorem sp3_loop {c : zM} : ∀ (n : Nat) (j : Int), 0 ≤ j → j ≤ 7 → 7 - j < n →
    (fl96_25_3 (fun _ => 0) 1 7 c n j = 1 ∧ ∀ i, j ≤ i → i < 7 → c 4 42 (c 4 41 7 + i) = zch 6 i) ∨ (fl96_25_3 (fun _ => 0) 1 7 c n j = 0 ∧ ∃ i, j ≤ i ∧ i < 7 ∧ c 4 42 (c 4 41 7 + i) ≠ zch 6 i) := by
  intro n
  induction n with
  | zero =>
    intro j h0 h1 h2
    omega
  | succ n ih =>
    intro j h0 h1 h2
    have e : fl96_25_3 (fun _ => 0) 1 7 c (n + 1) j = fl96_25_3_b (fl96_25_3 (fun _ => 0) 1 7 c n) (fun _ => 0) 1 7 c j := rfl
    rw [e]
    unfold fl96_25_3_b
    by_cases c1 : 7 ≤ j
    · rw [if_pos c1]
      exact .inl ⟨rfl, fun i i0 i1 => by omega⟩
    · rw [if_neg c1]
      simp only [zn]
      by_cases c2 : c 4 42 (c 4 41 7 + j) = zch 6 j
      · rw [if_pos c2]
        rcases ih (j + 1) (by omega) (by omega) (by omega) with ⟨g1, g2⟩ | ⟨g1, i, i0, i1, i2⟩
        · refine .inl ⟨g1, fun i i0 i1 => ?_⟩
          by_cases e9 : i = j
          · rw [e9]
            exact c2
          · exact g2 i (by omega) i1
        · exact .inr ⟨g1, i, by omega, i1, i2⟩
      · rw [if_neg c2]
        exact .inr ⟨rfl, j, Int.le_refl _, by omega, c2⟩
theorem word3_eq {c r : zM} (h : TP c r) : f96_3 (f95_1 c) c = f266_1 7 115 112 101 99 105 97 108 r ∧ (f96_3 (f95_1 c) c = 0 ∨ (f96_3 (f95_1 c) c = 1 ∧ f95_1 c = 7)) := by
  obtain ⟨l1, l2, l3⟩ := let_eq h
  have hp := h.2.2.2.1
  unfold f266_1
  simp only [zn]
  rw [l1, ← h.2.2.2.2.2]
  by_cases c1 : f95_1 c = 7
  · have ht : ∀ i, 0 ≤ i → i < 7 → tE (c 4 42 (c 4 41 7 + i)) (r 4 48 (c 4 41 7 + i)) := fun i i0 i1 => h.2.2.1 _ (by omega) (by omega)
    have e : f96_3 (f95_1 c) c = fl96_25_3 (fun _ => 0) 1 7 c (zfu 8) 0 := by
      unfold f96_3
      rw [c1, if_pos rfl, if_pos (by omega)]
    rw [e, c1, if_pos rfl]
    have z0 : zch 6 0 = 115 := by decide +kernel
    have z1 : zch 6 1 = 112 := by decide +kernel
    have z2 : zch 6 2 = 101 := by decide +kernel
    have z3 : zch 6 3 = 99 := by decide +kernel
    have z4 : zch 6 4 = 105 := by decide +kernel
    have z5 : zch 6 5 = 97 := by decide +kernel
    have z6 : zch 6 6 = 108 := by decide +kernel
    have t0 := ht 0 (by decide) (by decide)
    have t1 := ht 1 (by decide) (by decide)
    have t2 := ht 2 (by decide) (by decide)
    have t3 := ht 3 (by decide) (by decide)
    have t4 := ht 4 (by decide) (by decide)
    have t5 := ht 5 (by decide) (by decide)
    have t6 := ht 6 (by decide) (by decide)
    rw [Int.add_zero] at t0
    rcases sp3_loop (c := c) (zfu 8) 0 (by omega) (by omega) (by rw [zfu_eq]; decide) with ⟨g1, g2⟩ | ⟨g1, i, i0, i1, i2⟩
    · rw [g1]
      have d0 := g2 0 (by decide) (by decide)
      have d1 := g2 1 (by decide) (by decide)
      have d2 := g2 2 (by decide) (by decide)
      have d3 := g2 3 (by decide) (by decide)
      have d4 := g2 4 (by decide) (by decide)
      have d5 := g2 5 (by decide) (by decide)
      have d6 := g2 6 (by decide) (by decide)
      rw [Int.add_zero] at d0
      unfold tE at t0 t1 t2 t3 t4 t5 t6
      rw [if_pos (show r 4 48 (c 4 41 7) = 115 by omega), if_pos (show r 4 48 (c 4 41 7 + 1) = 112 by omega), if_pos (show r 4 48 (c 4 41 7 + 2) = 101 by omega), if_pos (show r 4 48 (c 4 41 7 + 3) = 99 by omega), if_pos (show r 4 48 (c 4 41 7 + 4) = 105 by omega), if_neg (by decide), if_pos (show r 4 48 (c 4 41 7 + 5) = 97 by omega), if_neg (by decide), if_pos (show r 4 48 (c 4 41 7 + 6) = 108 by omega)]
      exact ⟨rfl, .inr ⟨rfl, rfl⟩⟩
    · rw [g1]
      refine ⟨?_, .inl rfl⟩
      symm
      rcases (show i = 0 ∨ i = 1 ∨ i = 2 ∨ i = 3 ∨ i = 4 ∨ i = 5 ∨ i = 6 by omega) with rfl | rfl | rfl | rfl | rfl | rfl | rfl
      · rw [Int.add_zero] at i2
        unfold tE at t0
        exact ite0 fun _ => (by exfalso; omega)
      · unfold tE at t1
        exact ite0 fun _ => ite0 fun _ => (by exfalso; omega)
      · unfold tE at t2
        exact ite0 fun _ => ite0 fun _ => ite0 fun _ => (by exfalso; omega)
      · unfold tE at t3
        exact ite0 fun _ => ite0 fun _ => ite0 fun _ => ite0 fun _ => (by exfalso; omega)
      · unfold tE at t4
        exact ite0 fun _ => ite0 fun _ => ite0 fun _ => ite0 fun _ => ite0 fun _ => (by exfalso; omega)
      · unfold tE at t5
        exact ite0 fun _ => ite0 fun _ => ite0 fun _ => ite0 fun _ => ite0 fun _ => (by rw [if_neg (by decide)]; exact ite0 fun _ => (by exfalso; omega))
      · unfold tE at t6
        exact ite0 fun _ => ite0 fun _ => ite0 fun _ => ite0 fun _ => ite0 fun _ => (by rw [if_neg (by decide)]; exact ite0 fun _ => (by rw [if_neg (by decide)]; exact if_neg (fun _ => (by omega))))
  · rw [if_neg (by omega)]
    have e : f96_3 (f95_1 c) c = 0 := by
      unfold f96_3
      rw [if_neg c1]
    exact ⟨e, .inl e⟩
theorem sp4_loop {c : zM} : ∀ (n : Nat) (j : Int), 0 ≤ j → j ≤ 5 → 5 - j < n →
    (fl96_25_4 (fun _ => 0) 1 5 c n j = 1 ∧ ∀ i, j ≤ i → i < 5 → c 4 42 (c 4 41 7 + i) = zch 7 i) ∨ (fl96_25_4 (fun _ => 0) 1 5 c n j = 0 ∧ ∃ i, j ≤ i ∧ i < 5 ∧ c 4 42 (c 4 41 7 + i) ≠ zch 7 i) := by
  intro n
  induction n with
  | zero =>
    intro j h0 h1 h2
    omega
  | succ n ih =>
    intro j h0 h1 h2
    have e : fl96_25_4 (fun _ => 0) 1 5 c (n + 1) j = fl96_25_4_b (fl96_25_4 (fun _ => 0) 1 5 c n) (fun _ => 0) 1 5 c j := rfl
    rw [e]
    unfold fl96_25_4_b
    by_cases c1 : 5 ≤ j
    · rw [if_pos c1]
      exact .inl ⟨rfl, fun i i0 i1 => by omega⟩
    · rw [if_neg c1]
      simp only [zn]
      by_cases c2 : c 4 42 (c 4 41 7 + j) = zch 7 j
      · rw [if_pos c2]
        rcases ih (j + 1) (by omega) (by omega) (by omega) with ⟨g1, g2⟩ | ⟨g1, i, i0, i1, i2⟩
        · refine .inl ⟨g1, fun i i0 i1 => ?_⟩
          by_cases e9 : i = j
          · rw [e9]
            exact c2
          · exact g2 i (by omega) i1
        · exact .inr ⟨g1, i, by omega, i1, i2⟩
      · rw [if_neg c2]
        exact .inr ⟨rfl, j, Int.le_refl _, by omega, c2⟩
theorem word4_eq {c r : zM} (h : TP c r) : f96_4 (f95_1 c) c = f266_1 5 112 114 105 99 101 0 0 r ∧ (f96_4 (f95_1 c) c = 0 ∨ (f96_4 (f95_1 c) c = 1 ∧ f95_1 c = 5)) := by
  obtain ⟨l1, l2, l3⟩ := let_eq h
  have hp := h.2.2.2.1
  unfold f266_1
  simp only [zn]
  rw [l1, ← h.2.2.2.2.2]
  by_cases c1 : f95_1 c = 5
  · have ht : ∀ i, 0 ≤ i → i < 5 → tE (c 4 42 (c 4 41 7 + i)) (r 4 48 (c 4 41 7 + i)) := fun i i0 i1 => h.2.2.1 _ (by omega) (by omega)
    have e : f96_4 (f95_1 c) c = fl96_25_4 (fun _ => 0) 1 5 c (zfu 6) 0 := by
      unfold f96_4
      rw [c1, if_pos rfl, if_pos (by omega)]
    rw [e, c1, if_pos rfl]
    have z0 : zch 7 0 = 112 := by decide +kernel
    have z1 : zch 7 1 = 114 := by decide +kernel
    have z2 : zch 7 2 = 105 := by decide +kernel
    have z3 : zch 7 3 = 99 := by decide +kernel
    have z4 : zch 7 4 = 101 := by decide +kernel
    have t0 := ht 0 (by decide) (by decide)
    have t1 := ht 1 (by decide) (by decide)
    have t2 := ht 2 (by decide) (by decide)
    have t3 := ht 3 (by decide) (by decide)
    have t4 := ht 4 (by decide) (by decide)
    rw [Int.add_zero] at t0
    rcases sp4_loop (c := c) (zfu 6) 0 (by omega) (by omega) (by rw [zfu_eq]; decide) with ⟨g1, g2⟩ | ⟨g1, i, i0, i1, i2⟩
    · rw [g1]
      have d0 := g2 0 (by decide) (by decide)
      have d1 := g2 1 (by decide) (by decide)
      have d2 := g2 2 (by decide) (by decide)
      have d3 := g2 3 (by decide) (by decide)
      have d4 := g2 4 (by decide) (by decide)
      rw [Int.add_zero] at d0
      unfold tE at t0 t1 t2 t3 t4
      rw [if_pos (show r 4 48 (c 4 41 7) = 112 by omega), if_pos (show r 4 48 (c 4 41 7 + 1) = 114 by omega), if_pos (show r 4 48 (c 4 41 7 + 2) = 105 by omega), if_pos (show r 4 48 (c 4 41 7 + 3) = 99 by omega), if_pos (show r 4 48 (c 4 41 7 + 4) = 101 by omega), if_pos (by decide)]
      exact ⟨rfl, .inr ⟨rfl, rfl⟩⟩
    · rw [g1]
      refine ⟨?_, .inl rfl⟩
      symm
      rcases (show i = 0 ∨ i = 1 ∨ i = 2 ∨ i = 3 ∨ i = 4 by omega) with rfl | rfl | rfl | rfl | rfl
      · rw [Int.add_zero] at i2
        unfold tE at t0
        exact ite0 fun _ => (by exfalso; omega)
      · unfold tE at t1
        exact ite0 fun _ => ite0 fun _ => (by exfalso; omega)
      · unfold tE at t2
        exact ite0 fun _ => ite0 fun _ => ite0 fun _ => (by exfalso; omega)
      · unfold tE at t3
        exact ite0 fun _ => ite0 fun _ => ite0 fun _ => ite0 fun _ => (by exfalso; omega)
      · unfold tE at t4
        exact ite0 fun _ => ite0 fun _ => ite0 fun _ => ite0 fun _ => ite0 fun _ => (by exfalso; omega)
  · rw [if_neg (by omega)]
    have e : f96_4 (f95_1 c) c = 0 := by
      unfold f96_4
      rw [if_neg c1]
    exact ⟨e, .inl e⟩
