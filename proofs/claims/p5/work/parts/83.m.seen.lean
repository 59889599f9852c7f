/-! What of marks is seen in the period, on both sides. -/
theorem seen_tab : ∀ a b s : Fin 2, zand (zshr (zor (zor (4 * (a.val : Int)) (8 * (b.val : Int))) (16 * (s.val : Int))) 2) 1 = (a.val : Int) ∧ zand (zshr (zor (zor (4 * (a.val : Int)) (8 * (b.val : Int))) (16 * (s.val : Int))) 3) 1 = (b.val : Int) ∧ zand (zshr (zor (zor (4 * (a.val : Int)) (8 * (b.val : Int))) (16 * (s.val : Int))) 4) 1 = (s.val : Int) := by decide +kernel
theorem seen_loop {c r : zM} {g : Nat} {low : Int} {k : Int → Int → Int → Int → Int → Int} (hr : WB (r 4 45)) (h : WS (c g) (r 4 45)) (h1 : c g 19 3 = r 4 45 1) (h2 : c g 19 4 = r 4 45 2) (hlow : low = r 4 45 6) : ∀ (n n2 n3 n4 j : Nat) (a b d e s : Int), (j : Int) ≤ r 4 45 1 → r 4 45 1 - j < n → r 4 45 1 - j < n2 → r 4 45 1 - j < n3 → r 4 45 1 - j < n4 →
    ∃ a' b' d' e' s', fl34_16_1 k g low c n a b d e s j = k a' b' d' e' s' ∧ (∀ k2 : Int → Int → Int, fl225_6_1 k2 r n2 a b j = k2 a' b') ∧ (∀ k2 : Int → Int → Int, fl226_6_1 k2 r n3 e d j = k2 e' d') ∧ (s = 0 → fl227_2_1 (fun _ => 1) 0 r n4 j = if s' = 0 then 0 else 1) ∧ (s ≠ 0 → s' ≠ 0) := by
  intro n
  induction n with
  | zero =>
    intro n2 n3 n4 j a b d e s h0 g1 g2 g3 g4
    omega
  | succ n ih =>
    intro n2 n3 n4 j a b d e s h0 g1 g2 g3 g4
    obtain ⟨n2, rfl⟩ : ∃ q, n2 = q + 1 := ⟨n2 - 1, by omega⟩
    obtain ⟨n3, rfl⟩ : ∃ q, n3 = q + 1 := ⟨n3 - 1, by omega⟩
    obtain ⟨n4, rfl⟩ : ∃ q, n4 = q + 1 := ⟨n4 - 1, by omega⟩
    show ∃ a' b' d' e' s', fl34_16_1_b (fl34_16_1 k g low c n) k g low c a b d e s j = k a' b' d' e' s' ∧ (∀ k2 : Int → Int → Int, fl225_6_1_b (fl225_6_1 k2 r n2) k2 r a b j = k2 a' b') ∧ (∀ k2 : Int → Int → Int, fl226_6_1_b (fl226_6_1 k2 r n3) k2 r e d j = k2 e' d') ∧ (s = 0 → fl227_2_1_b (fl227_2_1 (fun _ => 1) 0 r n4) (fun _ => 1) 0 r j = if s' = 0 then 0 else 1) ∧ (s ≠ 0 → s' ≠ 0)
    unfold fl34_16_1_b fl225_6_1_b fl226_6_1_b fl227_2_1_b
    by_cases hj : r 4 45 1 ≤ (j : Int)
    · rw [if_pos (show c g 19 3 ≤ (j : Int) by omega)]
      refine ⟨a, b, d, e, s, rfl, fun k2 => by rw [if_pos hj], fun k2 => by rw [if_pos hj], fun hs => by rw [if_pos hj, if_pos hs], fun hs => hs⟩
    · obtain ⟨w1, w2, w3, w4⟩ := h.1 j (by omega)
      have nn := SQ_b hr (b := 143) (.inr rfl) (f := (j : Int)) (by omega) (by have := hr.2.1; omega)
      have nn2 := SQ_b hr (b := 95) (.inl rfl) (f := (j : Int)) (by omega) (by have := hr.2.1; omega)
      rw [if_neg (show ¬ c g 19 3 ≤ (j : Int) by omega)]
      simp only [zn_a]
      rw [Int.zero_add, w1, w3, w4, h2]
      obtain ⟨A, hA⟩ : ∃ A, A = (if a = 0 then (if (if SQ (r 4 45) 95 j < r 4 45 2 * low then (1 : Int) else 0) = 0 then (0 : Int) else 1) else 1) := ⟨_, rfl⟩
      obtain ⟨Bb, hBb⟩ : ∃ A, A = (if b = 0 then (if (if SQ (r 4 45) 95 j < r 4 45 2 * low then (1 : Int) else 0) = 0 then (1 : Int) else 0) else 1) := ⟨_, rfl⟩
      obtain ⟨Dd, hDd⟩ : ∃ A, A = (if d = 0 then (if AC (r 4 45) j ≤ 0 then (0 : Int) else 1) else 1) := ⟨_, rfl⟩
      obtain ⟨Ee, hEe⟩ : ∃ A, A = (if e = 0 then (if AC (r 4 45) j < 0 then (1 : Int) else 0) else 1) := ⟨_, rfl⟩
      obtain ⟨Ss, hSs⟩ : ∃ A, A = (if s = 0 then (if SQ (r 4 45) 95 j = 0 then (if SQ (r 4 45) 143 j ≤ 0 then (0 : Int) else 1) else 0) else 1) := ⟨_, rfl⟩
      rw [← hA, ← hBb, ← hDd, ← hEe, ← hSs]
      obtain ⟨a', b', d', e', s', q1, q2, q3, q4, q5⟩ := ih n2 n3 n4 (j + 1) A Bb Dd Ee Ss (by omega) (by omega) (by omega) (by omega) (by omega)
      rw [show ((j + 1 : Nat) : Int) = (j : Int) + 1 by omega] at q1 q2 q3 q4
      refine ⟨a', b', d', e', s', q1, fun k2 => ?_, fun k2 => ?_, fun hs => ?_, fun hs => ?_⟩
      · rw [if_neg hj, sq_r hr, ← hlow, ← hA, ← hBb]
        exact q2 k2
      · rw [if_neg hj, ac_r hr, ← hEe, ← hDd]
        exact q3 k2
      · rw [if_neg hj, sq_r hr, sq_r hr]
        rw [if_pos hs] at hSs
        by_cases z1 : SQ (r 4 45) 143 j ≤ 0
        · rw [if_pos z1]
          refine q4 ?_
          rw [hSs, if_pos z1]
          split <;> rfl
        · rw [if_neg z1]
          by_cases z2 : SQ (r 4 45) 95 j = 0
          · rw [if_pos z2]
            rw [if_pos z2, if_neg z1] at hSs
            rw [if_neg (q5 (by omega))]
          · rw [if_neg z2]
            refine q4 ?_
            rw [hSs, if_neg z2]
      · refine q5 ?_
        rw [hSs, if_neg hs]
        decide
theorem seen_T {c r : zM} {g : Nat} {low : Int} (hr : WB (r 4 45)) (h : WS (c g) (r 4 45)) (h1 : c g 19 3 = r 4 45 1) (h2 : c g 19 4 = r 4 45 2) (hlow : low = r 4 45 6) : ∀ y, 2 ≤ y → y < 5 → (soR y r = 0 ∨ soR y r = 1) ∧ (if zand (zshr (f34_1 g low c) y) 1 = 1 then (1 : Int) else 0) = soR y r := by
  have hp := hr.1
  have hp2 := hr.2.1
  obtain ⟨a, b, d, e, s, q1, q2, q3, q4, -⟩ := seen_loop (k := fun y501 y502 y503 y504 y505 => zn (if y501 = 0 then (0) else (if y502 = 0 then (0) else (4))) fun v512 => zn (if y503 = 0 then (0) else (if y504 = 0 then (0) else (8))) fun v519 => zn (zor v512 v519) fun z524 => zn (if y505 = 0 then (0) else (16)) fun v526 => zn (zor z524 v526) fun z531 => z531) hr h h1 h2 hlow (zfu 4) (zfu 4) (zfu 4) (zfu 4) 0 0 0 0 0 0 (by omega) (by rw [zfu_eq]; omega) (by rw [zfu_eq]; omega) (by rw [zfu_eq]; omega) (by rw [zfu_eq]; omega)
  have e34 : f34_1 g low c = zor (zor (if a = 0 then 0 else if b = 0 then 0 else 4) (if d = 0 then 0 else if e = 0 then 0 else 8)) (if s = 0 then 0 else 16) := q1
  have e2 : f225_1 r = if a = 0 then 0 else if b = 0 then 0 else 1 := q2 _
  have e3 : f226_1 r = if e = 0 then 0 else if d = 0 then 0 else 1 := q3 _
  have e4 : f227_1 r = if s = 0 then 0 else 1 := q4 rfl
  obtain ⟨A, hA, hA2⟩ : ∃ A : Fin 2, (if a = 0 then (0 : Int) else if b = 0 then 0 else 4) = 4 * (A.val : Int) ∧ (if a = 0 then (0 : Int) else if b = 0 then 0 else 1) = (A.val : Int) := by
    by_cases x1 : a = 0
    · exact ⟨0, by rw [if_pos x1]; rfl, by rw [if_pos x1]; rfl⟩
    · by_cases x2 : b = 0
      · exact ⟨0, by rw [if_neg x1, if_pos x2]; rfl, by rw [if_neg x1, if_pos x2]; rfl⟩
      · exact ⟨1, by rw [if_neg x1, if_neg x2]; rfl, by rw [if_neg x1, if_neg x2]; rfl⟩
  obtain ⟨D, hD, hD2⟩ : ∃ A : Fin 2, (if d = 0 then (0 : Int) else if e = 0 then 0 else 8) = 8 * (A.val : Int) ∧ (if e = 0 then (0 : Int) else if d = 0 then 0 else 1) = (A.val : Int) := by
    by_cases x1 : d = 0
    · exact ⟨0, by rw [if_pos x1]; rfl, by rw [if_pos x1]; split <;> rfl⟩
    · by_cases x2 : e = 0
      · exact ⟨0, by rw [if_neg x1, if_pos x2]; rfl, by rw [if_pos x2]; rfl⟩
      · exact ⟨1, by rw [if_neg x1, if_neg x2]; rfl, by rw [if_neg x2, if_neg x1]; rfl⟩
  obtain ⟨S, hS, hS2⟩ : ∃ A : Fin 2, (if s = 0 then (0 : Int) else 16) = 16 * (A.val : Int) ∧ (if s = 0 then (0 : Int) else 1) = (A.val : Int) := by
    by_cases x1 : s = 0
    · exact ⟨0, by rw [if_pos x1]; rfl, by rw [if_pos x1]; rfl⟩
    · exact ⟨1, by rw [if_neg x1]; rfl, by rw [if_neg x1]; rfl⟩
  rw [hA2] at e2
  rw [hD2] at e3
  rw [hS2] at e4
  rw [hA, hD, hS] at e34
  obtain ⟨t2, t3, t4⟩ := seen_tab A D S
  have key : ∀ F : Fin 2, ((F.val : Int) = 0 ∨ (F.val : Int) = 1) ∧ (if (F.val : Int) = 1 then (1 : Int) else 0) = (F.val : Int) := by decide
  intro y y0 y1
  unfold soR
  rw [e34]
  rcases (show y = 2 ∨ y = 3 ∨ y = 4 by omega) with rfl | rfl | rfl
  · rw [if_pos rfl, e2, t2]
    exact key A
  · rw [if_neg (by decide), if_pos rfl, e3, t3]
    exact key D
  · rw [if_neg (by decide), if_neg (by decide), e4, t4]
    exact key S
