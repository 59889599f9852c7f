/-! A second in which nothing turns, as the reference has it. -/
theorem secs144 {k : zM → zM} : ∀ (n : Nat) (y : Int) (m : zM), 0 ≤ y → y ≤ 5 → 5 - y < n → ∃ m', fl224_144_1 k n y m = k m' ∧ (∀ g k, (g ≠ 4 ∨ k ≠ 45) → m' g k = m g k) ∧ (∀ i, y ≤ i → i < 5 → m' 4 45 (50 + i) = w64 (m 4 45 (50 + i) + m 4 45 (40 + i))) ∧ (∀ i, (i < 50 + y ∨ 55 ≤ i) → m' 4 45 i = m 4 45 i)
  | 0, y, m, h0, h1, h2 => by omega
  | n + 1, y, m, h0, h1, h2 => by
    show ∃ m', fl224_144_1_b (fl224_144_1 k n) k y m = k m' ∧ _
    unfold fl224_144_1_b
    by_cases h : 5 ≤ y
    · rw [if_pos h]
      exact ⟨m, rfl, fun _ _ _ => rfl, fun i i0 i1 => by omega, fun _ _ => rfl⟩
    · rw [if_neg h, zn_a, zs_a]
      obtain ⟨m', e, e1, e2, e3⟩ := secs144 (k := k) n (y + 1) (z_upd m 4 45 (50 + y) (w64 (m 4 45 (50 + y) + m 4 45 (40 + y)))) (by omega) (by omega) (by omega)
      refine ⟨m', e, fun g' k' hk => ?_, fun i i0 i1 => ?_, fun i hi => ?_⟩
      · rw [e1 g' k' hk]
        rcases hk with hk | hk
        · rw [zu_g _ _ _ hk]
        · rw [zu_k _ _ _ hk]
      · by_cases e4 : i = y
        · rw [e3 _ (by omega), zu_row, e4, fu_s]
        · rw [e2 i (by omega) i1, zu_row, fu_i _ _ (by omega), fu_i _ _ (by omega)]
      · rw [e3 i (by omega), zu_row, fu_i _ _ (by omega)]
/-- the marks of a second, unrolled -/
theorem f224_u (m : zM) : ∃ m', f224_1 m = m' ∧ (∃ m1 m2 m3, m1 = rB 2 (soR 2 m) m ∧ m2 = rB 3 (soR 3 m1) m1 ∧ m3 = rB 4 (soR 4 m2) m2 ∧ (∀ g k, (g ≠ 4 ∨ k ≠ 45) → m' g k = m3 g k) ∧ (∀ i, 0 ≤ i → i < 5 → m' 4 45 (50 + i) = w64 (m3 4 45 (50 + i) + m3 4 45 (40 + i))) ∧ (∀ i, (i < 50 ∨ 55 ≤ i) → m' 4 45 i = m3 4 45 i)) := by
  refine ⟨_, rfl, _, _, _, rfl, rfl, rfl, ?_⟩
  have e : f224_1 m = fl224_144_1 (fun m505 => m505) (zfu 6) 0 (rB 4 (soR 4 (rB 3 (soR 3 (rB 2 (soR 2 m) m)) (rB 2 (soR 2 m) m))) (rB 3 (soR 3 (rB 2 (soR 2 m) m)) (rB 2 (soR 2 m) m))) := by
    unfold f224_1
    rw [zfu_eq 4]
    refine (f224_s 3 2 m (by omega)).trans ((f224_s 2 3 _ (by omega)).trans ((f224_s 1 4 _ (by omega)).trans ?_))
    show fl224_2_1_b (fl224_2_1 (fun m501 => fl224_144_1 (fun m505 => m505) (zfu 6) 0 m501) 0) (fun m501 => fl224_144_1 (fun m505 => m505) (zfu 6) 0 m501) 5 _ = _
    unfold fl224_2_1_b
    rw [if_pos (by omega)]
  rw [e]
  obtain ⟨m', e1, e2, e3, e4⟩ := secs144 (k := fun m505 => m505) (zfu 6) 0 (rB 4 (soR 4 (rB 3 (soR 3 (rB 2 (soR 2 m) m)) (rB 2 (soR 2 m) m))) (rB 3 (soR 3 (rB 2 (soR 2 m) m)) (rB 2 (soR 2 m) m))) (by omega) (by omega) (by rw [zfu_eq]; omega)
  rw [e1]
  exact ⟨e2, fun i i0 i1 => e3 i i0 i1, fun i hi => e4 i (by omega)⟩
/-- one mark, nothing turns -/
theorem rB_q {m : zM} {y s : Int} (hs : s = 0 ∨ s = 1) (hb : m 4 45 (40 + y) = 0 ∨ m 4 45 (40 + y) = 1) (h55 : 0 ≤ m 4 45 (55 + y) ∧ m 4 45 (55 + y) ≤ 1000000000) (hd : 0 ≤ m 4 45 7) (hy : 2 ≤ y ∧ y < 5) (q1 : m 4 45 (40 + y) = 1 → s = 1) (q2 : m 4 45 (40 + y) = 0 → s = 1 → m 4 45 (55 + y) + 1 ≤ m 4 45 7) :
    (∀ i, rB y s m 4 45 i = if i = 55 + y then (if s = 1 then m 4 45 (55 + y) + 1 else 0) else m 4 45 i) ∧ ∀ g k, (g ≠ 4 ∨ k ≠ 45) → rB y s m g k = m g k := by
  obtain ⟨L, hL⟩ : ∃ L, L = if s = 1 then m 4 45 (55 + y) + 1 else 0 := ⟨_, rfl⟩
  have eR : (if s = 0 then (0 : Int) else w64 (m 4 45 (55 + y) + 1)) = L := by
    rw [hL]
    rcases hs with e | e
    · rw [if_pos e, if_neg (by omega)]
    · rw [if_neg (by omega), if_pos e, w64_id (by omega)]
  obtain ⟨m1, e1⟩ : ∃ x, x = z_upd m 4 45 (55 + y) L := ⟨_, rfl⟩
  have w1 : ∀ i, m1 4 45 i = if i = 55 + y then L else m 4 45 i := fun i => by rw [e1, zu_row]; rfl
  have v7 : m1 4 45 7 = m 4 45 7 := by rw [w1, if_neg (by omega)]
  have v40 : m1 4 45 (40 + y) = m 4 45 (40 + y) := by rw [w1, if_neg (by omega)]
  have v55 : m1 4 45 (55 + y) = L := by rw [w1, if_pos rfl]
  have hL2 : m 4 45 (40 + y) = 0 → L ≤ m 4 45 7 := fun x => by
    rcases hs with es | es
    · rw [if_neg (show ¬ s = 1 by omega)] at hL
      omega
    · rw [if_pos es] at hL
      have := q2 x es
      omega
  have mid : (if (if L ≤ m 4 45 7 then (0 : Int) else 1) = 0 then m1 else if m 4 45 (40 + y) = 0 then f228_1 y m1 else m1) = m1 := by
    by_cases x : m 4 45 (40 + y) = 0
    · rw [if_pos (hL2 x), if_pos rfl]
    · by_cases z : L ≤ m 4 45 7
      · rw [if_pos z, if_pos rfl]
      · rw [if_neg z, if_neg (show ¬ (1 : Int) = 0 by decide), if_neg x]
  have e : rB y s m = m1 := by
    unfold rB
    simp only [zn_a, zs_a]
    rw [eR, ← e1, v55, v7, v40, mid]
    rcases hs with es | es
    · have e0 : m 4 45 (40 + y) = 0 := by
        rcases hb with x | x
        · exact x
        · exact absurd (q1 x) (by omega)
      rw [if_pos es, v40, if_neg (show ¬ m 4 45 (40 + y) = 1 by omega)]
    · rw [if_neg (show ¬ s = 0 by omega)]
  rw [e, ← hL]
  refine ⟨w1, fun g k h => ?_⟩
  rw [e1]
  rcases h with h | h
  · rw [zu_g _ _ _ h]
  · rw [zu_k _ _ _ h]
/-- all marks, nothing turns -/
theorem marks_q {m : zM} {so : Int → Int} (hw : ∀ m' : zM, (∀ i, (i < 55 ∨ 59 < i) → m' 4 45 i = m 4 45 i) → ∀ y, 2 ≤ y → y < 5 → soR y m' = so y) (hso : ∀ y, 2 ≤ y → y < 5 → so y = 0 ∨ so y = 1) (hb : b01 (m 4 45)) (h5 : ∀ i, 0 ≤ i → i < 5 → (0 ≤ m 4 45 (50 + i) ∧ m 4 45 (50 + i) ≤ 1000000000) ∧ 0 ≤ m 4 45 (55 + i) ∧ m 4 45 (55 + i) ≤ 1000000000) (hd : 0 ≤ m 4 45 7)
    (q : ∀ y, 2 ≤ y → y < 5 → (m 4 45 (40 + y) = 1 → so y = 1) ∧ (m 4 45 (40 + y) = 0 → so y = 1 → m 4 45 (55 + y) + 1 ≤ m 4 45 7)) :
    (∀ i, 0 ≤ i → i < 5 → f224_1 m 4 45 (50 + i) = m 4 45 (50 + i) + m 4 45 (40 + i)) ∧ (∀ i, 2 ≤ i → i < 5 → f224_1 m 4 45 (55 + i) = if so i = 1 then m 4 45 (55 + i) + 1 else 0) ∧ (∀ i, (i < 50 ∨ i = 55 ∨ i = 56 ∨ 59 < i) → f224_1 m 4 45 i = m 4 45 i) ∧ ∀ g k, (g ≠ 4 ∨ k ≠ 45) → f224_1 m g k = m g k := by
  obtain ⟨m', e, m1, m2, m3, e1, e2, e3, e4, e5, e6⟩ := f224_u m
  rw [e]
  rw [hw m (fun _ _ => rfl) 2 (by omega) (by omega)] at e1
  obtain ⟨a1, a2⟩ := rB_q (m := m) (y := 2) (hso 2 (by omega) (by omega)) (hb 2 (by omega) (by omega)) (h5 2 (by omega) (by omega)).2 hd (by omega) (q 2 (by omega) (by omega)).1 (q 2 (by omega) (by omega)).2
  rw [← e1] at a1 a2
  rw [hw m1 (fun i hi => by rw [a1, if_neg (by omega)]) 3 (by omega) (by omega)] at e2
  have b7 : m1 4 45 7 = m 4 45 7 := by rw [a1, if_neg (by omega)]
  have b43 : m1 4 45 (40 + 3) = m 4 45 (40 + 3) := by rw [a1, if_neg (by omega)]
  have b58 : m1 4 45 (55 + 3) = m 4 45 (55 + 3) := by rw [a1, if_neg (by omega)]
  obtain ⟨a3, a4⟩ := rB_q (m := m1) (y := 3) (hso 3 (by omega) (by omega)) (by rw [b43]; exact hb 3 (by omega) (by omega)) (by rw [b58]; exact (h5 3 (by omega) (by omega)).2) (by omega) (by omega) (by rw [b43]; exact (q 3 (by omega) (by omega)).1) (by rw [b43, b58, b7]; exact (q 3 (by omega) (by omega)).2)
  rw [← e2] at a3 a4
  have w2 : ∀ i, i ≠ 57 → i ≠ 58 → m2 4 45 i = m 4 45 i := fun i h1 h2 => by rw [a3, if_neg (by omega), a1, if_neg (by omega)]
  rw [hw m2 (fun i hi => w2 i (by omega) (by omega)) 4 (by omega) (by omega)] at e3
  have d44 : m2 4 45 (40 + 4) = m 4 45 (40 + 4) := w2 _ (by omega) (by omega)
  have d59 : m2 4 45 (55 + 4) = m 4 45 (55 + 4) := w2 _ (by omega) (by omega)
  have d7 : m2 4 45 7 = m 4 45 7 := w2 _ (by omega) (by omega)
  obtain ⟨a5, a6⟩ := rB_q (m := m2) (y := 4) (hso 4 (by omega) (by omega)) (by rw [d44]; exact hb 4 (by omega) (by omega)) (by rw [d59]; exact (h5 4 (by omega) (by omega)).2) (by omega) (by omega) (by rw [d44]; exact (q 4 (by omega) (by omega)).1) (by rw [d44, d59, d7]; exact (q 4 (by omega) (by omega)).2)
  rw [← e3] at a5 a6
  have w3 : ∀ i, (i < 57 ∨ 59 < i) → m3 4 45 i = m 4 45 i := fun i hi => by rw [a5, if_neg (by omega), w2 i (by omega) (by omega)]
  refine ⟨fun i i0 i1 => ?_, fun i i0 i1 => ?_, fun i hi => ?_, fun g k hk => ?_⟩
  · have x := hb i i0 i1
    have y := (h5 i i0 i1).1
    rw [e5 i i0 i1, w3 _ (by omega), w3 _ (by omega), w64_id (by omega)]
  · rw [e6 _ (by omega)]
    rcases (show i = 2 ∨ i = 3 ∨ i = 4 by omega) with rfl | rfl | rfl
    · rw [a5, if_neg (by omega), a3, if_neg (by omega), a1, if_pos rfl]
    · rw [a5, if_neg (by omega), a3, if_pos rfl, b58]
    · rw [a5, if_pos rfl, d59]
  · rw [e6 i (by omega), w3 i (by omega)]
  · rw [e4 g k hk, a6 g k hk, a4 g k hk, a2 g k hk]
/-- the time goes, no block ends -/
theorem goes_q {m : zM} (hb : b01 (m 4 45)) (h27 : 0 ≤ m 4 45 27 ∧ m 4 45 27 < 32) (ht : m 4 45 0 ≠ 2000000000) (hn : (m 4 45 0 + 1) % m 4 45 8 ≠ 0) : f230_1 m = z_upd (z_upd m 4 45 27 (zorN (m 4 45 27) (onV (m 4 45)))) 4 45 0 (m 4 45 0 + 1) := by
  have hv := onV_r hb
  unfold f230_1
  simp only [zn_a, zs_a]
  rw [on_r hb, zorL_eq (by omega) (by omega)]
  have u0 : z_upd m 4 45 27 (zorN (m 4 45 27) (onV (m 4 45))) 4 45 0 = m 4 45 0 := by rw [zu_row, fu_i _ _ (by decide)]
  rw [u0, if_neg ht]
  have u1 : z_upd (z_upd m 4 45 27 (zorN (m 4 45 27) (onV (m 4 45)))) 4 45 0 (m 4 45 0 + 1) 4 45 0 = m 4 45 0 + 1 := by rw [zu_row, fu_s]
  have u8 : z_upd (z_upd m 4 45 27 (zorN (m 4 45 27) (onV (m 4 45)))) 4 45 0 (m 4 45 0 + 1) 4 45 8 = m 4 45 8 := by rw [zu_row, fu_i _ _ (by decide), zu_row, fu_i _ _ (by decide)]
  rw [u1, u8, if_neg hn]
