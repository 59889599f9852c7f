/-! The call of a bill. -/
theorem loop139 {k : zM → zM} {a p : Int} : ∀ (n : Nat) (y : Int) (m : zM), 0 ≤ y → y ≤ 28 → 28 - y < n → (∀ i, y ≤ i → i < 28 → (0 ≤ m 0 24 i ∧ m 0 24 i ≤ 1000000000000000) ∧ 0 ≤ m 0 25 i ∧ m 0 25 i ≤ 1000000000000000) →
    ∃ m', fl139_14_1 k 0 0 a p n y m = k m' ∧ (∀ i, y ≤ i → i < 28 → m' 0 26 (p + i) = m 0 24 i - m 0 25 i ∧ m' 0 25 i = m 0 24 i) ∧ (∀ i, (i < p + y ∨ p + 28 ≤ i) → m' 0 26 i = m 0 26 i) ∧ (∀ i, (i < y ∨ 28 ≤ i) → m' 0 25 i = m 0 25 i) ∧ ∀ g k, (g ≠ 0 ∨ (k ≠ 25 ∧ k ≠ 26)) → m' g k = m g k
  | 0, y, m, h0, h1, h2, hb => by omega
  | n + 1, y, m, h0, h1, h2, hb => by
    show ∃ m', fl139_14_1_b (fl139_14_1 k 0 0 a p n) k 0 0 a p y m = k m' ∧ _
    unfold fl139_14_1_b
    by_cases h : 28 ≤ y
    · rw [if_pos h]
      exact ⟨m, rfl, fun i i0 i1 => by omega, fun _ _ => rfl, fun _ _ => rfl, fun _ _ _ => rfl⟩
    · obtain ⟨b1, b2⟩ := hb y (Int.le_refl _) (by omega)
      rw [if_neg h, zn_a, w64_id (x := m 0 24 y - m 0 25 y) (by omega), zs_a, zs_a]
      have e24 : z_upd m 0 26 (p + y) (m 0 24 y - m 0 25 y) 0 24 y = m 0 24 y := by rw [zu_k _ _ _ (by decide)]
      rw [e24]
      have w24 : ∀ i, z_upd (z_upd m 0 26 (p + y) (m 0 24 y - m 0 25 y)) 0 25 y (m 0 24 y) 0 24 i = m 0 24 i := fun i => by rw [zu_k _ _ _ (by decide), zu_k _ _ _ (by decide)]
      have w25 : ∀ i, z_upd (z_upd m 0 26 (p + y) (m 0 24 y - m 0 25 y)) 0 25 y (m 0 24 y) 0 25 i = if i = y then m 0 24 y else m 0 25 i := fun i => by rw [zu_row, zu_k _ _ _ (show (25 : Nat) ≠ 26 by decide)]; rfl
      have w26 : ∀ i, z_upd (z_upd m 0 26 (p + y) (m 0 24 y - m 0 25 y)) 0 25 y (m 0 24 y) 0 26 i = if i = p + y then m 0 24 y - m 0 25 y else m 0 26 i := fun i => by rw [zu_k _ _ _ (show (26 : Nat) ≠ 25 by decide), zu_row]; rfl
      have wk : ∀ g k, (g ≠ 0 ∨ (k ≠ 25 ∧ k ≠ 26)) → z_upd (z_upd m 0 26 (p + y) (m 0 24 y - m 0 25 y)) 0 25 y (m 0 24 y) g k = m g k := fun g k hk => by
        rcases hk with hk | hk
        · rw [zu_g _ _ _ hk, zu_g _ _ _ hk]
        · rw [zu_k _ _ _ hk.1, zu_k _ _ _ hk.2]
      obtain ⟨m', e, e1, e2, e3, e4⟩ := loop139 (k := k) (a := a) (p := p) n (y + 1) (z_upd (z_upd m 0 26 (p + y) (m 0 24 y - m 0 25 y)) 0 25 y (m 0 24 y)) (by omega) (by omega) (by omega) (fun i i0 i1 => by
        rw [w24, w25, if_neg (by omega)]
        exact hb i (by omega) i1)
      refine ⟨m', e, fun i i0 i1 => ?_, fun i hi => ?_, fun i hi => ?_, fun g k hk => by rw [e4 g k hk, wk g k hk]⟩
      · by_cases z : i = y
        · rw [z, e2 _ (by omega), w26, if_pos rfl, e3 _ (by omega), w25, if_pos rfl]
          exact ⟨rfl, rfl⟩
        · obtain ⟨x1, x2⟩ := e1 i (by omega) i1
          rw [x1, x2, w24, w25, if_neg z]
          exact ⟨rfl, rfl⟩
      · rw [e2 i (by omega), w26, if_neg (by omega)]
      · rw [e3 i (by omega), w25, if_neg (by omega)]
theorem fill31 : ∀ (n : Nat) (y : Int) (m : zM), 0 ≤ y → y ≤ 4 → 4 - y < n → ∃ m', fl11_6_2 (fun m => m) 0 (-1) 4 n y m = m' ∧ (∀ i, y ≤ i → i < 4 → m' 0 31 i = -1) ∧ ∀ g k, (g ≠ 0 ∨ k ≠ 31) → m' g k = m g k
  | 0, y, m, h0, h1, h2 => by omega
  | n + 1, y, m, h0, h1, h2 => by
    show ∃ m', fl11_6_2_b (fl11_6_2 (fun m => m) 0 (-1) 4 n) (fun m => m) 0 (-1) 4 y m = m' ∧ _
    unfold fl11_6_2_b
    by_cases h : 4 ≤ y
    · rw [if_pos h]
      exact ⟨m, rfl, fun i i0 i1 => by omega, fun _ _ _ => rfl⟩
    · rw [if_neg h, zs_a]
      have key : ∀ (n : Nat) (y : Int) (m : zM), ∀ i, i < y → fl11_6_2 (fun m => m) 0 (-1) 4 n y m 0 31 i = m 0 31 i := by
        intro n
        induction n with
        | zero => exact fun _ _ _ _ => rfl
        | succ n ih =>
          intro y m i hi
          show fl11_6_2_b (fl11_6_2 (fun m => m) 0 (-1) 4 n) (fun m => m) 0 (-1) 4 y m 0 31 i = _
          unfold fl11_6_2_b
          split
          · rfl
          · rw [zs_a, ih (y + 1) _ i (by omega), zu_row, fu_i _ _ (by omega)]
      obtain ⟨m', e, e1, e2⟩ := fill31 n (y + 1) (z_upd m 0 31 y (-1)) (by omega) (by omega) (by omega)
      refine ⟨m', e, fun i i0 i1 => ?_, fun g k hk => ?_⟩
      · by_cases z : i = y
        · have h9 := key n (y + 1) (z_upd m 0 31 y (-1)) i (by omega)
          rw [e] at h9
          rw [h9, z, zu_row, fu_s]
        · exact e1 i (by omega) i1
      · rw [e2 g k hk]
        rcases hk with hk | hk
        · rw [zu_g _ _ _ hk]
        · rw [zu_k _ _ _ hk]
theorem fill32 : ∀ (n : Nat) (y : Int) (m : zM), 0 ≤ y → y ≤ 4 → 4 - y < n → ∃ m', fl5_5_4 (fun m => m) 0 (-1) 4 n y m = m' ∧ (∀ i, y ≤ i → i < 4 → m' 0 32 i = -1) ∧ ∀ g k, (g ≠ 0 ∨ k ≠ 32) → m' g k = m g k
  | 0, y, m, h0, h1, h2 => by omega
  | n + 1, y, m, h0, h1, h2 => by
    show ∃ m', fl5_5_4_b (fl5_5_4 (fun m => m) 0 (-1) 4 n) (fun m => m) 0 (-1) 4 y m = m' ∧ _
    unfold fl5_5_4_b
    by_cases h : 4 ≤ y
    · rw [if_pos h]
      exact ⟨m, rfl, fun i i0 i1 => by omega, fun _ _ _ => rfl⟩
    · rw [if_neg h, zs_a]
      have key : ∀ (n : Nat) (y : Int) (m : zM), ∀ i, i < y → fl5_5_4 (fun m => m) 0 (-1) 4 n y m 0 32 i = m 0 32 i := by
        intro n
        induction n with
        | zero => exact fun _ _ _ _ => rfl
        | succ n ih =>
          intro y m i hi
          show fl5_5_4_b (fl5_5_4 (fun m => m) 0 (-1) 4 n) (fun m => m) 0 (-1) 4 y m 0 32 i = _
          unfold fl5_5_4_b
          split
          · rfl
          · rw [zs_a, ih (y + 1) _ i (by omega), zu_row, fu_i _ _ (by omega)]
      obtain ⟨m', e, e1, e2⟩ := fill32 n (y + 1) (z_upd m 0 32 y (-1)) (by omega) (by omega) (by omega)
      refine ⟨m', e, fun i i0 i1 => ?_, fun g k hk => ?_⟩
      · by_cases z : i = y
        · have h9 := key n (y + 1) (z_upd m 0 32 y (-1)) i (by omega)
          rw [e] at h9
          rw [h9, z, zu_row, fu_s]
        · exact e1 i (by omega) i1
      · rw [e2 g k hk]
        rcases hk with hk | hk
        · rw [zu_g _ _ _ hk]
        · rw [zu_k _ _ _ hk]
/-- the class, ahead of the log -/
theorem bill_c {c : zM} (h3 : 0 ≤ c 0 23 3) (hb : ∀ i, 0 ≤ i → i < 28 → (0 ≤ c 0 24 i ∧ c 0 24 i ≤ 1000000000000000) ∧ 0 ≤ c 0 25 i ∧ c 0 25 i ≤ 1000000000000000) :
    ∃ m', f138_1 0 c = f54_1 0 24 0 m' ∧ m' 0 23 3 = c 0 23 3 + 1 ∧ (∀ i, i ≠ 3 → m' 0 23 i = c 0 23 i) ∧ (∀ i, 0 ≤ i → i < 28 → m' 0 25 i = c 0 24 i) ∧ (∀ i, 0 ≤ i → i < 28 → m' 0 26 (c 0 23 3 % 6 * 33 + i) = c 0 24 i - c 0 25 i) ∧ (∀ i, 0 ≤ i → i < 4 → m' 0 26 (c 0 23 3 % 6 * 33 + (28 + i)) = c 0 31 i) ∧ m' 0 26 (c 0 23 3 % 6 * 33 + 32) = c 0 8 9 ∧ (∀ i, (i < c 0 23 3 % 6 * 33 ∨ c 0 23 3 % 6 * 33 + 33 ≤ i) → m' 0 26 i = c 0 26 i) ∧
      (∀ i, 0 ≤ i → i < 4 → m' 0 31 i = -1) ∧ (∀ i, 0 ≤ i → i < 4 → m' 0 32 i = -1) ∧ ∀ g k, (g ≠ 0 ∨ (k ≠ 23 ∧ k ≠ 25 ∧ k ≠ 26 ∧ k ≠ 31 ∧ k ≠ 32)) → m' g k = c g k := by
  obtain ⟨p, hp⟩ : ∃ p, p = c 0 23 3 % 6 * 33 := ⟨_, rfl⟩
  rw [← hp]
  have p0 : 0 ≤ p := by omega
  unfold f138_1 f139_1 f10_1 f11_2 f5_4
  simp only [zs_a]
  rw [← hp]
  obtain ⟨m1, e1, a1, a2, a3, a4⟩ := loop139 (k := fun m502 => z_upd (z_upd (z_cpy m502 0 26 0 31 0 (p + 28) 4) 0 26 (p + 32) (c 0 8 9)) 0 23 3 (z_upd (z_cpy m502 0 26 0 31 0 (p + 28) 4) 0 26 (p + 32) (c 0 8 9) 0 23 3 + 1)) (a := c 0 8 9) (p := p) (zfu 29) 0 c (by omega) (by omega) (by rw [zfu_eq]; omega) (fun i i0 i1 => hb i i0 i1)
  rw [e1]
  have c23 : z_upd (z_cpy m1 0 26 0 31 0 (p + 28) 4) 0 26 (p + 32) (c 0 8 9) 0 23 3 = c 0 23 3 := by rw [zu_k _ _ _ (by decide), cpy_k _ (.inr (by decide)), a4 0 23 (by omega)]
  try dsimp only
  rw [c23]
  have d26 : ∀ i, z_cpy m1 0 26 0 31 0 (p + 28) 4 0 26 i = if p + 28 ≤ i ∧ i < p + 32 then c 0 31 (i - (p + 28)) else m1 0 26 i := fun i => by
    by_cases z : p + 28 ≤ i ∧ i < p + 32
    · rw [if_pos z, cpy_in _ (by omega), a4 0 31 (by omega)]
      congr 1
      omega
    · rw [if_neg z, cpy_out _ (by omega)]
  obtain ⟨m2, em2⟩ : ∃ x, x = z_upd (z_upd (z_cpy m1 0 26 0 31 0 (p + 28) 4) 0 26 (p + 32) (c 0 8 9)) 0 23 3 (c 0 23 3 + 1) := ⟨_, rfl⟩
  rw [← em2]
  have f26 : ∀ i, m2 0 26 i = if i = p + 32 then c 0 8 9 else if p + 28 ≤ i ∧ i < p + 32 then c 0 31 (i - (p + 28)) else m1 0 26 i := fun i => by
    rw [em2, zu_k _ _ _ (show (26 : Nat) ≠ 23 by decide), zu_row]
    unfold fu
    rw [d26]
  have f23 : ∀ i, m2 0 23 i = if i = 3 then c 0 23 3 + 1 else c 0 23 i := fun i => by
    rw [em2, zu_row]
    unfold fu
    rw [zu_k _ _ _ (show (23 : Nat) ≠ 26 by decide), cpy_k _ (.inr (by decide)), a4 0 23 (by omega)]
  have fk : ∀ g k, (g ≠ 0 ∨ (k ≠ 23 ∧ k ≠ 26)) → m2 g k = m1 g k := fun g k hk => by
    rw [em2]
    rcases hk with hk | hk
    · rw [zu_g _ _ _ hk, zu_g _ _ _ hk, cpy_k _ (.inl hk)]
    · rw [zu_k _ _ _ hk.1, zu_k _ _ _ hk.2, cpy_k _ (.inr hk.2)]
  obtain ⟨m3, e3, b1, b2⟩ := fill31 (zfu 5) 0 m2 (by omega) (by omega) (by rw [zfu_eq]; omega)
  rw [e3]
  obtain ⟨m4, e4, d1, d2⟩ := fill32 (zfu 5) 0 m3 (by omega) (by omega) (by rw [zfu_eq]; omega)
  rw [e4]
  refine ⟨m4, rfl, ?_, fun i hi => ?_, fun i i0 i1 => ?_, fun i i0 i1 => ?_, fun i i0 i1 => ?_, ?_, fun i hi => ?_, fun i i0 i1 => ?_, d1, fun g k hk => ?_⟩
  · rw [d2 0 23 (by omega), b2 0 23 (by omega), f23, if_pos rfl]
  · rw [d2 0 23 (by omega), b2 0 23 (by omega), f23, if_neg hi]
  · rw [d2 0 25 (by omega), b2 0 25 (by omega), fk 0 25 (by omega)]
    exact (a1 i i0 i1).2
  · rw [d2 0 26 (by omega), b2 0 26 (by omega), f26, if_neg (by omega), if_neg (by omega)]
    exact (a1 i i0 i1).1
  · rw [d2 0 26 (by omega), b2 0 26 (by omega), f26, if_neg (by omega), if_pos (by omega)]
    congr 1
    omega
  · rw [d2 0 26 (by omega), b2 0 26 (by omega), f26, if_pos rfl]
  · rw [d2 0 26 (by omega), b2 0 26 (by omega), f26, if_neg (by omega), if_neg (by omega)]
    exact a2 i (by omega)
  · rw [d2 0 31 (by omega)]
    exact b1 i i0 i1
  · rw [d2 g k (by omega), b2 g k (by omega), fk g k (by omega), a4 g k (by omega)]
