/-! The logbook on both sides. -/
def LG (c : Nat → Int → Int) (w : Int → Int) : Prop := c 37 1 = w 16 ∧ 0 ≤ w 16 ∧ ∀ i, 0 ≤ i → i < min (w 16) 40 → ∀ k, 0 ≤ k → k < 3 → c 38 ((w 16 - 1 - i) % 40 * 3 + k) = w (1487 + 3 * (min (w 16) 40 - 1 - i) + k)
def v3 (t b x k : Int) : Int := if k = 0 then t else if k = 1 then b else x
theorem LG.add {c c' : Nat → Int → Int} {w w' : Int → Int} {t b x : Int} (h : LG c w) (h37 : c' 37 1 = c 37 1 + 1) (h38 : ∀ i, c' 38 i = if c 37 1 % 40 * 3 ≤ i ∧ i < c 37 1 % 40 * 3 + 3 then v3 t b x (i - c 37 1 % 40 * 3) else c 38 i)
    (hw : w' 16 = w 16 + 1) (hn : ∀ k, 0 ≤ k → k < 3 → w' (1487 + 3 * (min (w 16 + 1) 40 - 1) + k) = v3 t b x k)
    (ho : ∀ j k, 0 ≤ j → j < min (w 16 + 1) 40 - 1 → 0 ≤ k → k < 3 → w' (1487 + 3 * j + k) = if w 16 < 40 then w (1487 + 3 * j + k) else w (1487 + 3 * (j + 1) + k)) : LG c' w' := by
  obtain ⟨h1, h2, h3⟩ := h
  refine ⟨by omega, by omega, fun i i0 i1 k k0 k1 => ?_⟩
  rw [hw] at i1 ⊢
  rw [h38, h1]
  by_cases e : i = 0
  · subst e
    rw [if_pos (by omega), show min (w 16 + 1) 40 - 1 - 0 = min (w 16 + 1) 40 - 1 by omega, hn k k0 k1]
    congr 1
    omega
  · rw [if_neg (by omega), ho _ k (by omega) (by omega) k0 k1]
    have h4 := h3 (i - 1) (by omega) (by omega) k k0 k1
    rw [show w 16 + 1 - 1 - i = w 16 - 1 - (i - 1) by omega, h4]
    by_cases e2 : w 16 < 40
    · rw [if_pos e2]
      congr 1
      omega
    · rw [if_neg e2]
      congr 1
      omega
theorem LG.fe {c c' : Nat → Int → Int} {w w' : Int → Int} (h : LG c w) (h1 : FE 6 c c') (h2 : FW 6 w w') : LG c' w' := by
  obtain ⟨a1, a2, a3⟩ := h
  have e16 : w' 16 = w 16 := h2 16 (by omega) (by omega) ja45_16
  refine ⟨by rw [h1.p37_1, e16]; exact a1, by omega, fun i i0 i1 k k0 k1 => ?_⟩
  rw [e16] at i1 ⊢
  rw [h1.p38_0 _ (by omega) (by omega), h2 _ (by omega) (by omega) (ja45_1487 (by omega))]
  exact a3 i i0 i1 k k0 k1
/-- a line more: the class -/
theorem log_c (m : zM) (g : Nat) (t b x : Int) : f55_1 g t b x m g 37 1 = m g 37 1 + 1 ∧ (∀ i, f55_1 g t b x m g 38 i = if m g 37 1 % 40 * 3 ≤ i ∧ i < m g 37 1 % 40 * 3 + 3 then v3 t b x (i - m g 37 1 % 40 * 3) else m g 38 i) ∧ (∀ g' k, (g' ≠ g ∨ (k ≠ 37 ∧ k ≠ 38)) → f55_1 g t b x m g' k = m g' k) ∧ (∀ i, i ≠ 1 → f55_1 g t b x m g 37 i = m g 37 i) := by
  unfold f55_1
  simp only [zs_a]
  refine ⟨?_, fun i => ?_, fun g' k h => ?_, fun i hi => ?_⟩
  · rw [zu_row, fu_s, zu_k _ _ _ (by decide), zu_k _ _ _ (by decide), zu_k _ _ _ (by decide)]
  · rw [zu_k _ _ _ (show (38 : Nat) ≠ 37 by decide), zu_row, zu_row, zu_row]
    unfold fu v3
    repeat' split
    all_goals first | rfl | omega
  · rcases h with h | h
    · rw [zu_g _ _ _ h, zu_g _ _ _ h, zu_g _ _ _ h, zu_g _ _ _ h]
    · rw [zu_k _ _ _ h.1, zu_k _ _ _ h.2, zu_k _ _ _ h.2, zu_k _ _ _ h.2]
  · rw [zu_row, fu_i _ _ hi, zu_k _ _ _ (by decide), zu_k _ _ _ (by decide), zu_k _ _ _ (by decide)]
theorem shl223 {k : zM → zM} {a b : Int} : ∀ (n : Nat) (y : Int) (m : zM), 3 ≤ y → y ≤ 120 → 120 - y < n → ∃ m', fl223_17_1 k a b n y m = k m' ∧ (∀ g k, (g ≠ 4 ∨ k ≠ 45) → m' g k = m g k) ∧ (∀ i, 1484 + y ≤ i → i < 1604 → m' 4 45 i = m 4 45 (i + 3)) ∧ (∀ i, (i < 1484 + y ∨ 1604 ≤ i) → m' 4 45 i = m 4 45 i)
  | 0, y, m, h0, h1, h2 => by omega
  | n + 1, y, m, h0, h1, h2 => by
    show ∃ m', fl223_17_1_b (fl223_17_1 k a b n) k a b y m = k m' ∧ _
    unfold fl223_17_1_b
    by_cases h : 120 ≤ y
    · rw [if_pos h]
      exact ⟨m, rfl, fun _ _ _ => rfl, fun i i0 i1 => by omega, fun _ _ => rfl⟩
    · rw [if_neg h, zs_a]
      obtain ⟨m', e, e1, e2, e3⟩ := shl223 (k := k) (a := a) (b := b) n (y + 1) (z_upd m 4 45 (1487 + y - 3) (m 4 45 (1487 + y))) (by omega) (by omega) (by omega)
      refine ⟨m', e, fun g k' hk => ?_, fun i i0 i1 => ?_, fun i hi => ?_⟩
      · rw [e1 g k' hk]
        rcases hk with hk | hk
        · rw [zu_g _ _ _ hk]
        · rw [zu_k _ _ _ hk]
      · by_cases e4 : i = 1484 + y
        · rw [e3 i (by omega), zu_row, show i = 1487 + y - 3 by omega, fu_s, show 1487 + y - 3 + 3 = 1487 + y by omega]
        · rw [e2 i (by omega) i1, zu_row, fu_i _ _ (by omega)]
      · rw [e3 i (by omega), zu_row, fu_i _ _ (by omega)]
/-- a line more: the reference -/
theorem log_r (m : zM) (b x : Int) (h0 : 0 ≤ m 4 45 16) : f223_1 b x m 4 45 16 = m 4 45 16 + 1 ∧ (∀ k, 0 ≤ k → k < 3 → f223_1 b x m 4 45 (1487 + 3 * (min (m 4 45 16 + 1) 40 - 1) + k) = v3 (m 4 45 0) b x k) ∧
    (∀ j k, 0 ≤ j → j < min (m 4 45 16 + 1) 40 - 1 → 0 ≤ k → k < 3 → f223_1 b x m 4 45 (1487 + 3 * j + k) = if m 4 45 16 < 40 then m 4 45 (1487 + 3 * j + k) else m 4 45 (1487 + 3 * (j + 1) + k)) ∧
    (∀ g k, (g ≠ 4 ∨ k ≠ 45) → f223_1 b x m g k = m g k) ∧ (∀ i, i ≠ 16 → (i < 1487 ∨ 1606 < i) → f223_1 b x m 4 45 i = m 4 45 i) := by
  unfold f223_1
  by_cases h : m 4 45 16 < 40
  · rw [if_pos h]
    simp only [zs_a]
    refine ⟨?_, fun k k0 k1 => ?_, fun j k j0 j1 k0 k1 => ?_, fun g k hk => ?_, fun i i0 i1 => ?_⟩
    · rw [zu_row, fu_s, zu_row, fu_i _ _ (by omega), zu_row, fu_i _ _ (by omega), zu_row, fu_i _ _ (by omega)]
    · simp only [zu_row]
      unfold fu v3
      repeat' split
      all_goals first | rfl | omega
    · rw [if_pos h]
      rw [zu_row, fu_i _ _ (by omega), zu_row, fu_i _ _ (by omega), zu_row, fu_i _ _ (by omega), zu_row, fu_i _ _ (by omega)]
    · rcases hk with hk | hk
      · rw [zu_g _ _ _ hk, zu_g _ _ _ hk, zu_g _ _ _ hk, zu_g _ _ _ hk]
      · rw [zu_k _ _ _ hk, zu_k _ _ _ hk, zu_k _ _ _ hk, zu_k _ _ _ hk]
    · rw [zu_row, fu_i _ _ i0, zu_row, fu_i _ _ (by omega), zu_row, fu_i _ _ (by omega), zu_row, fu_i _ _ (by omega)]
  · rw [if_neg h]
    obtain ⟨m1, e, e1, e2, e3⟩ := shl223 (k := fun m516 => zn (if (m516 4 45 16) < 40 then ((m516 4 45 16)) else (39)) fun v523 => zs (z_upd m516 4 45 (1487 + (3 * v523)) (m516 4 45 0)) fun m529 => zs (z_upd m529 4 45 ((1487 + (3 * v523)) + 1) b) fun m531 => zs (z_upd m531 4 45 ((1487 + (3 * v523)) + 2) x) fun m533 => zs (z_upd m533 4 45 16 ((m533 4 45 16) + 1)) fun m536 => m536) (a := b) (b := x) (zfu 118) 3 m (by omega) (by omega) (by rw [zfu_eq]; omega)
    rw [e]
    simp only [zs_a, zn_a]
    have q16 : m1 4 45 16 = m 4 45 16 := e3 16 (by omega)
    have q0 : m1 4 45 0 = m 4 45 0 := e3 0 (by omega)
    rw [if_neg (show ¬ m1 4 45 16 < 40 by omega)]
    refine ⟨?_, fun k k0 k1 => ?_, fun j k j0 j1 k0 k1 => ?_, fun g k hk => ?_, fun i i0 i1 => ?_⟩
    · rw [zu_row, fu_s, zu_row, fu_i _ _ (by omega), zu_row, fu_i _ _ (by omega), zu_row, fu_i _ _ (by omega), q16]
    · rw [q0]
      simp only [zu_row]
      unfold fu v3
      repeat' split
      all_goals first | rfl | omega
    · rw [if_neg h]
      rw [zu_row, fu_i _ _ (by omega), zu_row, fu_i _ _ (by omega), zu_row, fu_i _ _ (by omega), zu_row, fu_i _ _ (by omega), e2 _ (by omega) (by omega), show 1487 + 3 * j + k + 3 = 1487 + 3 * (j + 1) + k by omega]
    · rcases id hk with hk' | hk'
      · rw [zu_g _ _ _ hk', zu_g _ _ _ hk', zu_g _ _ _ hk', zu_g _ _ _ hk', e1 g k hk]
      · rw [zu_k _ _ _ hk', zu_k _ _ _ hk', zu_k _ _ _ hk', zu_k _ _ _ hk', e1 g k hk]
    · rw [zu_row, fu_i _ _ i0, zu_row, fu_i _ _ (by omega), zu_row, fu_i _ _ (by omega), zu_row, fu_i _ _ (by omega), e3 i (by omega)]
/-- a line more on both sides -/
theorem LG.log {c r : zM} {g : Nat} {t b x : Int} (h : LG (c g) (r 4 45)) (ht : t = r 4 45 0) : LG (f55_1 g t b x c g) (f223_1 b x r 4 45) := by
  obtain ⟨c1, c2, -, -⟩ := log_c c g t b x
  obtain ⟨r1, r2, r3, -, -⟩ := log_r r b x h.2.1
  refine h.add c1 c2 r1 (fun k k0 k1 => ?_) r3
  rw [r2 k k0 k1, ht]
