/-! The load and the block on both sides. -/
def LL (n : Int) (a28 w : Int → Int) : Prop := (∀ i, 0 ≤ i → i < min n 64 → ∀ k, 0 ≤ k → k < 6 → a28 ((n - 1 - i) % 64 * 6 + k) = w (788 + 6 * (min n 64 - 1 - i) + k)) ∧ (∀ j, n ≤ j → j < 64 → ∀ k, 0 ≤ k → k < 6 → a28 (j * 6 + k) = 0)
/-- the block that goes on -/
def LB (c : Nat → Int → Int) (w : Int → Int) : Prop := c 27 3 = w 22 ∧ c 27 4 = w 23 ∧ c 27 5 = w 24 ∧ c 27 6 = w 25 ∧ c 27 7 = w 26 ∧ c 27 8 = w 27 ∧ 0 ≤ w 25 ∧ w 25 ≤ 1000000000 ∧ 0 ≤ w 26 ∧ w 26 ≤ 1000000000 ∧ 0 ≤ w 27 ∧ w 27 < 32
def LD (c : Nat → Int → Int) (w : Int → Int) : Prop := c 27 2 = w 17 ∧ 0 ≤ w 17 ∧ LL (w 17) (c 28) w ∧ (∀ k, 0 ≤ k → k < 4 → c 29 k = w (1607 + k)) ∧ LB c w
/-- whether the block began beside its beginning -/
def OD (c : Nat → Int → Int) (w : Int → Int) : Prop := w 21 = if c 27 9 % w 8 = 0 then 0 else 1
def v6 (t a b d e s k : Int) : Int := if k = 0 then t else if k = 1 then a else if k = 2 then b else if k = 3 then d else if k = 4 then e else s
theorem LD.fe {c c' : Nat → Int → Int} {w w' : Int → Int} (h : LD c w) (h1 : FE 7 c c') (h2 : FW 7 w w') : LD c' w' := by
  obtain ⟨a1, a2, ⟨a3, a4⟩, a5, b1, b2, b3, b4, b5, b6, b7⟩ := h
  have e17 : w' 17 = w 17 := h2 17 (by omega) (by omega) ja45_17
  have eb : ∀ i, 21 ≤ i → i ≤ 27 → w' i = w i := fun i i0 i1 => h2 i (by omega) (by omega) (ja45_21 ⟨i0, i1⟩)
  refine ⟨by rw [h1.p27_2 2 (by omega) (by omega), e17]; exact a1, by omega, ⟨fun i i0 i1 k k0 k1 => ?_, fun j j0 j1 k k0 k1 => ?_⟩, fun k k0 k1 => ?_, ?_⟩
  · rw [e17] at i1 ⊢
    rw [h1.p28_0 _ (by omega) (by omega), h2 _ (by omega) (by omega) (ja45_788 (by omega))]
    exact a3 i i0 i1 k k0 k1
  · rw [h1.p28_0 _ (by omega) (by omega)]
    exact a4 j (by omega) j1 k k0 k1
  · rw [h1.p29_0 k k0 (by omega), h2 _ (by omega) (by omega) (ja45_1607 (by omega))]
    exact a5 k k0 k1
  · unfold LB
    rw [h1.p27_2 3 (by omega) (by omega), h1.p27_2 4 (by omega) (by omega), h1.p27_2 5 (by omega) (by omega), h1.p27_2 6 (by omega) (by omega), h1.p27_2 7 (by omega) (by omega), h1.p27_2 8 (by omega) (by omega), eb 22 (by omega) (by omega), eb 23 (by omega) (by omega), eb 24 (by omega) (by omega), eb 25 (by omega) (by omega), eb 26 (by omega) (by omega), eb 27 (by omega) (by omega)]
    exact ⟨b1, b2, b3, b4, b5, b6, b7⟩
theorem LL.add {n : Int} {a a' w w' : Int → Int} {f : Int → Int} (h : LL n a w) (hn0 : 0 ≤ n) (ha : ∀ i, a' i = if n % 64 * 6 ≤ i ∧ i < n % 64 * 6 + 6 then f (i - n % 64 * 6) else a i)
    (hn : ∀ k, 0 ≤ k → k < 6 → w' (788 + 6 * (min (n + 1) 64 - 1) + k) = f k)
    (ho : ∀ j k, 0 ≤ j → j < min (n + 1) 64 - 1 → 0 ≤ k → k < 6 → w' (788 + 6 * j + k) = if n < 64 then w (788 + 6 * j + k) else w (788 + 6 * (j + 1) + k)) : LL (n + 1) a' w' := by
  obtain ⟨h3, h4⟩ := h
  refine ⟨fun i i0 i1 k k0 k1 => ?_, fun j j0 j1 k k0 k1 => ?_⟩
  · rw [ha]
    by_cases e : i = 0
    · subst e
      rw [if_pos (by omega), show min (n + 1) 64 - 1 - 0 = min (n + 1) 64 - 1 by omega, hn k k0 k1]
      congr 1
      omega
    · rw [if_neg (by omega), ho _ k (by omega) (by omega) k0 k1]
      have h5 := h3 (i - 1) (by omega) (by omega) k k0 k1
      rw [show n + 1 - 1 - i = n - 1 - (i - 1) by omega, h5]
      by_cases e2 : n < 64
      · rw [if_pos e2]
        congr 1
        omega
      · rw [if_neg e2]
        congr 1
        omega
  · rw [ha, if_neg (by omega)]
    exact h4 j (by omega) j1 k k0 k1
/-! the class: a line more -/
theorem lost62 {k : zM → zM} {g : Nat} {b1 b2 p : Int} : ∀ (n : Nat) (y : Int) (m : zM), 0 ≤ y → y ≤ 4 → 4 - y < n → ∃ m', fl62_14_1 k g b1 b2 p n y m = k m' ∧ (∀ g' k, (g' ≠ g ∨ k ≠ 29) → m' g' k = m g' k) ∧ (∀ i, y ≤ i → i < 4 → m' g 29 i = w64 (m g 29 i + m g 28 (p + 1 + i))) ∧ (∀ i, (i < y ∨ 4 ≤ i) → m' g 29 i = m g 29 i)
  | 0, y, m, h0, h1, h2 => by omega
  | n + 1, y, m, h0, h1, h2 => by
    show ∃ m', fl62_14_1_b (fl62_14_1 k g b1 b2 p n) k g b1 b2 p y m = k m' ∧ _
    unfold fl62_14_1_b
    by_cases h : 4 ≤ y
    · rw [if_pos h]
      exact ⟨m, rfl, fun _ _ _ => rfl, fun i i0 i1 => by omega, fun _ _ => rfl⟩
    · rw [if_neg h, zn_a, zs_a]
      obtain ⟨m', e, e1, e2, e3⟩ := lost62 (k := k) (g := g) (b1 := b1) (b2 := b2) (p := p) n (y + 1) (z_upd m g 29 y (w64 (m g 29 y + m g 28 (p + 1 + y)))) (by omega) (by omega) (by omega)
      refine ⟨m', e, fun g' k' hk => ?_, fun i i0 i1 => ?_, fun i hi => ?_⟩
      · rw [e1 g' k' hk]
        rcases hk with hk | hk
        · rw [zu_g _ _ _ hk]
        · rw [zu_k _ _ _ hk]
      · by_cases e4 : i = y
        · rw [e3 i (by omega), zu_row, e4, fu_s]
        · rw [e2 i (by omega) i1, zu_row, fu_i _ _ e4, zu_k _ _ _ (by decide)]
      · rw [e3 i (by omega), zu_row, fu_i _ _ (by omega)]
theorem line_c (m : zM) (g : Nat) (t s : Int) : (∀ i, f62_1 g t s m g 28 i = if m g 27 2 % 64 * 6 ≤ i ∧ i < m g 27 2 % 64 * 6 + 6 then v6 t (m g 27 3) (m g 27 4) (m g 27 5) (m g 27 6) s (i - m g 27 2 % 64 * 6) else m g 28 i) ∧
    (∀ k, 0 ≤ k → k < 4 → f62_1 g t s m g 29 k = w64 (m g 29 k + m g 28 (m g 27 2 % 64 * 6 + 1 + k))) ∧ f62_1 g t s m g 27 2 = m g 27 2 + 1 ∧ (∀ i, i ≠ 2 → f62_1 g t s m g 27 i = m g 27 i) ∧ (∀ g' k, (g' ≠ g ∨ (k ≠ 27 ∧ k ≠ 28 ∧ k ≠ 29)) → f62_1 g t s m g' k = m g' k) := by
  unfold f62_1
  obtain ⟨m1, e, e1, e2, e3⟩ := lost62 (k := fun m502 => zs (z_upd m502 g 28 ((((m g 27 2) % 64) * 6) + 0) t) fun m506 => zs (z_upd m506 g 28 ((((m g 27 2) % 64) * 6) + 1) (m506 g 27 3)) fun m508 => zs (z_upd m508 g 28 ((((m g 27 2) % 64) * 6) + 2) (m508 g 27 4)) fun m510 => zs (z_upd m510 g 28 ((((m g 27 2) % 64) * 6) + 3) (m510 g 27 5)) fun m512 => zs (z_upd m512 g 28 ((((m g 27 2) % 64) * 6) + 4) (m512 g 27 6)) fun m515 => zs (z_upd m515 g 28 ((((m g 27 2) % 64) * 6) + 5) s) fun m517 => zs (z_upd m517 g 27 2 ((m517 g 27 2) + 1)) fun m520 => m520) (g := g) (b1 := t) (b2 := s) (p := m g 27 2 % 64 * 6) (zfu 5) 0 m (by omega) (by omega) (by rw [zfu_eq]; omega)
  rw [e]
  have q27 : m1 g 27 = m g 27 := e1 g 27 (.inr (by decide))
  have q28 : m1 g 28 = m g 28 := e1 g 28 (.inr (by decide))
  simp only [zs_a]
  refine ⟨fun i => ?_, fun k k0 k1 => ?_, ?_, fun i hi => ?_, fun g' k h => ?_⟩
  · simp only [zu_row, zu_k _ _ _ (show (28 : Nat) ≠ 27 by decide), zu_k _ _ _ (show (27 : Nat) ≠ 28 by decide), q27, q28]
    unfold fu v6
    repeat' split
    all_goals first | rfl | omega
  · simp only [zu_k _ _ _ (show (29 : Nat) ≠ 27 by decide), zu_k _ _ _ (show (29 : Nat) ≠ 28 by decide)]
    exact e2 k k0 k1
  · simp only [zu_row, zu_k _ _ _ (show (27 : Nat) ≠ 28 by decide), q27, fu_s]
  · simp only [zu_row, zu_k _ _ _ (show (27 : Nat) ≠ 28 by decide), q27]
    rw [fu_i _ _ hi]
  · rcases h with h | h
    · simp only [zu_g _ _ _ h]
      exact e1 g' k (.inl h)
    · simp only [zu_k _ _ _ h.1, zu_k _ _ _ h.2.1]
      exact e1 g' k (.inr h.2.2)
/-- the block's numbers are nought -/
def nul27 (m m' : zM) (g : Nat) (t : Int) : Prop := (∀ i, 3 ≤ i → i ≤ 8 → m' g 27 i = 0) ∧ m' g 27 9 = t ∧ (∀ i, (i < 3 ∨ 9 < i) → m' g 27 i = m g 27 i) ∧ (∀ g' k, (g' ≠ g ∨ k ≠ 27) → m' g' k = m g' k)
theorem nul27_ok (m : zM) (g : Nat) (t : Int) : nul27 m (z_upd (z_upd (z_upd (z_upd (z_upd (z_upd (z_upd m g 27 3 0) g 27 4 0) g 27 5 0) g 27 6 0) g 27 7 0) g 27 8 0) g 27 9 t) g t := by
  refine ⟨fun i i0 i1 => ?_, ?_, fun i hi => ?_, fun g' k h => ?_⟩
  · simp only [zu_row]
    unfold fu
    repeat' split
    all_goals first | rfl | omega
  · rw [zu_row, fu_s]
  · simp only [zu_row]
    rw [fu_i _ _ (by omega), fu_i _ _ (by omega), fu_i _ _ (by omega), fu_i _ _ (by omega), fu_i _ _ (by omega), fu_i _ _ (by omega), fu_i _ _ (by omega)]
  · rcases h with h | h
    · simp only [zu_g _ _ _ h]
    · simp only [zu_k _ _ _ h]
/-! the reference: a block begins -/
theorem nul233 {k : zM → zM} : ∀ (n : Nat) (y : Int) (m : zM), 22 ≤ y → y ≤ 28 → 28 - y < n → ∃ m', fl233_3_1 k n y m = k m' ∧ (∀ g k, (g ≠ 4 ∨ k ≠ 45) → m' g k = m g k) ∧ (∀ i, y ≤ i → i ≤ 27 → m' 4 45 i = 0) ∧ (∀ i, (i < y ∨ 27 < i) → m' 4 45 i = m 4 45 i)
  | 0, y, m, h0, h1, h2 => by omega
  | n + 1, y, m, h0, h1, h2 => by
    show ∃ m', fl233_3_1_b (fl233_3_1 k n) k y m = k m' ∧ _
    unfold fl233_3_1_b
    by_cases h : 27 < y
    · rw [if_pos h]
      exact ⟨m, rfl, fun _ _ _ => rfl, fun i i0 i1 => by omega, fun _ _ => rfl⟩
    · rw [if_neg h, zs_a]
      obtain ⟨m', e, e1, e2, e3⟩ := nul233 (k := k) n (y + 1) (z_upd m 4 45 y 0) (by omega) (by omega) (by omega)
      refine ⟨m', e, fun g' k' hk => ?_, fun i i0 i1 => ?_, fun i hi => ?_⟩
      · rw [e1 g' k' hk]
        rcases hk with hk | hk
        · rw [zu_g _ _ _ hk]
        · rw [zu_k _ _ _ hk]
      · by_cases e4 : i = y
        · rw [e3 i (by omega), zu_row, e4, fu_s]
        · exact e2 i (by omega) i1
      · rw [e3 i (by omega), zu_row, fu_i _ _ (by omega)]
theorem begin_r (m : zM) : (∀ i, 22 ≤ i → i ≤ 27 → f233_1 m 4 45 i = 0) ∧ f233_1 m 4 45 21 = (if m 4 45 0 % m 4 45 8 = 0 then 0 else 1) ∧ (∀ i, (i < 21 ∨ 27 < i) → f233_1 m 4 45 i = m 4 45 i) ∧ (∀ g k, (g ≠ 4 ∨ k ≠ 45) → f233_1 m g k = m g k) := by
  unfold f233_1
  obtain ⟨m1, e, e1, e2, e3⟩ := nul233 (k := fun m501 => zn (((m501 4 45 0) % (m501 4 45 8))) fun z507 => zn (if z507 = 0 then (0) else (1)) fun v510 => zs (z_upd m501 4 45 21 v510) fun m515 => m515) (zfu 7) 22 m (by omega) (by omega) (by rw [zfu_eq]; omega)
  rw [e]
  simp only [zn_a, zs_a]
  refine ⟨fun i i0 i1 => ?_, ?_, fun i hi => ?_, fun g k h => ?_⟩
  · rw [zu_row, fu_i _ _ (by omega)]
    exact e2 i i0 i1
  · rw [zu_row, fu_s, e3 0 (by omega), e3 8 (by omega)]
  · rw [zu_row, fu_i _ _ (by omega)]
    exact e3 i (by omega)
  · rw [← e1 g k h]
    rcases h with h | h
    · rw [zu_g _ _ _ h]
    · rw [zu_k _ _ _ h]
