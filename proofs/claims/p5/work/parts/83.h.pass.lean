/-! Marks turn; seconds pass over them. -/
def K0 (c : Nat → Int → Int) (w : Int → Int) : Prop := b01 w ∧ c 33 3 = onV w ∧ ∀ m, 0 ≤ m → m < 5 → c 34 m = w (45 + m)
/-- but for marks, log: class -/
def CK (g : Nat) (c c' : zM) : Prop := ∀ g' k, (g' ≠ g ∨ (k ≠ 33 ∧ k ≠ 34 ∧ k ≠ 37 ∧ k ≠ 38)) → c' g' k = c g' k
/-- but for one mark, log: reference -/
def RK (y : Int) (r r' : zM) : Prop := (∀ i, i ≠ 40 + y → i ≠ 45 + y → i ≠ 16 → (i < 1487 ∨ 1606 < i) → r' 4 45 i = r 4 45 i) ∧ ∀ g k, (g ≠ 4 ∨ k ≠ 45) → r' g k = r g k
theorem turn_on {c r : zM} {g : Nat} {y t : Int} (h : K0 (c g) (r 4 45)) (hl : LG (c g) (r 4 45)) (h0 : 0 ≤ y) (h1 : y < 5) (ht : t = r 4 45 0) (hz : r 4 45 (40 + y) = 0) (hb : 0 ≤ r 4 45 (45 + y) ∧ r 4 45 (45 + y) ≤ 1000000000) :
    K0 (f57_1 g g y 1 t c g) (f228_1 y r 4 45) ∧ LG (f57_1 g g y 1 t c g) (f228_1 y r 4 45) ∧ f228_1 y r 4 45 (40 + y) = 1 ∧ CK g c (f57_1 g g y 1 t c) ∧ RK y r (f228_1 y r) ∧ f228_1 y r 4 45 (45 + y) = r 4 45 (45 + y) + 1 := by
  obtain ⟨b, o, k⟩ := h
  unfold f57_1 f228_1
  rw [if_neg (by decide)]
  simp only [zn_a, zs_a]
  have e34 : z_upd c g 33 3 (zor (c g 33 3) (zshl 1 y)) g 34 y = r 4 45 (45 + y) := by rw [zu_k _ _ _ (by decide), k y h0 h1]
  have e45 : z_upd r 4 45 (40 + y) 1 4 45 (45 + y) = r 4 45 (45 + y) := by rw [zu_row, fu_i _ _ (by omega)]
  rw [e34, e45, w32_id (by omega), w64_id (by omega)]
  have d33 : z_upd (z_upd c g 33 3 (zor (c g 33 3) (zshl 1 y))) g 34 y (r 4 45 (45 + y) + 1) g 33 3 = onV (fu (r 4 45) (40 + y) 1) := by rw [zu_k _ _ _ (by decide), zu_row, fu_s, o, onV_on b h0 h1 hz]
  have d34 : ∀ m, 0 ≤ m → m < 5 → z_upd (z_upd c g 33 3 (zor (c g 33 3) (zshl 1 y))) g 34 y (r 4 45 (45 + y) + 1) g 34 m = if m = y then r 4 45 (45 + y) + 1 else r 4 45 (45 + m) := fun m m0 m1 => by
    rw [zu_row, zu_k _ _ _ (by decide)]
    by_cases e : m = y
    · rw [e, fu_s, if_pos rfl]
    · rw [fu_i _ _ e, if_neg e, k m m0 m1]
  have dg : ∀ g' k, (g' ≠ g ∨ (k ≠ 33 ∧ k ≠ 34)) → z_upd (z_upd c g 33 3 (zor (c g 33 3) (zshl 1 y))) g 34 y (r 4 45 (45 + y) + 1) g' k = c g' k := fun g' k hk => by
    rcases hk with hk | hk
    · rw [zu_g _ _ _ hk, zu_g _ _ _ hk]
    · rw [zu_k _ _ _ hk.2, zu_k _ _ _ hk.1]
  have dw : ∀ i, z_upd (z_upd r 4 45 (40 + y) 1) 4 45 (45 + y) (r 4 45 (45 + y) + 1) 4 45 i = if i = 45 + y then r 4 45 (45 + y) + 1 else fu (r 4 45) (40 + y) 1 i := fun i => by
    rw [zu_row, zu_row]
    rfl
  have dr : ∀ g k, (g ≠ 4 ∨ k ≠ 45) → z_upd (z_upd r 4 45 (40 + y) 1) 4 45 (45 + y) (r 4 45 (45 + y) + 1) g k = r g k := fun g' k hk => by
    rcases hk with hk | hk
    · rw [zu_g _ _ _ hk, zu_g _ _ _ hk]
    · rw [zu_k _ _ _ hk, zu_k _ _ _ hk]
  generalize z_upd (z_upd c g 33 3 (zor (c g 33 3) (zshl 1 y))) g 34 y (r 4 45 (45 + y) + 1) = c1 at d33 d34 dg ⊢
  generalize z_upd (z_upd r 4 45 (40 + y) 1) 4 45 (45 + y) (r 4 45 (45 + y) + 1) = r1 at dw dr ⊢
  have l1 : LG (c1 g) (r1 4 45) := by
    obtain ⟨g1, g2, g3⟩ := hl
    refine ⟨?_, ?_, fun i i0 i1 k k0 k1 => ?_⟩
    · rw [dg g 37 (by omega), dw 16, if_neg (by omega), fu_i _ _ (by omega)]
      exact g1
    · rw [dw 16, if_neg (by omega), fu_i _ _ (by omega)]
      exact g2
    · rw [dw 16, if_neg (by omega), fu_i _ _ (by omega)] at i1 ⊢
      rw [dg g 38 (by omega), dw _, if_neg (by omega), fu_i _ _ (by omega)]
      exact g3 i i0 i1 k k0 k1
  have t1 : t = r1 4 45 0 := by rw [dw 0, if_neg (by omega), fu_i _ _ (by omega)]; exact ht
  obtain ⟨a1, a2, a3, a4⟩ := log_c c1 g t y 0
  obtain ⟨s1, s2, s3, s4, s5⟩ := log_r r1 y 0 l1.2.1
  have w1 : ∀ i, 40 ≤ i → i ≤ 59 → f223_1 y 0 r1 4 45 i = r1 4 45 i := fun i i0 i1 => s5 i (by omega) (by omega)
  have b1 : b01 (r1 4 45) := fun m m0 m1 => by
    rw [dw _, if_neg (by omega)]
    exact b.fu (.inr rfl) m m0 m1
  refine ⟨⟨b1.of (fun i i0 i1 => w1 i i0 (by omega)), ?_, fun m m0 m1 => ?_⟩, l1.log t1, ?_, fun g' k hk => ?_, ⟨fun i i0 i1 i2 i3 => ?_, fun g' k hk => ?_⟩, ?_⟩
  · rw [a3 g 33 (.inr (by decide)), d33, onV_of (fun i i0 i1 => w1 i i0 (by omega))]
    exact (onV_of (fun i i0 i1 => by rw [dw i, if_neg (by omega)])).symm
  · rw [a3 g 34 (.inr (by decide)), d34 m m0 m1, w1 _ (by omega) (by omega), dw _]
    by_cases e : m = y
    · rw [if_pos e, if_pos (by omega)]
    · rw [if_neg e, if_neg (by omega), fu_i _ _ (by omega)]
  · rw [w1 _ (by omega) (by omega), dw _, if_neg (by omega), fu_s]
  · rw [a3 g' k (by omega)]
    exact dg g' k (by omega)
  · rw [s5 i i2 i3, dw i, if_neg i1, fu_i _ _ i0]
  · rw [s4 g' k hk]
    exact dr g' k hk
  · rw [w1 _ (by omega) (by omega), dw _, if_pos rfl]
theorem turn_off {c r : zM} {g : Nat} {y t : Int} (h : K0 (c g) (r 4 45)) (hl : LG (c g) (r 4 45)) (h0 : 0 ≤ y) (h1 : y < 5) (ht : t = r 4 45 0) (hz : r 4 45 (40 + y) = 1) :
    K0 (f57_1 g g y 0 t c g) (f229_1 y r 4 45) ∧ LG (f57_1 g g y 0 t c g) (f229_1 y r 4 45) ∧ f229_1 y r 4 45 (40 + y) = 0 ∧ CK g c (f57_1 g g y 0 t c) ∧ RK y r (f229_1 y r) ∧ f229_1 y r 4 45 (45 + y) = r 4 45 (45 + y) := by
  obtain ⟨b, o, k⟩ := h
  unfold f57_1 f229_1
  rw [if_pos rfl]
  simp only [zn_a, zs_a]
  have d33 : z_upd c g 33 3 (zand (c g 33 3) (zxor (zshl 1 y) (-1))) g 33 3 = onV (fu (r 4 45) (40 + y) 0) := by rw [zu_row, fu_s, o, onV_off b h0 h1 hz]
  have dg : ∀ g' k, (g' ≠ g ∨ k ≠ 33) → z_upd c g 33 3 (zand (c g 33 3) (zxor (zshl 1 y) (-1))) g' k = c g' k := fun g' k hk => by
    rcases hk with hk | hk
    · rw [zu_g _ _ _ hk]
    · rw [zu_k _ _ _ hk]
  have dw : ∀ i, z_upd r 4 45 (40 + y) 0 4 45 i = fu (r 4 45) (40 + y) 0 i := fun i => by rw [zu_row]
  have dr : ∀ g k, (g ≠ 4 ∨ k ≠ 45) → z_upd r 4 45 (40 + y) 0 g k = r g k := fun g' k hk => by
    rcases hk with hk | hk
    · rw [zu_g _ _ _ hk]
    · rw [zu_k _ _ _ hk]
  generalize z_upd c g 33 3 (zand (c g 33 3) (zxor (zshl 1 y) (-1))) = c1 at d33 dg ⊢
  generalize z_upd r 4 45 (40 + y) 0 = r1 at dw dr ⊢
  have l1 : LG (c1 g) (r1 4 45) := by
    obtain ⟨g1, g2, g3⟩ := hl
    refine ⟨?_, ?_, fun i i0 i1 k k0 k1 => ?_⟩
    · rw [dg g 37 (by omega), dw 16, fu_i _ _ (by omega)]
      exact g1
    · rw [dw 16, fu_i _ _ (by omega)]
      exact g2
    · rw [dw 16, fu_i _ _ (by omega)] at i1 ⊢
      rw [dg g 38 (by omega), dw _, fu_i _ _ (by omega)]
      exact g3 i i0 i1 k k0 k1
  have t1 : t = r1 4 45 0 := by rw [dw 0, fu_i _ _ (by omega)]; exact ht
  obtain ⟨a1, a2, a3, a4⟩ := log_c c1 g t (y + 10) 0
  rw [show (10 : Int) + y = y + 10 by omega]
  obtain ⟨s1, s2, s3, s4, s5⟩ := log_r r1 (y + 10) 0 l1.2.1
  have w1 : ∀ i, 40 ≤ i → i ≤ 59 → f223_1 (y + 10) 0 r1 4 45 i = r1 4 45 i := fun i i0 i1 => s5 i (by omega) (by omega)
  have b1 : b01 (r1 4 45) := fun m m0 m1 => by
    rw [dw _]
    exact b.fu (.inl rfl) m m0 m1
  refine ⟨⟨b1.of (fun i i0 i1 => w1 i i0 (by omega)), ?_, fun m m0 m1 => ?_⟩, l1.log t1, ?_, fun g' k hk => ?_, ⟨fun i i0 i1 i2 i3 => ?_, fun g' k hk => ?_⟩, ?_⟩
  · rw [a3 g 33 (.inr (by decide)), d33, onV_of (fun i i0 i1 => w1 i i0 (by omega))]
    exact (onV_of (fun i i0 i1 => by rw [dw i])).symm
  · rw [a3 g 34 (.inr (by decide)), dg g 34 (.inr (by decide)), w1 _ (by omega) (by omega), dw _, fu_i _ _ (by omega), k m m0 m1]
  · rw [w1 _ (by omega) (by omega), dw _, fu_s]
  · rw [a3 g' k (by omega)]
    exact dg g' k (by omega)
  · rw [s5 i i2 i3, dw i, fu_i _ _ i0]
  · rw [s4 g' k hk]
    exact dr g' k hk
  · rw [w1 _ (by omega) (by omega), dw _, fu_i _ _ (by omega)]
