/-! The bounds, behind seconds off. -/
theorem CBD.e3 {A Z : Int} {c : Nat → Int → Int} (h : CBD A Z c) (hA : A ≤ 2900000) : (0 ≤ c 27 6 ∧ c 27 6 ≤ 1000000000) ∧ (0 ≤ c 27 7 ∧ c 27 7 ≤ 1000000000) ∧ 0 ≤ c 27 3 ∧ c 27 3 ≤ 49300000000000 := by
  obtain ⟨b1, b2, b3, b4, b5, b6, b7, b8, b9, b10⟩ := h
  have := b3 3 (by omega) (by omega)
  omega
theorem chunk_X {c m3 : zM} {A Z n tar : Int} (hb : CBD A Z (c 0)) (hA : A ≤ 2900000) (hn : 1 ≤ n ∧ n ≤ 3600) (h15 : c 0 8 15 + 3600 ≤ 1000000000) (hw : 0 ≤ c 0 10 5 ∧ c 0 10 5 ≤ 6) (ht : 0 ≤ tar ∧ tar < 4)
    (e3 : m3 = z_upd (z_upd (f133_1 0 n (c 0 33 3) c) 0 8 15 (w32 (f133_1 0 n (c 0 33 3) c 0 8 15 + n))) 0 8 9 (z_upd (f133_1 0 n (c 0 33 3) c) 0 8 15 (w32 (f133_1 0 n (c 0 33 3) c 0 8 15 + n)) 0 8 9 + n)) (hx : XI (c 0)) : XI (f59_1 0 tar m3 0) := by
  obtain ⟨b6, b7, b3⟩ := hb.e3 hA
  have b8 := hb.2.2.2.2.2.2.2.1
  have e27 : ∃ Y, ∀ i, m3 0 27 i = if i = 8 then Y else if i = 7 then c 0 27 7 + n else c 0 27 i := by
    refine ⟨zor (z_upd c 0 27 7 (w32 (c 0 27 7 + n)) 0 27 8) (c 0 33 3), fun i => ?_⟩
    rw [e3, zu_k _ _ _ (by decide), zu_k _ _ _ (by decide)]
    unfold f133_1
    simp only [zn_a, zs_a]
    rw [w32_id (x := c 0 27 7 + n) (by omega), zu_row, zu_row]
    rfl
  have ek : ∀ k, k ≠ 8 → k ≠ 27 → m3 0 k = c 0 k := fun k h8 h27 => by
    rw [e3, zu_k _ _ _ h8, zu_k _ _ _ h8]
    unfold f133_1
    simp only [zn_a, zs_a]
    rw [zu_k _ _ _ h27, zu_k _ _ _ h27]
  obtain ⟨Y, e27⟩ := e27
  obtain ⟨y1, y2, y3⟩ := f59_X (m := m3) (g := 0) (tar := tar) (by rw [e27, if_neg (by decide), if_neg (by decide)]; exact b6) (by rw [e27, if_neg (by decide), if_pos rfl]; omega) (by rw [e27, if_neg (by decide), if_neg (by decide)]; exact b3) (by rw [ek 10 (by decide) (by decide)]; exact hw) ht (hx.1.of (fun i _ _ => by rw [ek 28 (by decide) (by decide)])) (hx.2.1.of (fun i _ _ => by rw [ek 31 (by decide) (by decide)]))
  exact ⟨y1, y2, hx.2.2.of (fun i _ _ => Int.le_of_eq (by rw [y3 24 (.inl (by decide)), ek 24 (by decide) (by decide)])) (fun i _ _ => by rw [y3 25 (.inl (by decide)), ek 25 (by decide) (by decide)]) (fun i _ _ => by rw [y3 26 (.inl (by decide)), ek 26 (by decide) (by decide)])⟩
