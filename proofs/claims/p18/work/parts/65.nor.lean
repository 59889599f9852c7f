/-- no reference to what is old -/
def kNor1 (c : xC) : Bool := match c with
  | .inr (_, fs) => fs.all fun v => match v with
    | .ref p => decide (8 ≤ p)
    | _ => true
  | .inl (_, _, .inl _) => true
  | .inl (_, _, .inr (.inl _)) => true
  | _ => false
theorem kc1_e : kc1 = some (none, ku1) ∧ ku1.length = 108 := by
  have h := kok1_t
  unfold kok1 at h
  unfold ku1
  split at h
  · rename_i u e
    rw [e]
    exact ⟨rfl, by simpa using h⟩
  · cases h
theorem kc2_e : kc2 = some (none, ku2) ∧ ku2.length = 115 := by
  have h := kok2_t
  unfold kok2 at h
  unfold ku2
  split at h
  · rename_i u e
    rw [e]
    exact ⟨rfl, by simpa using h⟩
  · cases h
theorem kn1 : ku1.all kNor1 = true := by decide +kernel
theorem kn2 : ku2.all kNor1 = true := by decide +kernel
theorem ks1 : x_sz ku1 ≤ 7302250 := by decide +kernel
theorem ks2 : x_sz ku2 ≤ 7302250 := by decide +kernel
theorem mIni_rel : Rel 0 (mIni ku2) := by
  have h : (decide (mIni ku2 0 8 9 = mIni ku2 4 45 0) && (decide (mIni ku2 0 8 13 = mIni ku2 4 45 13) && (decide (mIni ku2 0 19 3 = mIni ku2 4 45 1) && (decide (mIni ku2 0 19 4 = mIni ku2 4 45 2) && (decide (mIni ku2 0 19 5 = mIni ku2 4 45 3) && (decide (mIni ku2 0 39 0 = mIni ku2 4 45 1614) && (decide (mIni ku2 0 39 1 = mIni ku2 4 45 1615) && (decide (mIni ku2 0 39 2 = mIni ku2 4 45 1616) && (decide (mIni ku2 0 39 4 = mIni ku2 4 45 1617) && (decide (mIni ku2 0 8 13 ≤ 0) && (decide (mIni ku2 4 40 4 = mIni ku2 4 44 3) && (decide (mIni ku2 4 44 3 = 0))))))))))))) = true := by decide +kernel
  simp only [Bool.and_eq_true, decide_eq_true_eq] at h
  obtain ⟨a0, a1, a2, a3, a4, a5, a6, a7, a8, hb, h1, h0⟩ := h
  exact ⟨⟨a0, a1, a2, a3, a4, a5, a6, a7, a8⟩, hb, h1, fun e => by omega⟩
