/-- no reference to what is old -/
def kNor1 (c : xC) : Bool := match c with
  | .inr (_, fs) => fs.all fun v => match v with
    | .ref p => decide (8 ≤ p)
    | _ => true
  | .inl (_, _, .inl _) => true
  | .inl (_, _, .inr (.inl _)) => true
  | _ => false
theorem kc1_e : kc1 = some (none, ku1) ∧ ku1.length = 108 := by
  have h := kok1_t
  unfold kok1 at h
  unfold ku1
  split at h
  · rename_i u e
    rw [e]
    exact ⟨rfl, by simpa using h⟩
  · cases h
theorem kc2_e : kc2 = some (none, ku2) ∧ ku2.length = 115 := by
  have h := kok2_t
  unfold kok2 at h
  unfold ku2
  split at h
  · rename_i u e
    rw [e]
    exact ⟨rfl, by simpa using h⟩
  · cases h
theorem kn1 : ku1.all kNor1 = true := by decide +kernel
theorem kn2 : ku2.all kNor1 = true := by decide +kernel
theorem ks1 : x_sz ku1 ≤ 7302250 := by decide +kernel
theorem ks2 : x_sz ku2 ≤ 7302250 := by decide +kernel
