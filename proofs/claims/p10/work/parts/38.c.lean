/-! The bits 0 .. 7 of a number. -/
theorem z_bit (a : Int32) {u : Nat} (hu : u < 8) : a.toInt / 2 ^ u % 2 = if a.toBitVec.toNat.testBit u = true then 1 else 0 := by
  have e : a.toInt = a.toBitVec.toInt := rfl
  rw [e, BitVec.toInt_eq_toNat_cond, Nat.testBit_eq_decide_div_mod_eq]
  have h := a.toBitVec.isLt
  generalize a.toBitVec.toNat = n at h ⊢
  simp only [decide_eq_true_eq]
  rcases (show u = 0 ∨ u = 1 ∨ u = 2 ∨ u = 3 ∨ u = 4 ∨ u = 5 ∨ u = 6 ∨ u = 7 by omega) with rfl | rfl | rfl | rfl | rfl | rfl | rfl | rfl <;> split <;> split <;> omega
theorem z_bite {x : Int} (h : -2147483648 ≤ x ∧ x ≤ 2147483647) {u : Nat} (hu : u < 8) : x / 2 ^ u % 2 = if (Int32.ofInt x).toBitVec.toNat.testBit u = true then 1 else 0 := by
  rw [← z_bit _ hu, z_32 h]
theorem z_orbit {x y : Int} (hx : -2147483648 ≤ x ∧ x ≤ 2147483647) (hy : -2147483648 ≤ y ∧ y ≤ 2147483647) {u : Nat} (hu : u < 8) : (Int32.ofInt x ||| Int32.ofInt y).toInt / 2 ^ u % 2 = if x / 2 ^ u % 2 = 1 ∨ y / 2 ^ u % 2 = 1 then 1 else 0 := by
  rw [z_bit _ hu, z_bite hx hu, z_bite hy hu]
  have e : (Int32.ofInt x ||| Int32.ofInt y).toBitVec.toNat = (Int32.ofInt x).toBitVec.toNat ||| (Int32.ofInt y).toBitVec.toNat := BitVec.toNat_or _ _
  rw [e, Nat.testBit_or]
  cases (Int32.ofInt x).toBitVec.toNat.testBit u <;> cases (Int32.ofInt y).toBitVec.toNat.testBit u <;> rfl
