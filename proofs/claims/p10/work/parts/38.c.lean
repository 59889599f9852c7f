/-! The bits 0 .. 7 of a number. -/
theorem z_bit (a : Int32) {u : Nat} (hu : u < 8) : a.toInt / 2 ^ u % 2 = if a.toBitVec.toNat.testBit u = true then 1 else 0 := by
  have e : a.toInt = a.toBitVec.toInt := rfl
  rw [e, BitVec.toInt_eq_toNat_cond, Nat.testBit_eq_decide_div_mod_eq]
  have h := a.toBitVec.isLt
  generalize a.toBitVec.toNat = n at h ⊢
  simp only [decide_eq_true_eq]
  rcases (show u = 0 ∨ u = 1 ∨ u = 2 ∨ u = 3 ∨ u = 4 ∨ u = 5 ∨ u = 6 ∨ u = 7 by omega) with rfl | rfl | rfl | rfl | rfl | rfl | rfl | rfl <;> split <;> split <;> omega
theorem z_bite {x : Int} (h : -2147483648 ≤ x ∧ x ≤ 2147483647) {u : Nat} (hu : u < 8) : x / 2 ^ u % 2 = if (Int32.ofInt x).toBitVec.toNat.testBit u = true then 1 else 0 := by
  rw [← z_bit _ hu, z_32 h]
theorem z_orbit {x y : Int} (hx : -2147483648 ≤ x ∧ x ≤ 2147483647) (hy : -2147483648 ≤ y ∧ y ≤ 2147483647) {u : Nat} (hu : u < 8) : (Int32.ofInt x ||| Int32.ofInt y).toInt / 2 ^ u % 2 = if x / 2 ^ u % 2 = 1 ∨ y / 2 ^ u % 2 = 1 then 1 else 0 := by
  rw [z_bit _ hu, z_bite hx hu, z_bite hy hu]
  have e : (Int32.ofInt x ||| Int32.ofInt y).toBitVec.toNat = (Int32.ofInt x).toBitVec.toNat ||| (Int32.ofInt y).toBitVec.toNat := BitVec.toNat_or _ _
  rw [e, Nat.testBit_or]
  cases (Int32.ofInt x).toBitVec.toNat.testBit u <;> cases (Int32.ofInt y).toBitVec.toNat.testBit u <;> rfl
theorem z_shrN (a : Int32) {y : Int} (hy : 0 ≤ y ∧ y ≤ 7) : (a >>> (Int32.ofInt y &&& 31)).toInt = a.toInt / 2 ^ y.toNat := by
  have key : ∀ k : Nat, (a.toBitVec.sshiftRight k).toInt = a.toInt / 2 ^ k := fun k => by
    rw [BitVec.toInt_sshiftRight, Int.shiftRight_eq_div_pow]
    rfl
  rcases (show y = 0 ∨ y = 1 ∨ y = 2 ∨ y = 3 ∨ y = 4 ∨ y = 5 ∨ y = 6 ∨ y = 7 by omega) with rfl | rfl | rfl | rfl | rfl | rfl | rfl | rfl
  · exact key 0
  · exact key 1
  · exact key 2
  · exact key 3
  · exact key 4
  · exact key 5
  · exact key 6
  · exact key 7
section
variable {E : zE} {d j pc : Nat} {lv : List (Nat × zV)} {st : List zV} {m : zM} {Q : Option zV → zM → Prop} {q : Nat × Nat × Nat × Nat} {c : Value} {ks : Option (List Nat)}
theorem X.shrN (pc' : Nat) {x y : Int} (hi : z_I E j pc = some (.ishr, 1, q, c, ks)) (hc : z_cut ks lv = lv) (hp : pc + 1 = pc') (hy : 0 ≤ y ∧ y ≤ 7) (kk : ∀ z, (-2147483648 ≤ z ∧ z ≤ 2147483647) → z = x / 2 ^ y.toNat → X E d j pc' lv (zi z :: st) m Q) : X E d j pc lv (zi y :: zi x :: st) m Q := by
  intro g1 g2 g3
  have hx : -2147483648 ≤ x ∧ x ≤ 2147483647 := z_hd (z_tl g2)
  exact X.ii pc' .ishr (fun x y => x >>> (y &&& 31)) hi hc hp rfl (fun _ _ => rfl) (kk _ (z_r32 _) (by rw [z_shrN _ hy, z_32 hx])) g1 g2 g3
theorem X.orN (pc' : Nat) {x y : Int} (hi : z_I E j pc = some (.ior, 1, q, c, ks)) (hc : z_cut ks lv = lv) (hp : pc + 1 = pc') (kk : ∀ z, (-2147483648 ≤ z ∧ z ≤ 2147483647) → (∀ u : Nat, u < 8 → z / 2 ^ u % 2 = if x / 2 ^ u % 2 = 1 ∨ y / 2 ^ u % 2 = 1 then 1 else 0) → X E d j pc' lv (zi z :: st) m Q) : X E d j pc lv (zi y :: zi x :: st) m Q := by
  intro g1 g2 g3
  have hy : -2147483648 ≤ y ∧ y ≤ 2147483647 := z_hd g2
  have hx : -2147483648 ≤ x ∧ x ≤ 2147483647 := z_hd (z_tl g2)
  exact X.ii pc' .ior (fun x y => x ||| y) hi hc hp rfl (fun _ _ => rfl) (kk _ (z_r32 _) (fun u hu => z_orbit hx hy hu)) g1 g2 g3
end
