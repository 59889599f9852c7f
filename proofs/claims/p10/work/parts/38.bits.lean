/-! The lowest two bits of a number, and the instructions over them. -/
theorem z_m4 (a : Int32) : a.toInt % 4 = ((a.toBitVec.toNat % 4 : Nat) : Int) := by
  have e : a.toInt = a.toBitVec.toInt := rfl
  rw [e, BitVec.toInt_eq_toNat_cond]
  have h := a.toBitVec.isLt
  split <;> omega
theorem z_m4e {x : Int} (h : -2147483648 ≤ x ∧ x ≤ 2147483647) : x % 4 = (((Int32.ofInt x).toBitVec.toNat % 4 : Nat) : Int) := by
  rw [← z_m4, z_32 h]
theorem z_and4 (a b : Int32) : (a &&& b).toBitVec.toNat % 4 = (a.toBitVec.toNat % 4) &&& (b.toBitVec.toNat % 4) := by
  have e : (a &&& b).toBitVec.toNat = a.toBitVec.toNat &&& b.toBitVec.toNat := BitVec.toNat_and _ _
  rw [e]
  exact Nat.and_mod_two_pow (n := 2)
theorem z_or4 (a b : Int32) : (a ||| b).toBitVec.toNat % 4 = (a.toBitVec.toNat % 4) ||| (b.toBitVec.toNat % 4) := by
  have e : (a ||| b).toBitVec.toNat = a.toBitVec.toNat ||| b.toBitVec.toNat := BitVec.toNat_or _ _
  rw [e]
  exact Nat.or_mod_two_pow (n := 2)
theorem z_and4n : ∀ u : Fin 4, ∀ v : Fin 4, (v.val = 3 → u.val &&& v.val = u.val) ∧ (v.val = 2 → u.val &&& v.val = u.val - u.val % 2) ∧ (v.val = 1 → u.val &&& v.val = u.val % 2) ∧ (v.val = 0 → u.val &&& v.val = 0) := by decide
theorem z_or4n : ∀ u : Fin 4, ∀ v : Fin 4, (v.val = 0 → u.val ||| v.val = u.val) ∧ (v.val = 1 → u.val ||| v.val = u.val + 1 - u.val % 2) ∧ (v.val = 2 → u.val ||| v.val = 2 + u.val % 2) := by decide
/-- what the lowest two bits are behind 'and' -/
def bAnd (x y z : Int) : Prop := (y % 4 = 3 → z % 4 = x % 4) ∧ (y % 4 = 2 → z % 4 = x % 4 - x % 2) ∧ (y % 4 = 1 → z % 4 = x % 2)
def bOr (x y z : Int) : Prop := (y % 4 = 0 → z % 4 = x % 4) ∧ (y % 4 = 1 → z % 4 = x % 4 + 1 - x % 2) ∧ (y % 4 = 2 → z % 4 = 2 + x % 2)
theorem z_bAnd {x y : Int} (hx : -2147483648 ≤ x ∧ x ≤ 2147483647) (hy : -2147483648 ≤ y ∧ y ≤ 2147483647) : bAnd x y (Int32.ofInt x &&& Int32.ofInt y).toInt := by
  have h1 := z_m4e hx
  have h2 := z_m4e hy
  have h3 := z_m4 (Int32.ofInt x &&& Int32.ofInt y)
  rw [z_and4] at h3
  have h4 := z_and4n ⟨(Int32.ofInt x).toBitVec.toNat % 4, Nat.mod_lt _ (by decide)⟩ ⟨(Int32.ofInt y).toBitVec.toNat % 4, Nat.mod_lt _ (by decide)⟩
  dsimp only at h4
  generalize (Int32.ofInt x).toBitVec.toNat % 4 = u at h1 h3 h4
  generalize (Int32.ofInt y).toBitVec.toNat % 4 = v at h2 h3 h4
  generalize (Int32.ofInt x &&& Int32.ofInt y).toInt = z at h3 ⊢
  generalize u &&& v = w at h3 h4
  unfold bAnd
  omega
theorem z_bOr {x y : Int} (hx : -2147483648 ≤ x ∧ x ≤ 2147483647) (hy : -2147483648 ≤ y ∧ y ≤ 2147483647) : bOr x y (Int32.ofInt x ||| Int32.ofInt y).toInt := by
  have h1 := z_m4e hx
  have h2 := z_m4e hy
  have h3 := z_m4 (Int32.ofInt x ||| Int32.ofInt y)
  rw [z_or4] at h3
  have h4 := z_or4n ⟨(Int32.ofInt x).toBitVec.toNat % 4, Nat.mod_lt _ (by decide)⟩ ⟨(Int32.ofInt y).toBitVec.toNat % 4, Nat.mod_lt _ (by decide)⟩
  dsimp only at h4
  generalize (Int32.ofInt x).toBitVec.toNat % 4 = u at h1 h3 h4
  generalize (Int32.ofInt y).toBitVec.toNat % 4 = v at h2 h3 h4
  generalize (Int32.ofInt x ||| Int32.ofInt y).toInt = z at h3 ⊢
  generalize u ||| v = w at h3 h4
  unfold bOr
  omega
theorem z_not32 {x : Int} (hx : -2147483648 ≤ x ∧ x ≤ 2147483647) : (Int32.ofInt x ^^^ Int32.ofInt (-1)).toInt = -1 - x := by
  have e : (Int32.ofInt x ^^^ Int32.ofInt (-1)).toInt = (~~~ (Int32.ofInt x).toBitVec).toInt := by
    have e1 : (Int32.ofInt x ^^^ Int32.ofInt (-1)).toInt = ((Int32.ofInt x).toBitVec ^^^ BitVec.allOnes 32).toInt := rfl
    rw [e1, BitVec.xor_allOnes]
  rw [e, BitVec.toInt_not]
  have h2 : (Int32.ofInt x).toBitVec.toInt = x := z_32 hx
  have h3 := BitVec.toInt_eq_toNat_cond (Int32.ofInt x).toBitVec
  rw [h2] at h3
  have h4 := (Int32.ofInt x).toBitVec.isLt
  generalize (Int32.ofInt x).toBitVec.toNat = n at h3 h4 ⊢
  rw [Int.bmod_def]
  split at h3 <;> split <;> omega
theorem z_shr32 (a : Int32) : (a >>> (Int32.ofInt 0 &&& 31)).toInt = a.toInt ∧ (a >>> (Int32.ofInt 1 &&& 31)).toInt = a.toInt / 2 := by
  refine ⟨?_, ?_⟩
  · have e : (a >>> (Int32.ofInt 0 &&& 31)).toInt = (a.toBitVec.sshiftRight 0).toInt := rfl
    rw [e, BitVec.sshiftRight_zero]
    rfl
  · have e : (a >>> (Int32.ofInt 1 &&& 31)).toInt = (a.toBitVec.sshiftRight 1).toInt := rfl
    rw [e, BitVec.toInt_sshiftRight, Int.shiftRight_eq_div_pow]
    rfl
section
variable {E : zE} {d j pc : Nat} {lv : List (Nat × zV)} {st : List zV} {m : zM} {Q : Option zV → zM → Prop} {q : Nat × Nat × Nat × Nat} {c : Value} {ks : Option (List Nat)}
theorem X.andB (pc' : Nat) {x y : Int} (hi : z_I E j pc = some (.iand, 1, q, c, ks)) (hc : z_cut ks lv = lv) (hp : pc + 1 = pc') (kk : ∀ z, (-2147483648 ≤ z ∧ z ≤ 2147483647) → (y % 4 = 3 → z % 4 = x % 4) → (y % 4 = 2 → z % 4 = x % 4 - x % 2) → (y % 4 = 1 → z % 4 = x % 2) → X E d j pc' lv (zi z :: st) m Q) : X E d j pc lv (zi y :: zi x :: st) m Q := by
  intro g1 g2 g3
  have hy : -2147483648 ≤ y ∧ y ≤ 2147483647 := z_hd g2
  have hx : -2147483648 ≤ x ∧ x ≤ 2147483647 := z_hd (z_tl g2)
  exact X.ii pc' .iand (fun x y => x &&& y) hi hc hp rfl (fun _ _ => rfl) (kk _ (z_r32 _) (z_bAnd hx hy).1 (z_bAnd hx hy).2.1 (z_bAnd hx hy).2.2) g1 g2 g3
theorem X.and1B (pc' : Nat) {x : Int} (hi : z_I E j pc = some (.iand, 1, q, c, ks)) (hc : z_cut ks lv = lv) (hp : pc + 1 = pc') (kk : ∀ z, (0 ≤ z ∧ z ≤ 1) → z = x % 2 → X E d j pc' lv (zi z :: st) m Q) : X E d j pc lv (zi 1 :: zi x :: st) m Q := by
  intro g1 g2 g3
  have hx : -2147483648 ≤ x ∧ x ≤ 2147483647 := z_hd (z_tl g2)
  have h1 := z_and_le (Int32.ofInt x) (Int32.ofInt 1) (by decide)
  have h2 := (z_bAnd hx (show -2147483648 ≤ (1 : Int) ∧ (1 : Int) ≤ 2147483647 by omega)).2.2 (by decide)
  have h3 : (Int32.ofInt 1).toInt = 1 := by decide
  rw [h3] at h1
  exact X.ii pc' .iand (fun x y => x &&& y) hi hc hp rfl (fun _ _ => rfl) (kk _ h1 (by omega)) g1 g2 g3
theorem X.orB (pc' : Nat) {x y : Int} (hi : z_I E j pc = some (.ior, 1, q, c, ks)) (hc : z_cut ks lv = lv) (hp : pc + 1 = pc') (kk : ∀ z, (-2147483648 ≤ z ∧ z ≤ 2147483647) → (y % 4 = 0 → z % 4 = x % 4) → (y % 4 = 1 → z % 4 = x % 4 + 1 - x % 2) → (y % 4 = 2 → z % 4 = 2 + x % 2) → X E d j pc' lv (zi z :: st) m Q) : X E d j pc lv (zi y :: zi x :: st) m Q := by
  intro g1 g2 g3
  have hy : -2147483648 ≤ y ∧ y ≤ 2147483647 := z_hd g2
  have hx : -2147483648 ≤ x ∧ x ≤ 2147483647 := z_hd (z_tl g2)
  exact X.ii pc' .ior (fun x y => x ||| y) hi hc hp rfl (fun _ _ => rfl) (kk _ (z_r32 _) (z_bOr hx hy).1 (z_bOr hx hy).2.1 (z_bOr hx hy).2.2) g1 g2 g3
theorem X.notB (pc' : Nat) {x : Int} (hi : z_I E j pc = some (.ixor, 1, q, c, ks)) (hc : z_cut ks lv = lv) (hp : pc + 1 = pc') (kk : X E d j pc' lv (zi (-1 - x) :: st) m Q) : X E d j pc lv (zi (-1) :: zi x :: st) m Q := by
  intro g1 g2 g3
  have hx : -2147483648 ≤ x ∧ x ≤ 2147483647 := z_hd (z_tl g2)
  refine X.ii pc' .ixor (fun x y => x ^^^ y) hi hc hp rfl (fun _ _ => rfl) ?_ g1 g2 g3
  show X E d j pc' lv (zi (Int32.ofInt x ^^^ Int32.ofInt (-1)).toInt :: st) m Q
  rw [z_not32 hx]
  exact kk
theorem X.shrB (pc' : Nat) {x y : Int} (hi : z_I E j pc = some (.ishr, 1, q, c, ks)) (hc : z_cut ks lv = lv) (hp : pc + 1 = pc') (kk : ∀ z, (-2147483648 ≤ z ∧ z ≤ 2147483647) → (y = 0 → z = x) → (y = 1 → z = x / 2) → X E d j pc' lv (zi z :: st) m Q) : X E d j pc lv (zi y :: zi x :: st) m Q := by
  intro g1 g2 g3
  have hx : -2147483648 ≤ x ∧ x ≤ 2147483647 := z_hd (z_tl g2)
  refine X.ii pc' .ishr (fun x y => x >>> (y &&& 31)) hi hc hp rfl (fun _ _ => rfl) (kk _ (z_r32 _) (fun e => ?_) (fun e => ?_)) g1 g2 g3
  · rw [e]
    exact ((z_shr32 _).1).trans (z_32 hx)
  · rw [e, show (Int32.ofInt x >>> (Int32.ofInt 1 &&& 31)).toInt = (Int32.ofInt x).toInt / 2 from (z_shr32 _).2, z_32 hx]
theorem X.shlB (pc' : Nat) {y : Int} (hi : z_I E j pc = some (.ishl, 1, q, c, ks)) (hc : z_cut ks lv = lv) (hp : pc + 1 = pc') (hy : 0 ≤ y ∧ y ≤ 4) (kk : ∀ z, (0 ≤ z ∧ z ≤ 16) → (y = 0 → z = 1) → (y = 1 → z = 2) → (2 ≤ y → z % 4 = 0) → X E d j pc' lv (zi z :: st) m Q) : X E d j pc lv (zi y :: zi 1 :: st) m Q := by
  refine X.ii pc' .ishl (fun x y => x <<< (y &&& 31)) hi hc hp rfl (fun _ _ => rfl) ?_
  rcases (show y = 0 ∨ y = 1 ∨ y = 2 ∨ y = 3 ∨ y = 4 by omega) with rfl | rfl | rfl | rfl | rfl
  · exact kk 1 (by omega) (by omega) (by omega) (by omega)
  · exact kk 2 (by omega) (by omega) (by omega) (by omega)
  · exact kk 4 (by omega) (by omega) (by omega) (by omega)
  · exact kk 8 (by omega) (by omega) (by omega) (by omega)
  · exact kk 16 (by omega) (by omega) (by omega) (by omega)
end
