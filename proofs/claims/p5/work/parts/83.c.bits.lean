/-! Bits of small numbers. -/
def zorN (x y : Int) : Int := ((x.toNat ||| y.toNat : Nat) : Int)
theorem zor_eq {x y : Int} (hx : 0 ≤ x ∧ x < 2147483648) (hy : 0 ≤ y ∧ y < 2147483648) : zor x y = zorN x y := by
  have e0 : zor x y = (Int32.ofInt x ||| Int32.ofInt y).toBitVec.toInt := rfl
  have e1 : (Int32.ofInt x ||| Int32.ofInt y).toBitVec.toNat = (Int32.ofInt x).toBitVec.toNat ||| (Int32.ofInt y).toBitVec.toNat := BitVec.toNat_or _ _
  have e2 : (Int32.ofInt x).toBitVec.toNat = x.toNat := by
    have h : (Int32.ofInt x).toBitVec.toNat = (x % 4294967296).toNat := BitVec.toNat_ofInt (n := 32) x
    rw [h]
    omega
  have e3 : (Int32.ofInt y).toBitVec.toNat = y.toNat := by
    have h : (Int32.ofInt y).toBitVec.toNat = (y % 4294967296).toNat := BitVec.toNat_ofInt (n := 32) y
    rw [h]
    omega
  rw [e2, e3] at e1
  have h4 : x.toNat ||| y.toNat < 2 ^ 31 := Nat.or_lt_two_pow (by omega) (by omega)
  rw [e0, BitVec.toInt_eq_toNat_cond, e1, if_pos (by omega)]
  rfl
theorem zorL_eq {x y : Int} (hx : 0 ≤ x ∧ x < 2147483648) (hy : 0 ≤ y ∧ y < 2147483648) : zorL x y = zorN x y := by
  have e0 : zorL x y = (Int64.ofInt x ||| Int64.ofInt y).toBitVec.toInt := rfl
  have e1 : (Int64.ofInt x ||| Int64.ofInt y).toBitVec.toNat = (Int64.ofInt x).toBitVec.toNat ||| (Int64.ofInt y).toBitVec.toNat := BitVec.toNat_or _ _
  have e2 : (Int64.ofInt x).toBitVec.toNat = x.toNat := by
    have h : (Int64.ofInt x).toBitVec.toNat = (x % 18446744073709551616).toNat := BitVec.toNat_ofInt (n := 64) x
    rw [h]
    omega
  have e3 : (Int64.ofInt y).toBitVec.toNat = y.toNat := by
    have h : (Int64.ofInt y).toBitVec.toNat = (y % 18446744073709551616).toNat := BitVec.toNat_ofInt (n := 64) y
    rw [h]
    omega
  rw [e2, e3] at e1
  have h4 : x.toNat ||| y.toNat < 2 ^ 31 := Nat.or_lt_two_pow (by omega) (by omega)
  rw [e0, BitVec.toInt_eq_toNat_cond, e1, if_pos (by omega)]
  rfl
theorem zorN_lt {x y : Int} (k : Nat) (hx : 0 ≤ x ∧ x < (2 ^ k : Nat)) (hy : 0 ≤ y ∧ y < (2 ^ k : Nat)) : 0 ≤ zorN x y ∧ zorN x y < (2 ^ k : Nat) := by
  have h := Nat.or_lt_two_pow (n := k) (x := x.toNat) (y := y.toNat) (by omega) (by omega)
  unfold zorN
  omega
theorem zorN_b {x y : Int} (hx : 0 ≤ x ∧ x < 256) (hy : 0 ≤ y ∧ y < 256) : 0 ≤ zorN x y ∧ zorN x y < 256 := zorN_lt 8 hx hy
theorem zorN_32 {x y : Int} (hx : 0 ≤ x ∧ x < 32) (hy : 0 ≤ y ∧ y < 32) : 0 ≤ zorN x y ∧ zorN x y < 32 := zorN_lt 5 hx hy
theorem zorN_0 {x : Int} (hx : 0 ≤ x) : zorN x 0 = x := by
  unfold zorN
  rw [show (0 : Int).toNat = 0 from rfl, Nat.or_zero]
  omega
theorem zorN_self {x y : Int} (hx : 0 ≤ x) : zorN (zorN x y) y = zorN x y := by
  unfold zorN
  rw [Int.toNat_natCast, Nat.or_assoc, Nat.or_self]
theorem zorN_rot {x y z : Int} : zorN (zorN x y) z = zorN (zorN x z) y := by
  unfold zorN
  rw [Int.toNat_natCast, Int.toNat_natCast, Nat.or_assoc, Nat.or_comm y.toNat, ← Nat.or_assoc]
/-- what is told of a block: both ways -/
theorem stat_eq {m off told z1 z2 : Int} (hm : 0 ≤ m ∧ m < 32) (ht : told = 0 ∨ told = 64) (p1 p2 : Prop) [Decidable p1] [Decidable p2] :
    (zn (if off ≤ 0 then m else zn (zor m 32) fun z => z) fun a => zn (if p1 then a else zn (zor a 128) fun z => z) fun a => zn (zor a told) fun a => zn (if p2 then a else zn (zor a 128) fun z => z) fun a => a) =
    (zn (if off ≤ 0 then (0 : Int) else 32) fun v => zn (zorL m v) fun a => zn (zorL a told) fun a => zn (if (if p1 then (0 : Int) else 1) = 1 then (128 : Int) else if p2 then 0 else 128) fun v => zn (zorL a v) fun a => a) ∧
    (0 ≤ (zn (if off ≤ 0 then (0 : Int) else 32) fun v => zn (zorL m v) fun a => zn (zorL a told) fun a => zn (if (if p1 then (0 : Int) else 1) = 1 then (128 : Int) else if p2 then 0 else 128) fun v => zn (zorL a v) fun a => a) ∧ (zn (if off ≤ 0 then (0 : Int) else 32) fun v => zn (zorL m v) fun a => zn (zorL a told) fun a => zn (if (if p1 then (0 : Int) else 1) = 1 then (128 : Int) else if p2 then 0 else 128) fun v => zn (zorL a v) fun a => a) < 256) := by
  simp only [zn_a]
  have r32 : zor m 32 = zorN m 32 := zor_eq (by omega) (by omega)
  have l32 : zorL m 32 = zorN m 32 := zorL_eq (by omega) (by omega)
  have l0 : zorL m 0 = m := by rw [zorL_eq (by omega) (by omega), zorN_0 hm.1]
  have b32 := zorN_b (x := m) (y := 32) (by omega) (by omega)
  obtain ⟨a, ea, e1, e2⟩ : ∃ a, (0 ≤ a ∧ a < 256) ∧ (if off ≤ 0 then m else zor m 32) = a ∧ zorL m (if off ≤ 0 then (0 : Int) else 32) = a := by
    by_cases h : off ≤ 0
    · rw [if_pos h, if_pos h]
      exact ⟨m, by omega, rfl, l0⟩
    · rw [if_neg h, if_neg h, r32, l32]
      exact ⟨_, b32, rfl, rfl⟩
  rw [e1, e2]
  clear e1 e2 r32 l32 l0 b32
  have k1 : zor a 128 = zorN a 128 := zor_eq (by omega) (by omega)
  have kb1 := zorN_b (x := a) (y := 128) ea (by omega)
  have k2 : zorL a told = zorN a told := zorL_eq (by omega) (by omega)
  have k2' : zor a told = zorN a told := zor_eq (by omega) (by omega)
  have kb2 := zorN_b (x := a) (y := told) ea (by omega)
  have k3 : zor (zorN a 128) told = zorN (zorN a 128) told := zor_eq (by omega) (by omega)
  have kb3 := zorN_b (x := zorN a 128) (y := told) kb1 (by omega)
  have k4 : zorL (zorN a told) 128 = zorN (zorN a told) 128 := zorL_eq (by omega) (by omega)
  have kb4 := zorN_b (x := zorN a told) (y := 128) kb2 (by omega)
  have k4' : zor (zorN a told) 128 = zorN (zorN a told) 128 := zor_eq (by omega) (by omega)
  have k5 : zor (zorN (zorN a 128) told) 128 = zorN (zorN (zorN a 128) told) 128 := zor_eq (by omega) (by omega)
  have k6 : zorL (zorN a told) 0 = zorN a told := by rw [zorL_eq (by omega) (by omega), zorN_0 kb2.1]
  rw [k2]
  by_cases h1 : p1
  · rw [if_pos h1, if_pos h1, if_neg (show ¬ (0 : Int) = 1 by decide), k2']
    by_cases h2 : p2
    · rw [if_pos h2, if_pos h2, k6]
      exact ⟨rfl, kb2⟩
    · rw [if_neg h2, if_neg h2, k4, k4']
      exact ⟨rfl, kb4⟩
  · rw [if_neg h1, if_neg h1, if_pos (show (1 : Int) = 1 from rfl), k1, k3, k4]
    refine ⟨?_, kb4⟩
    by_cases h2 : p2
    · rw [if_pos h2]
      exact zorN_rot
    · rw [if_neg h2, k5, zorN_rot (x := a), zorN_self kb2.1]
