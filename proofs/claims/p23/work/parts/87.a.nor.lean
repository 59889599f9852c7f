/-- no reference to what is old -/
def kNor1 (c : xC) : Bool := match c with
  | .inr (_, fs) => fs.all fun v => match v with
    | .ref p => decide (8 ≤ p)
    | _ => true
  | .inl (_, _, .inl _) => true
  | .inl (_, _, .inr (.inl _)) => true
  | _ => false
theorem and_t {a b : Bool} (h : (a && b) = true) : a = true ∧ b = true := by simpa only [Bool.and_eq_true] using h
/-- all that the kernel looks at behind the constructors, in one run -/
theorem kEnd_t : (kok1 && (kok2 && (kAll ku2 && (kFlag ku2 && (ku1.all kNor1 && (ku2.all kNor1 && (decide (x_sz ku1 ≤ 7302250) && (decide (x_sz ku2 ≤ 7302250) && kRel3 (mIni ku2))))))))) = true := by decide +kernel
theorem kok1_t : kok1 = true := (and_t kEnd_t).1
theorem kEnd_2 : (kAll ku2 && (kFlag ku2 && (ku1.all kNor1 && (ku2.all kNor1 && (decide (x_sz ku1 ≤ 7302250) && (decide (x_sz ku2 ≤ 7302250) && kRel3 (mIni ku2))))))) = true := (and_t (and_t kEnd_t).2).2
theorem kok2_t : kok2 = true := (and_t (and_t kEnd_t).2).1
theorem kAll_t : kAll ku2 = true := (and_t kEnd_2).1
theorem kFlag_t : kFlag ku2 = true := (and_t (and_t kEnd_2).2).1
theorem kEnd_4 : (ku1.all kNor1 && (ku2.all kNor1 && (decide (x_sz ku1 ≤ 7302250) && (decide (x_sz ku2 ≤ 7302250) && kRel3 (mIni ku2))))) = true := (and_t (and_t kEnd_2).2).2
theorem kn1 : ku1.all kNor1 = true := (and_t kEnd_4).1
theorem kn2 : ku2.all kNor1 = true := (and_t (and_t kEnd_4).2).1
theorem kEnd_6 : (decide (x_sz ku1 ≤ 7302250) && (decide (x_sz ku2 ≤ 7302250) && kRel3 (mIni ku2))) = true := (and_t (and_t kEnd_4).2).2
theorem ks1 : x_sz ku1 ≤ 7302250 := of_decide_eq_true (and_t kEnd_6).1
theorem ks2 : x_sz ku2 ≤ 7302250 := of_decide_eq_true (and_t (and_t kEnd_6).2).1
theorem kRel_t : kRel3 (mIni ku2) = true := (and_t (and_t kEnd_6).2).2
theorem kc1_e : kc1 = some (none, ku1) ∧ ku1.length = 108 := kK_e (n := 108) (c := kc1) kok1_t
theorem kc2_e : kc2 = some (none, ku2) ∧ ku2.length = 115 := kK_e (n := 115) (c := kc2) kok2_t
