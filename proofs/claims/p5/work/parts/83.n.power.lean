/-! What a second, what n seconds of one kind do to registers, credit and block. -/
def qd (P Q : Int) : Int := if P < 0 then (if Q < 0 then 3 else 2) else (if Q < 0 then 4 else 1)
/-- what a second adds to a register -/
def dl (P Q S q : Int) : Int := if q = 0 then max P 0 else if q = 1 then max (-P) 0 else if q = 6 then S else if q = 1 + qd P Q then max Q (-Q) else 0
theorem qd_r (P Q : Int) : 1 ≤ qd P Q ∧ qd P Q ≤ 4 := by
  unfold qd
  repeat' split
  all_goals omega
theorem dl_b {P Q S : Int} (hP : -12000000 ≤ P ∧ P ≤ 12000000) (hQ : -12000000 ≤ Q ∧ Q ≤ 12000000) (hS : 0 ≤ S ∧ S ≤ 17000000) (q : Int) : 0 ≤ dl P Q S q ∧ dl P Q S q ≤ 17000000 := by
  unfold dl
  repeat' split
  all_goals omega
theorem qd_mul {P Q n : Int} (hn : 1 ≤ n) : qd (P * n) (Q * n) = qd P Q := by
  have a : P * n < 0 ↔ P < 0 := ⟨fun h => by
    by_cases h1 : 0 ≤ P
    · have := Int.mul_nonneg h1 (show 0 ≤ n by omega)
      omega
    · omega, fun h => Int.mul_neg_of_neg_of_pos h (by omega)⟩
  have b : Q * n < 0 ↔ Q < 0 := ⟨fun h => by
    by_cases h1 : 0 ≤ Q
    · have := Int.mul_nonneg h1 (show 0 ≤ n by omega)
      omega
    · omega, fun h => Int.mul_neg_of_neg_of_pos h (by omega)⟩
  unfold qd
  simp only [a, b]
theorem max_mul {P n : Int} (hn : 0 ≤ n) : max (P * n) 0 = n * max P 0 ∧ max (P * n) (-(P * n)) = n * max P (-P) := by
  by_cases h : 0 ≤ P
  · have h1 := Int.mul_nonneg h hn
    rw [show max P 0 = P by omega, show max P (-P) = P by omega, Int.mul_comm n P]
    omega
  · have h1 := Int.mul_nonneg (show 0 ≤ -P by omega) hn
    rw [Int.neg_mul] at h1
    rw [show max P 0 = 0 by omega, show max P (-P) = -P by omega, Int.mul_zero, Int.mul_neg, Int.mul_comm n P]
    omega
theorem mul_le3 {a b A B : Int} (h0 : 0 ≤ a) (h1 : a ≤ A) (h2 : 0 ≤ b) (h3 : b ≤ B) : 0 ≤ a * b ∧ a * b ≤ A * B := ⟨Int.mul_nonneg h0 h2, Int.mul_le_mul h1 h3 h2 (by omega)⟩
theorem tdiv_nn {a b : Int} (h : 0 ≤ a) : a.tdiv b = a / b := Int.tdiv_eq_ediv_of_nonneg h
theorem ediv_b {a b A : Int} (h0 : 0 ≤ a) (h1 : a ≤ A) (hb : 1 ≤ b) : 0 ≤ a / b ∧ a / b ≤ A := ⟨Int.ediv_nonneg h0 (by omega), Int.le_trans (Int.ediv_le_self _ h0) h1⟩
/-- a register's number is added to: the class -/
theorem count_c {m : zM} {g : Nat} {tar P Q S n : Int} (hP : -12000000 ≤ P ∧ P ≤ 12000000) (hQ : -12000000 ≤ Q ∧ Q ≤ 12000000) (hS : 0 ≤ S ∧ S ≤ 17000000) (hn : 1 ≤ n ∧ n ≤ 3600) (ht : 0 ≤ tar ∧ tar < 4) (hr : ∀ i, 0 ≤ i → i < 28 → 0 ≤ m g 24 i ∧ m g 24 i ≤ 1000000000000000) :
    (∀ q t, 0 ≤ q → q < 7 → 0 ≤ t → t < 4 → f50_1 g tar (P * n) (Q * n) (S * n) m g 24 (q * 4 + t) = m g 24 (q * 4 + t) + if t = tar then n * dl P Q S q else 0) ∧ ∀ g' k, (g' ≠ g ∨ k ≠ 24) → f50_1 g tar (P * n) (Q * n) (S * n) m g' k = m g' k := by
  obtain ⟨p1, p2⟩ := max_mul (P := P) (n := n) (by omega)
  obtain ⟨q1, q2⟩ := max_mul (P := Q) (n := n) (by omega)
  have p3 := (max_mul (P := -P) (n := n) (by omega)).1
  rw [Int.neg_mul] at p3
  have d0 := mul_le3 (a := n) (b := max P 0) (A := 3600) (B := 12000000) (by omega) (by omega) (by omega) (by omega)
  have d1 := mul_le3 (a := n) (b := max (-P) 0) (A := 3600) (B := 12000000) (by omega) (by omega) (by omega) (by omega)
  have d2 := mul_le3 (a := n) (b := max Q (-Q)) (A := 3600) (B := 12000000) (by omega) (by omega) (by omega) (by omega)
  have d6 := mul_le3 (a := n) (b := S) (A := 3600) (B := 17000000) (by omega) (by omega) (by omega) (by omega)
  have hqd := qd_r P Q
  -- import, export
  obtain ⟨m1, e1⟩ : ∃ x, x = (if P * n ≤ 0 then z_upd m g 24 (4 + tar) (w64 (m g 24 (4 + tar) - P * n)) else z_upd m g 24 (0 + tar) (w64 (m g 24 (0 + tar) + P * n))) := ⟨_, rfl⟩
  have a1 : ∀ i, m1 g 24 i = m g 24 i + if i = tar then n * max P 0 else if i = 4 + tar then n * max (-P) 0 else 0 := fun i => by
    have r0 := hr tar (by omega) (by omega)
    have r4 := hr (4 + tar) (by omega) (by omega)
    rw [e1]
    by_cases h : P * n ≤ 0
    · rw [if_pos h, w64_id (by omega), zu_row]
      by_cases e : i = 4 + tar
      · rw [e, fu_s, if_neg (by omega), if_pos rfl]
        omega
      · rw [fu_i _ _ e, if_neg e]
        by_cases e2 : i = tar
        · rw [if_pos e2]
          omega
        · rw [if_neg e2]
          omega
    · rw [if_neg h, Int.zero_add, w64_id (by omega), zu_row]
      by_cases e : i = tar
      · rw [e, fu_s, if_pos rfl]
        omega
      · rw [fu_i _ _ e, if_neg e]
        by_cases e2 : i = 4 + tar
        · rw [if_pos e2]
          omega
        · rw [if_neg e2]
          omega
  have o1 : ∀ g' k, (g' ≠ g ∨ k ≠ 24) → m1 g' k = m g' k := fun g' k hk => by
    rw [e1]
    split
    · rcases hk with hk | hk
      · rw [zu_g _ _ _ hk]
      · rw [zu_k _ _ _ hk]
    · rcases hk with hk | hk
      · rw [zu_g _ _ _ hk]
      · rw [zu_k _ _ _ hk]
  have b1 : ∀ i, 0 ≤ i → i < 28 → 0 ≤ m1 g 24 i ∧ m1 g 24 i ≤ 1001000000000000 := fun i i0 i1 => by
    have := hr i i0 i1
    rw [a1 i]
    repeat' split
    all_goals omega
  have ef : f50_1 g tar (P * n) (Q * n) (S * n) m = z_upd (z_upd m1 g 24 ((1 + qd P Q) * 4 + tar) (m1 g 24 ((1 + qd P Q) * 4 + tar) + n * max Q (-Q))) g 24 (24 + tar) (z_upd m1 g 24 ((1 + qd P Q) * 4 + tar) (m1 g 24 ((1 + qd P Q) * 4 + tar) + n * max Q (-Q)) g 24 (24 + tar) + n * S) := by
    unfold f50_1
    simp only [zn_a, zs_a]
    rw [← e1]
    have eq : f51_1 (P * n) (Q * n) m1 = qd P Q := by
      rw [← qd_mul (P := P) (Q := Q) hn.1]
      rfl
    have r2 := b1 ((1 + qd P Q) * 4 + tar) (by omega) (by omega)
    rw [eq, show (2 + qd P Q - 1) * 4 + tar = (1 + qd P Q) * 4 + tar by omega, q2, w64_id (x := n * max Q (-Q)) (by omega), w64_id (x := m1 g 24 ((1 + qd P Q) * 4 + tar) + n * max Q (-Q)) (by omega)]
    have e6 : z_upd m1 g 24 ((1 + qd P Q) * 4 + tar) (m1 g 24 ((1 + qd P Q) * 4 + tar) + n * max Q (-Q)) g 24 (24 + tar) = m1 g 24 (24 + tar) := by rw [zu_row, fu_i _ _ (by omega)]
    have r6 := b1 (24 + tar) (by omega) (by omega)
    rw [e6, Int.mul_comm S n, w64_id (by omega)]
  rw [ef]
  refine ⟨fun q t h0 h1 h2 h3 => ?_, fun g' k hk => ?_⟩
  · rw [zu_row, zu_row]
    unfold dl
    by_cases ht4 : t = tar
    · subst ht4
      rw [if_pos rfl]
      by_cases e6 : q = 6
      · rw [if_neg (by omega), if_neg (by omega), if_pos e6, e6, show (6 : Int) * 4 + t = 24 + t by omega, fu_s, fu_i _ _ (by omega), a1, if_neg (by omega), if_neg (by omega), Int.add_zero]
      · rw [fu_i _ _ (by omega), if_neg e6]
        by_cases e0 : q = 0
        · rw [if_pos e0, e0, fu_i _ _ (by omega), a1, if_pos (by omega)]
        · rw [if_neg e0]
          by_cases e1' : q = 1
          · rw [if_pos e1', e1', fu_i _ _ (by omega), a1, if_neg (by omega), if_pos (by omega)]
          · rw [if_neg e1']
            by_cases e2 : q = 1 + qd P Q
            · rw [if_pos e2, e2, fu_s, a1, if_neg (by omega), if_neg (by omega), Int.add_zero]
            · rw [if_neg e2, fu_i _ _ (by omega), a1, if_neg (by omega), if_neg (by omega), Int.mul_zero]
    · rw [if_neg ht4, fu_i _ _ (by omega), fu_i _ _ (by omega), a1, if_neg (by omega), if_neg (by omega)]
  · rw [← o1 g' k hk]
    rcases hk with hk | hk
    · rw [zu_g _ _ _ hk, zu_g _ _ _ hk]
    · rw [zu_k _ _ _ hk, zu_k _ _ _ hk]
