/-! The class: n seconds flow. -/
theorem block_c {m : zM} {g : Nat} {P S n : Int} (hP : -12000000 ≤ P ∧ P ≤ 12000000) (hS : 0 ≤ S ∧ S ≤ 17000000) (hn : 1 ≤ n ∧ n ≤ 3600) (h3 : 0 ≤ m g 27 3 ∧ m g 27 3 ≤ 1000000000000000) (h4 : 0 ≤ m g 27 4 ∧ m g 27 4 ≤ 1000000000000000) (h5 : 0 ≤ m g 27 5 ∧ m g 27 5 ≤ 1000000000000000) :
    (∀ i, f52_1 g (P * n) (S * n) m g 27 i = m g 27 i + if i = 3 then n * max P 0 else if i = 4 then n * max (-P) 0 else if i = 5 then n * S else 0) ∧ ∀ g' k, (g' ≠ g ∨ k ≠ 27) → f52_1 g (P * n) (S * n) m g' k = m g' k := by
  obtain ⟨p1, p2⟩ := max_mul (P := P) (n := n) (by omega)
  have p3 := (max_mul (P := -P) (n := n) (by omega)).1
  rw [Int.neg_mul] at p3
  have d0 := mul_le3 (a := n) (b := max P 0) (A := 3600) (B := 12000000) (by omega) (by omega) (by omega) (by omega)
  have d1 := mul_le3 (a := n) (b := max (-P) 0) (A := 3600) (B := 12000000) (by omega) (by omega) (by omega) (by omega)
  have d6 := mul_le3 (a := n) (b := S) (A := 3600) (B := 17000000) (by omega) (by omega) (by omega) (by omega)
  unfold f52_1
  simp only [zn_a, zs_a]
  by_cases h : P * n ≤ 0
  · rw [if_pos h]
    have e5 : z_upd m g 27 4 (w64 (m g 27 4 - P * n)) g 27 5 = m g 27 5 := by rw [zu_row, fu_i _ _ (by decide)]
    rw [e5, Int.mul_comm S n, w64_id (by omega), w64_id (by omega)]
    refine ⟨fun i => ?_, fun g' k hk => ?_⟩
    · rw [zu_row, zu_row]
      unfold fu
      repeat' split
      all_goals first | omega | (subst_vars; omega)
    · rcases hk with hk | hk
      · rw [zu_g _ _ _ hk, zu_g _ _ _ hk]
      · rw [zu_k _ _ _ hk, zu_k _ _ _ hk]
  · rw [if_neg h]
    have e5 : z_upd m g 27 3 (w64 (m g 27 3 + P * n)) g 27 5 = m g 27 5 := by rw [zu_row, fu_i _ _ (by decide)]
    rw [e5, Int.mul_comm S n, w64_id (by omega), w64_id (by omega)]
    refine ⟨fun i => ?_, fun g' k hk => ?_⟩
    · rw [zu_row, zu_row]
      unfold fu
      repeat' split
      all_goals first | omega | (subst_vars; omega)
    · rcases hk with hk | hk
      · rw [zu_g _ _ _ hk, zu_g _ _ _ hk]
      · rw [zu_k _ _ _ hk, zu_k _ _ _ hk]
/-- the numbers of the class within which it flows -/
def FB (g : Nat) (m : zM) : Prop := (-12000000 ≤ m g 22 3 ∧ m g 22 3 ≤ 12000000) ∧ (-12000000 ≤ m g 22 7 ∧ m g 22 7 ≤ 12000000) ∧ (0 ≤ m g 19 6 ∧ m g 19 6 ≤ 17000000) ∧ (∀ i, 0 ≤ i → i < 28 → 0 ≤ m g 24 i ∧ m g 24 i ≤ 1000000000000000) ∧ (1 ≤ m g 10 1 ∧ m g 10 1 ≤ 1000000) ∧ (∀ t, 0 ≤ t → t < 4 → 0 ≤ m g 10 (6 + t) ∧ m g 10 (6 + t) ≤ 100) ∧ (-1000000000000000000 ≤ m g 8 10 ∧ m g 8 10 ≤ 1000000000000000000) ∧
  (0 ≤ m g 27 3 ∧ m g 27 3 ≤ 1000000000000000) ∧ (0 ≤ m g 27 4 ∧ m g 27 4 ≤ 1000000000000000) ∧ (0 ≤ m g 27 5 ∧ m g 27 5 ≤ 1000000000000000) ∧ (0 ≤ m g 8 14 ∧ m g 8 14 ≤ 1000000000) ∧ (m g 8 12 = 0 ∨ m g 8 12 = 1)
/-- whether it creeps -/
def crp (op P Q start : Int) : Int := if op = 0 then (if max P (-P) < start ∧ max Q (-Q) < start then 1 else 0) else if 0 < start then 1 else 0
theorem crp_c {m : zM} {g : Nat} (h : FB g m) : f44_1 g m = crp (m g 8 12) (m g 22 3) (m g 22 7) (m g 10 0) := by
  obtain ⟨hP, hQ, -, -, -, -, -, -, -, -, -, ho⟩ := h
  unfold f44_1 crp
  simp only [zn_a]
  rcases ho with e | e
  · rw [if_pos e, if_pos e, if_pos e, w64_id (by omega), w64_id (by omega)]
    repeat' split
    all_goals first | rfl | omega
  · have z : w64 (max (0 : Int) (-0)) = 0 := by rw [show max (0 : Int) (-0) = 0 by decide, w64_id (x := 0) (by omega)]
    simp only [if_neg (show ¬ m g 8 12 = 0 by omega)]
    rw [z]
    repeat' split
    all_goals first | rfl | omega
/-- what a second adds, if anything -/
def DL (op P Q S start q : Int) : Int := if crp op P Q start = 0 ∧ op = 0 then dl P Q S q else 0
theorem flow_c {m : zM} {g : Nat} {n tar : Int} (h : FB g m) (hn : 1 ≤ n ∧ n ≤ 3600) (ht : 0 ≤ tar ∧ tar < 4) {D : Int → Int} (hD : ∀ q, D q = DL (m g 8 12) (m g 22 3) (m g 22 7) (m g 19 6) (m g 10 0) q) :
    (∀ q t, 0 ≤ q → q < 7 → 0 ≤ t → t < 4 → f49_1 g n tar m g 24 (q * 4 + t) = m g 24 (q * 4 + t) + if t = tar then n * D q else 0) ∧
    f49_1 g n tar m g 8 10 = m g 8 10 - ((m g 24 tar + n * D 0) / m g 10 1 - m g 24 tar / m g 10 1) * m g 10 (6 + tar) ∧
    f49_1 g n tar m g 8 14 = m g 8 14 + (if crp (m g 8 12) (m g 22 3) (m g 22 7) (m g 10 0) = 0 then 0 else n) ∧
    f49_1 g n tar m g 27 3 = m g 27 3 + n * D 0 ∧ f49_1 g n tar m g 27 4 = m g 27 4 + n * D 1 ∧ f49_1 g n tar m g 27 5 = m g 27 5 + n * D 6 ∧ (∀ i, i ≠ 3 → i ≠ 4 → i ≠ 5 → f49_1 g n tar m g 27 i = m g 27 i) ∧
    (∀ i, i ≠ 10 → i ≠ 14 → f49_1 g n tar m g 8 i = m g 8 i) ∧ (∀ g' k, (g' ≠ g ∨ (k ≠ 8 ∧ k ≠ 24 ∧ k ≠ 27)) → f49_1 g n tar m g' k = m g' k) := by
  have hc := crp_c h
  obtain ⟨hP, hQ, hS, hr, hu, hp, hcr, h3, h4, h5, h14, ho⟩ := h
  unfold f49_1
  rw [zn_a, hc]
  by_cases hz : crp (m g 8 12) (m g 22 3) (m g 22 7) (m g 10 0) = 0
  case neg =>
    have d0 : ∀ q, D q = 0 := fun q => by rw [hD q]; unfold DL; rw [if_neg (fun e => hz e.1)]
    rw [if_neg hz, if_neg hz]
    simp only [zn_a, zs_a, d0, Int.mul_zero, Int.add_zero]
    rw [w32_id (by omega)]
    refine ⟨fun q t _ _ _ _ => ?_, ?_, ?_, ?_, ?_, ?_, fun i _ _ _ => ?_, fun i _ i1 => ?_, fun g' k hk => ?_⟩
    · rw [zu_k _ _ _ (by decide)]
      split <;> omega
    · rw [zu_row, fu_i _ _ (by decide), Int.sub_self, Int.zero_mul]
      omega
    · rw [zu_row, fu_s]
    · rw [zu_k _ _ _ (by decide)]
    · rw [zu_k _ _ _ (by decide)]
    · rw [zu_k _ _ _ (by decide)]
    · rw [zu_k _ _ _ (by decide)]
    · rw [zu_row, fu_i _ _ i1]
    · rcases hk with hk | hk
      · rw [zu_g _ _ _ hk]
      · rw [zu_k _ _ _ hk.1]
  rw [if_pos hz, if_pos hz]
  by_cases hop : m g 8 12 = 0
  case neg =>
    have d0 : ∀ q, D q = 0 := fun q => by rw [hD q]; unfold DL; rw [if_neg (fun e => hop e.2)]
    rw [if_neg hop]
    simp only [d0, Int.mul_zero, Int.add_zero]
    refine ⟨fun q t _ _ _ _ => ?_, ?_, by first | rfl | trivial, by first | rfl | trivial, by first | rfl | trivial, by first | rfl | trivial, by first | exact fun i _ _ _ => rfl | (intros; trivial), by first | exact fun i _ i1 => rfl | (intros; trivial), by first | exact fun g' k hk => rfl | (intros; trivial)⟩
    · split <;> omega
    · rw [Int.sub_self, Int.zero_mul]
      omega
  rw [if_pos hop]
  have dq : ∀ q, D q = dl (m g 22 3) (m g 22 7) (m g 19 6) q := fun q => by rw [hD q]; unfold DL; rw [if_pos ⟨hz, hop⟩]
  have D0 : D 0 = max (m g 22 3) 0 := by rw [dq 0]; rfl
  have D1 : D 1 = max (-(m g 22 3)) 0 := by rw [dq 1]; rfl
  have D6 : D 6 = m g 19 6 := by rw [dq 6]; rfl
  obtain ⟨c1, c2⟩ := count_c (m := m) (g := g) (tar := tar) hP hQ hS hn ht hr
  have b0 := mul_le3 (a := n) (b := D 0) (A := 3600) (B := 12000000) (by omega) (by omega) (by omega) (by omega)
  have aP : -43200000000 ≤ m g 22 3 * n ∧ m g 22 3 * n ≤ 43200000000 := by
    have x1 := mul_le3 (a := n) (b := max (m g 22 3) 0) (A := 3600) (B := 12000000) (by omega) (by omega) (by omega) (by omega)
    have x2 := mul_le3 (a := n) (b := max (-(m g 22 3)) 0) (A := 3600) (B := 12000000) (by omega) (by omega) (by omega) (by omega)
    have y1 := (max_mul (P := m g 22 3) (n := n) (by omega)).1
    have y2 := (max_mul (P := -(m g 22 3)) (n := n) (by omega)).1
    rw [Int.neg_mul] at y2
    omega
  have aQ : -43200000000 ≤ m g 22 7 * n ∧ m g 22 7 * n ≤ 43200000000 := by
    have x1 := mul_le3 (a := n) (b := max (m g 22 7) 0) (A := 3600) (B := 12000000) (by omega) (by omega) (by omega) (by omega)
    have x2 := mul_le3 (a := n) (b := max (-(m g 22 7)) 0) (A := 3600) (B := 12000000) (by omega) (by omega) (by omega) (by omega)
    have y1 := (max_mul (P := m g 22 7) (n := n) (by omega)).1
    have y2 := (max_mul (P := -(m g 22 7)) (n := n) (by omega)).1
    rw [Int.neg_mul] at y2
    omega
  have aS := mul_le3 (a := m g 19 6) (b := n) (A := 17000000) (B := 3600) (by omega) (by omega) (by omega) (by omega)
  simp only [zn_a, zs_a]
  have hu1 : max 1 (m g 10 1) = m g 10 1 := by omega
  have r0 := hr tar (by omega) (by omega)
  rw [w64_id (x := m g 22 3 * n) (by omega), w64_id (x := m g 19 6 * n) (by omega), w64_id (x := m g 22 7 * n) (by omega)]
  obtain ⟨m1, e1⟩ : ∃ x, x = f50_1 g tar (m g 22 3 * n) (m g 22 7 * n) (m g 19 6 * n) m := ⟨_, rfl⟩
  rw [← e1] at c1 c2
  rw [← e1, c2 g 10 (.inr (by decide)), c2 g 8 (.inr (by decide)), hu1, Int.zero_add]
  have t1 := c1 0 tar (by omega) (by omega) ht.1 ht.2
  rw [if_pos rfl, ← dq 0, show (0 : Int) * 4 + tar = tar by omega] at t1
  have q0 := ediv_b (a := m g 24 tar) (b := m g 10 1) r0.1 r0.2 hu.1
  have q1 := ediv_b (a := m g 24 tar + n * D 0) (b := m g 10 1) (A := 1001000000000000) (by omega) (by omega) hu.1
  have qm : m g 24 tar / m g 10 1 ≤ (m g 24 tar + n * D 0) / m g 10 1 := Int.ediv_le_ediv (by omega) (by omega)
  have hpt := hp tar ht.1 ht.2
  rw [t1, tdiv_nn (by omega), tdiv_nn r0.1, w64_id (x := m g 24 tar / m g 10 1) (by omega), w64_id (x := (m g 24 tar + n * D 0) / m g 10 1) (by omega), w64_id (x := (m g 24 tar + n * D 0) / m g 10 1 - m g 24 tar / m g 10 1) (by omega)]
  have cm := mul_le3 (a := (m g 24 tar + n * D 0) / m g 10 1 - m g 24 tar / m g 10 1) (b := m g 10 (6 + tar)) (A := 1001000000000000) (B := 100) (by omega) (by omega) hpt.1 hpt.2
  rw [w64_id (x := ((m g 24 tar + n * D 0) / m g 10 1 - m g 24 tar / m g 10 1) * m g 10 (6 + tar)) (by omega), w64_id (x := m g 8 10 - ((m g 24 tar + n * D 0) / m g 10 1 - m g 24 tar / m g 10 1) * m g 10 (6 + tar)) (by omega)]
  obtain ⟨CR', hCR⟩ : ∃ x, x = m g 8 10 - ((m g 24 tar + n * D 0) / m g 10 1 - m g 24 tar / m g 10 1) * m g 10 (6 + tar) := ⟨_, rfl⟩
  rw [← hCR]
  obtain ⟨m2, e2⟩ : ∃ x, x = z_upd m1 g 8 10 CR' := ⟨_, rfl⟩
  rw [← e2]
  have m27 : ∀ i, m2 g 27 i = m g 27 i := fun i => by rw [e2, zu_k _ _ _ (by decide), c2 g 27 (.inr (by decide))]
  obtain ⟨k1, k2⟩ := block_c (m := m2) (g := g) (P := m g 22 3) (S := m g 19 6) (n := n) hP hS hn (by rw [m27]; exact h3) (by rw [m27]; exact h4) (by rw [m27]; exact h5)
  have m8 : ∀ i, m2 g 8 i = if i = 10 then CR' else m g 8 i := fun i => by rw [e2, zu_row, c2 g 8 (.inr (by decide))]; rfl
  refine ⟨fun q t h0 h1 h2 h3 => ?_, ?_, ?_, ?_, ?_, ?_, fun i i3 i4 i5 => ?_, fun i i0 i1 => ?_, fun g' k hk => ?_⟩
  · rw [k2 g 24 (.inr (by decide)), e2, zu_k _ _ _ (by decide), dq q]
    exact c1 q t h0 h1 h2 h3
  · rw [k2 g 8 (.inr (by decide)), m8, if_pos rfl]
  · rw [k2 g 8 (.inr (by decide)), m8, if_neg (by decide), Int.add_zero]
  · rw [k1, if_pos rfl, m27, D0]
  · rw [k1, if_neg (by decide), if_pos rfl, m27, D1]
  · rw [k1, if_neg (by decide), if_neg (by decide), if_pos rfl, m27, D6]
  · rw [k1, if_neg i3, if_neg i4, if_neg i5, m27, Int.add_zero]
  · rw [k2 g 8 (.inr (by decide)), m8, if_neg i0]
  · rw [k2 g' k (by omega), e2]
    rcases hk with hk | hk
    · rw [zu_g _ _ _ hk]
      exact c2 g' k (.inl hk)
    · rw [zu_k _ _ _ hk.1]
      exact c2 g' k (.inr hk.2.1)
