/-! The reference: a second flows. -/
def RB (w : Int → Int) : Prop := (∀ i, 60 ≤ i → i ≤ 94 → 0 ≤ w i ∧ w i ≤ 1000000000000000) ∧ (1 ≤ w 5 ∧ w 5 ≤ 1000000) ∧ (∀ t, 0 ≤ t → t < 4 → 0 ≤ w (28 + t) ∧ w (28 + t) ≤ 100) ∧ (-1000000000000000000 ≤ w 10 ∧ w 10 ≤ 1000000000000000000) ∧ (0 ≤ w 22 ∧ w 22 ≤ 1000000000000000) ∧ (0 ≤ w 23 ∧ w 23 ≤ 1000000000000000) ∧ (0 ≤ w 24 ∧ w 24 ≤ 1000000000000000) ∧ (0 ≤ w 14 ∧ w 14 ≤ 1000000000)
theorem add220 {m : zM} {a t x : Int} (ha : 0 ≤ a ∧ a ≤ 6) (ht : 0 ≤ t ∧ t < 4) (hx : 0 ≤ x ∧ x ≤ 20000000) (hr : ∀ i, 60 ≤ i → i ≤ 94 → 0 ≤ m 4 45 i ∧ m 4 45 i ≤ 1001000000000000) : (∀ i, f220_1 a t x m 4 45 i = m 4 45 i + if i = 60 + 5 * a + t ∨ i = 60 + 5 * a + 4 then x else 0) ∧ ∀ g k, (g ≠ 4 ∨ k ≠ 45) → f220_1 a t x m g k = m g k := by
  unfold f220_1
  simp only [zn_a, zs_a]
  have r1 := hr (60 + 5 * a + t) (by omega) (by omega)
  have r2 := hr (60 + 5 * a + 4) (by omega) (by omega)
  have e : z_upd m 4 45 (60 + 5 * a + t) (w64 (m 4 45 (60 + 5 * a + t) + x)) 4 45 (60 + 5 * a + 4) = m 4 45 (60 + 5 * a + 4) := by rw [zu_row, fu_i _ _ (by omega)]
  rw [e, w64_id (by omega), w64_id (by omega)]
  refine ⟨fun i => ?_, fun g k h => ?_⟩
  · rw [zu_row, zu_row]
    by_cases b : i = 60 + 5 * a + 4
    · rw [b, fu_s, if_pos (.inr rfl)]
    · rw [fu_i _ _ b]
      by_cases d : i = 60 + 5 * a + t
      · rw [d, fu_s, if_pos (.inl rfl)]
      · rw [fu_i _ _ d, if_neg (by omega), Int.add_zero]
  · rcases h with h | h
    · rw [zu_g _ _ _ h, zu_g _ _ _ h]
    · rw [zu_k _ _ _ h, zu_k _ _ _ h]
theorem count_r {m : zM} {P Q S tar : Int} (hP : -12000000 ≤ P ∧ P ≤ 12000000) (hQ : -12000000 ≤ Q ∧ Q ≤ 12000000) (hS : 0 ≤ S ∧ S ≤ 17000000) (ht : 0 ≤ tar ∧ tar < 4) (htar : f217_1 (m 4 45 0) m = tar) (h : RB (m 4 45)) :
    (∀ q t, 0 ≤ q → q < 7 → 0 ≤ t → t < 4 → f216_1 P Q S m 4 45 (60 + 5 * q + t) = m 4 45 (60 + 5 * q + t) + if t = tar then dl P Q S q else 0) ∧ (∀ q, 0 ≤ q → q < 7 → f216_1 P Q S m 4 45 (60 + 5 * q + 4) = m 4 45 (60 + 5 * q + 4) + dl P Q S q) ∧
    f216_1 P Q S m 4 45 10 = m 4 45 10 - ((m 4 45 (60 + tar) + dl P Q S 0) / m 4 45 5 - m 4 45 (60 + tar) / m 4 45 5) * m 4 45 (28 + tar) ∧
    f216_1 P Q S m 4 45 22 = m 4 45 22 + dl P Q S 0 ∧ f216_1 P Q S m 4 45 23 = m 4 45 23 + dl P Q S 1 ∧ f216_1 P Q S m 4 45 24 = m 4 45 24 + dl P Q S 6 ∧
    (∀ i, i ≠ 10 → (i < 22 ∨ 24 < i) → (i < 60 ∨ 94 < i) → f216_1 P Q S m 4 45 i = m 4 45 i) ∧ ∀ g k, (g ≠ 4 ∨ k ≠ 45) → f216_1 P Q S m g k = m g k := by
  obtain ⟨hr, hu, hp, hc, h22, h23, h24, -⟩ := h
  have hqd := qd_r P Q
  obtain ⟨m1, e1⟩ : ∃ x, x = (if P ≤ 0 then m else f220_1 0 tar P m) := ⟨_, rfl⟩
  have a1 : (∀ i, m1 4 45 i = m 4 45 i + if i = 60 + tar ∨ i = 64 then max P 0 else 0) ∧ ∀ g k, (g ≠ 4 ∨ k ≠ 45) → m1 g k = m g k := by
    rw [e1]
    by_cases hp0 : P ≤ 0
    · rw [if_pos hp0]
      exact ⟨fun i => by split <;> omega, fun _ _ _ => rfl⟩
    · rw [if_neg hp0]
      obtain ⟨x1, x2⟩ := add220 (m := m) (a := 0) (t := tar) (x := P) (by omega) ht (by omega) (fun i i0 i1 => by have := hr i i0 i1; omega)
      refine ⟨fun i => ?_, x2⟩
      rw [x1 i, show max P 0 = P by omega]
      congr 1
  obtain ⟨m2, e2⟩ : ∃ x, x = (if P < 0 then f220_1 1 tar (-P) m1 else m1) := ⟨_, rfl⟩
  have b1 : ∀ i, 60 ≤ i → i ≤ 94 → 0 ≤ m1 4 45 i ∧ m1 4 45 i ≤ 1000100000000000 := fun i i0 i1 => by
    have := hr i i0 i1
    rw [a1.1 i]
    split <;> omega
  have a2 : (∀ i, m2 4 45 i = m1 4 45 i + if i = 65 + tar ∨ i = 69 then max (-P) 0 else 0) ∧ ∀ g k, (g ≠ 4 ∨ k ≠ 45) → m2 g k = m1 g k := by
    rw [e2]
    by_cases hp0 : P < 0
    · rw [if_pos hp0]
      obtain ⟨x1, x2⟩ := add220 (m := m1) (a := 1) (t := tar) (x := -P) (by omega) ht (by omega) (fun i i0 i1 => by have := b1 i i0 i1; omega)
      refine ⟨fun i => ?_, x2⟩
      rw [x1 i, show max (-P) 0 = -P by omega]
      congr 1
    · rw [if_neg hp0]
      exact ⟨fun i => by split <;> omega, fun _ _ _ => rfl⟩
  have b2 : ∀ i, 60 ≤ i → i ≤ 94 → 0 ≤ m2 4 45 i ∧ m2 4 45 i ≤ 1000200000000000 := fun i i0 i1 => by
    have := b1 i i0 i1
    rw [a2.1 i]
    split <;> omega
  obtain ⟨m3, e3⟩ : ∃ x, x = f220_1 (1 + qd P Q) tar (max Q (-Q)) m2 := ⟨_, rfl⟩
  obtain ⟨x3, y3⟩ := add220 (m := m2) (a := 1 + qd P Q) (t := tar) (x := max Q (-Q)) (by omega) ht (by omega) (fun i i0 i1 => by have := b2 i i0 i1; omega)
  rw [← e3] at x3 y3
  have b3 : ∀ i, 60 ≤ i → i ≤ 94 → 0 ≤ m3 4 45 i ∧ m3 4 45 i ≤ 1000300000000000 := fun i i0 i1 => by
    have := b2 i i0 i1
    rw [x3 i]
    split <;> omega
  obtain ⟨m4, e4⟩ : ∃ x, x = f220_1 6 tar S m3 := ⟨_, rfl⟩
  obtain ⟨x4, y4⟩ := add220 (m := m3) (a := 6) (t := tar) (x := S) (by omega) ht (by omega) (fun i i0 i1 => by have := b3 i i0 i1; omega)
  rw [← e4] at x4 y4
  have all : ∀ i, m4 4 45 i = m 4 45 i + (if i = 60 + tar ∨ i = 64 then max P 0 else 0) + (if i = 65 + tar ∨ i = 69 then max (-P) 0 else 0) + (if i = 60 + 5 * (1 + qd P Q) + tar ∨ i = 60 + 5 * (1 + qd P Q) + 4 then max Q (-Q) else 0) + (if i = 90 + tar ∨ i = 94 then S else 0) := fun i => by
    rw [x4 i, x3 i, a2.1 i, a1.1 i]
    congr 1
  have allg : ∀ g k, (g ≠ 4 ∨ k ≠ 45) → m4 g k = m g k := fun g k hk => by rw [y4 g k hk, y3 g k hk, a2.2 g k hk, a1.2 g k hk]
  have D0 : dl P Q S 0 = max P 0 := rfl
  have D1 : dl P Q S 1 = max (-P) 0 := rfl
  have D6 : dl P Q S 6 = S := rfl
  have o5 : ∀ i, (i < 60 ∨ 94 < i) → m4 4 45 i = m 4 45 i := fun i hi => by
    rw [all i, if_neg (by omega), if_neg (by omega), if_neg (by omega), if_neg (by omega)]
    omega
  have t0 : m4 4 45 (60 + tar) = m 4 45 (60 + tar) + dl P Q S 0 := by
    rw [all, if_pos (.inl rfl), if_neg (by omega), if_neg (by omega), if_neg (by omega), D0]
    omega
  have r0 := hr (60 + tar) (by omega) (by omega)
  have q0 := ediv_b (a := m 4 45 (60 + tar)) (b := m 4 45 5) r0.1 r0.2 hu.1
  have q1 := ediv_b (a := m 4 45 (60 + tar) + dl P Q S 0) (b := m 4 45 5) (A := 1001000000000000) (by omega) (by omega) hu.1
  have qm : m 4 45 (60 + tar) / m 4 45 5 ≤ (m 4 45 (60 + tar) + dl P Q S 0) / m 4 45 5 := Int.ediv_le_ediv (by omega) (by omega)
  have hpt := hp tar ht.1 ht.2
  have cm := mul_le3 (a := (m 4 45 (60 + tar) + dl P Q S 0) / m 4 45 5 - m 4 45 (60 + tar) / m 4 45 5) (b := m 4 45 (28 + tar)) (A := 1001000000000000) (B := 100) (by omega) (by omega) hpt.1 hpt.2
  obtain ⟨CR', hCR⟩ : ∃ x, x = m 4 45 10 - ((m 4 45 (60 + tar) + dl P Q S 0) / m 4 45 5 - m 4 45 (60 + tar) / m 4 45 5) * m 4 45 (28 + tar) := ⟨_, rfl⟩
  have ef : f216_1 P Q S m = z_upd (z_upd (z_upd (z_upd m4 4 45 10 CR') 4 45 22 (m 4 45 22 + dl P Q S 0)) 4 45 23 (m 4 45 23 + dl P Q S 1)) 4 45 24 (m 4 45 24 + S) := by
    unfold f216_1
    simp only [zn_a, zs_a]
    rw [htar, ← e1, ← e2]
    have eq : f221_1 P Q m2 = qd P Q := rfl
    have es : f215_1 Q m2 = max Q (-Q) := by
      show (if Q < 0 then -Q else Q) = _
      split <;> omega
    rw [eq, es, ← e3, ← e4, t0, o5 5 (by omega), o5 (28 + tar) (by omega), o5 10 (by omega), tdiv_nn (by omega), tdiv_nn r0.1, w64_id (x := m 4 45 (60 + tar) / m 4 45 5) (by omega), w64_id (x := (m 4 45 (60 + tar) + dl P Q S 0) / m 4 45 5) (by omega), w64_id (x := (m 4 45 (60 + tar) + dl P Q S 0) / m 4 45 5 - m 4 45 (60 + tar) / m 4 45 5) (by omega), w64_id (x := ((m 4 45 (60 + tar) + dl P Q S 0) / m 4 45 5 - m 4 45 (60 + tar) / m 4 45 5) * m 4 45 (28 + tar)) (by omega), w64_id (x := m 4 45 10 - ((m 4 45 (60 + tar) + dl P Q S 0) / m 4 45 5 - m 4 45 (60 + tar) / m 4 45 5) * m 4 45 (28 + tar)) (by omega), ← hCR]
    have u22 : z_upd m4 4 45 10 CR' 4 45 22 = m 4 45 22 := by rw [zu_row, fu_i _ _ (by decide), o5 22 (by omega)]
    have eI : (if P ≤ 0 then (0 : Int) else P) = dl P Q S 0 := by rw [D0]; split <;> omega
    have eE : (if P < 0 then -P else (0 : Int)) = dl P Q S 1 := by rw [D1]; split <;> omega
    rw [u22, eI, eE, w64_id (x := m 4 45 22 + _) (by omega)]
    have u23 : z_upd (z_upd m4 4 45 10 CR') 4 45 22 (m 4 45 22 + dl P Q S 0) 4 45 23 = m 4 45 23 := by rw [zu_row, fu_i _ _ (by decide), zu_row, fu_i _ _ (by decide), o5 23 (by omega)]
    rw [u23, w64_id (x := m 4 45 23 + _) (by omega)]
    have u24 : z_upd (z_upd (z_upd m4 4 45 10 CR') 4 45 22 (m 4 45 22 + dl P Q S 0)) 4 45 23 (m 4 45 23 + dl P Q S 1) 4 45 24 = m 4 45 24 := by rw [zu_row, fu_i _ _ (by decide), zu_row, fu_i _ _ (by decide), zu_row, fu_i _ _ (by decide), o5 24 (by omega)]
    rw [u24, w64_id (x := m 4 45 24 + _) (by omega)]
  have fw : ∀ i, f216_1 P Q S m 4 45 i = if i = 24 then m 4 45 24 + S else if i = 23 then m 4 45 23 + dl P Q S 1 else if i = 22 then m 4 45 22 + dl P Q S 0 else if i = 10 then CR' else m4 4 45 i := fun i => by
    rw [ef, zu_row, zu_row, zu_row, zu_row]
    rfl
  refine ⟨fun q t h0 h1 h2 h3 => ?_, fun q h0 h1 => ?_, ?_, ?_, ?_, ?_, fun i i0 i1 i2 => ?_, fun g k hk => ?_⟩
  · rw [fw, if_neg (by omega), if_neg (by omega), if_neg (by omega), if_neg (by omega), all]
    unfold dl
    by_cases e : t = tar
    · subst e
      rw [if_pos rfl]
      by_cases g0 : q = 0
      · subst g0
        rw [if_pos rfl, if_pos (by omega), if_neg (by omega), if_neg (by omega), if_neg (by omega)]
        omega
      rw [if_neg g0]
      by_cases g1 : q = 1
      · subst g1
        rw [if_pos rfl, if_neg (by omega), if_pos (by omega), if_neg (by omega), if_neg (by omega)]
        omega
      rw [if_neg g1]
      by_cases g6 : q = 6
      · subst g6
        rw [if_pos rfl, if_neg (by omega), if_neg (by omega), if_neg (by omega), if_pos (by omega)]
        omega
      rw [if_neg g6]
      by_cases g2 : q = 1 + qd P Q
      · rw [if_pos g2, if_neg (by omega), if_neg (by omega), if_pos (by omega), if_neg (by omega)]
        omega
      · rw [if_neg g2, if_neg (by omega), if_neg (by omega), if_neg (by omega), if_neg (by omega)]
        omega
    · rw [if_neg e, if_neg (by omega), if_neg (by omega), if_neg (by omega), if_neg (by omega)]
      omega
  · rw [fw, if_neg (by omega), if_neg (by omega), if_neg (by omega), if_neg (by omega), all]
    unfold dl
    by_cases g0 : q = 0
    · subst g0
      rw [if_pos rfl, if_pos (by omega), if_neg (by omega), if_neg (by omega), if_neg (by omega)]
      omega
    rw [if_neg g0]
    by_cases g1 : q = 1
    · subst g1
      rw [if_pos rfl, if_neg (by omega), if_pos (by omega), if_neg (by omega), if_neg (by omega)]
      omega
    rw [if_neg g1]
    by_cases g6 : q = 6
    · subst g6
      rw [if_pos rfl, if_neg (by omega), if_neg (by omega), if_neg (by omega), if_pos (by omega)]
      omega
    rw [if_neg g6]
    by_cases g2 : q = 1 + qd P Q
    · rw [if_pos g2, if_neg (by omega), if_neg (by omega), if_pos (by omega), if_neg (by omega)]
      omega
    · rw [if_neg g2, if_neg (by omega), if_neg (by omega), if_neg (by omega), if_neg (by omega)]
      omega
  · rw [fw, if_neg (by decide), if_neg (by decide), if_neg (by decide), if_pos rfl]
    exact hCR
  · rw [fw, if_neg (by decide), if_neg (by decide), if_pos rfl]
  · rw [fw, if_neg (by decide), if_pos rfl]
  · rw [fw, if_pos rfl, D6]
  · rw [fw, if_neg (by omega), if_neg (by omega), if_neg (by omega), if_neg i0, o5 i i2]
  · rw [ef, ← allg g k hk]
    rcases hk with hk | hk
    · rw [zu_g _ _ _ hk, zu_g _ _ _ hk, zu_g _ _ _ hk, zu_g _ _ _ hk]
    · rw [zu_k _ _ _ hk, zu_k _ _ _ hk, zu_k _ _ _ hk, zu_k _ _ _ hk]
