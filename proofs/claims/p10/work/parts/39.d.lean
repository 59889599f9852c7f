section
variable {m m1 : zM} {c : zC} {t s v : Int}
theorem posF_le (c : zC) (t s : Int) : ∀ (n : Nat) (k : Int), k ≤ c 0 t → posF c t s n k ≤ c 0 t
  | 0, k, h => h
  | n + 1, k, h => by
    unfold posF
    split
    · rename_i q
      exact posF_le c t s n (k + 1) (by omega)
    · exact h
theorem pos_le (h : 0 ≤ c 0 t) : pos c t s ≤ c 0 t := posF_le c t s 7 0 h
/-- a new SWITCH in the draft -/
theorem RC_put (hC : RC m c) (ht : 0 ≤ t ∧ t < 8) (hb : ∀ u, 0 ≤ u → u < 8 → 0 ≤ c 0 u ∧ c 0 u ≤ 6) (hc : m 3 12 t < 6)
    (e12 : m1 3 12 = z_fu (m 3 12) t (m 3 12 t + 1)) (e13 : m1 3 13 = z_fu (shF (m 3 13) (t * 6 + zsb m 3 t s) (t * 6 + m 3 12 t)) (t * 6 + zsb m 3 t s) s) (e14 : m1 3 14 = z_fu (shF (m 3 14) (t * 6 + zsb m 3 t s) (t * 6 + m 3 12 t)) (t * 6 + zsb m 3 t s) v)
    (e15 : m1 3 15 = m 3 15) (e16 : m1 3 16 = m 3 16) (e17 : m1 3 17 = m 3 17) (e18 : m1 3 18 = m 3 18) (e43 : m1 4 43 = m 4 43) (e7 : m1 3 11 7 = m 3 11 7) (e6 : m1 4 41 6 = m 4 41 6) (e9 : m1 4 41 9 = m 4 41 9) (e10 : m1 4 41 10 = m 4 41 10) : RC m1 (putC c t s v) := by
  have ec := hC.1 t ht.1 ht.2
  have es := RC_sb hC ht s
  have hp0 := pos_b c t s
  have hp1 := pos_le (c := c) (t := t) (s := s) (hb t ht.1 ht.2).1
  rw [es, ec] at e13 e14
  rw [ec] at e12 hc
  obtain ⟨h1, h2, h3, h4, h5, h6, h7, h8, h9, h10⟩ := hC
  have hcnt : ∀ u, 0 ≤ u → u < 8 → m1 3 12 u = putC c t s v 0 u := fun u u1 u2 => by
    rw [e12]
    unfold z_fu putC
    rw [if_pos rfl]
    by_cases e : u = t
    · rw [if_pos e, if_pos e]
    · rw [if_neg e, if_neg e]
      exact h1 u u1 u2
  refine ⟨hcnt, fun u j u1 u2 j1 j2 => ?_, ?_, ?_, ?_, ?_, ?_, ?_, ?_, ?_⟩
  · have hu := hb u u1 u2
    have j3 : j < (if u = t then c 0 t + 1 else c 0 u) := by
      have q : putC c t s v 0 u = if u = t then c 0 t + 1 else c 0 u := by
        unfold putC
        rw [if_pos rfl]
      rw [q] at j2
      exact j2
    have a1 : putC c t s v 1 (u * 6 + j) = if t * 6 + pos c t s < u * 6 + j ∧ u * 6 + j ≤ t * 6 + c 0 t then c 1 (u * 6 + j - 1) else if u * 6 + j = t * 6 + pos c t s then s else c 1 (u * 6 + j) := by
      unfold putC
      rw [if_neg (by decide), if_pos rfl]
    have a2 : putC c t s v 2 (u * 6 + j) = if t * 6 + pos c t s < u * 6 + j ∧ u * 6 + j ≤ t * 6 + c 0 t then c 2 (u * 6 + j - 1) else if u * 6 + j = t * 6 + pos c t s then v else c 2 (u * 6 + j) := by
      unfold putC
      rw [if_neg (by decide), if_neg (by decide), if_pos rfl]
    rw [a1, a2, e13, e14]
    unfold z_fu shF
    by_cases e : u = t
    · subst e
      rw [if_pos rfl] at j3
      by_cases q1 : u * 6 + j = u * 6 + pos c u s
      · have n1 : ¬ (u * 6 + pos c u s < u * 6 + j ∧ u * 6 + j ≤ u * 6 + c 0 u) := by omega
        simp only [if_pos q1, if_neg n1, and_self]
      · by_cases q2 : u * 6 + pos c u s < u * 6 + j ∧ u * 6 + j ≤ u * 6 + c 0 u
        · simp only [if_neg q1, if_pos q2]
          have q3 := h2 u (j - 1) u1 u2 (by omega) (by omega)
          rw [show u * 6 + (j - 1) = u * 6 + j - 1 by omega] at q3
          exact q3
        · simp only [if_neg q1, if_neg q2]
          exact h2 u j u1 u2 j1 (by omega)
    · rw [if_neg e] at j3
      have q0 : u < t ∨ t < u := by omega
      have n1 : ¬ (t * 6 + pos c t s < u * 6 + j ∧ u * 6 + j ≤ t * 6 + c 0 t) := by omega
      have n2 : ¬ (u * 6 + j = t * 6 + pos c t s) := by omega
      simp only [if_neg n1, if_neg n2]
      exact h2 u j u1 u2 j1 j3
  · rw [e15]
    exact h3
  · rw [e16]
    exact h4
  · rw [e9]
    exact h5
  · rw [e10]
    exact h6
  · rw [e17, e18, e7]
    exact h7
  · rw [e7]
    exact h8
  · rw [e6]
    exact h9
  · rw [e43]
    exact h10
end
