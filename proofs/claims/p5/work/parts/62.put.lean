/-! SWITCHES that come, on both sides. -/
def shM (m : zM) (g : Nat) (lo hi : Int) : zM := fun g' k' i' => if g' = g ∧ (k' = 13 ∨ k' = 14) ∧ lo < i' ∧ i' ≤ hi then m g k' (i' - 1) else m g' k' i'
theorem put_shift {k : zM → Int × zM} {g : Nat} {y1 y2 y3 y5 : Int} : ∀ (n : Nat) (y6 : Int) (m : zM), y5 ≤ y6 → y6 - y5 < n → fl81_65_1 k g y1 y2 y3 y5 n y6 m = k (shM m g y5 y6) := by
  intro n
  induction n with
  | zero =>
    intro y6 m h0 hn
    omega
  | succ n ih =>
    intro y6 m h0 hn
    show fl81_65_1_b (fl81_65_1 k g y1 y2 y3 y5 n) k g y1 y2 y3 y5 y6 m = _
    unfold fl81_65_1_b
    by_cases c : y6 ≤ y5
    · rw [if_pos c]
      congr 1
      funext g' k' i'
      unfold shM
      rw [if_neg (by omega)]
    · rw [if_neg c]
      simp only [zs]
      rw [ih _ _ (by omega) (by omega)]
      congr 1
      funext g' k' i'
      unfold shM z_upd
      by_cases e : g' = g
      · subst e
        by_cases e13 : k' = 13
        · subst e13
          simp only [true_and, Nat.reduceEqDiff, false_or, true_or, false_and, if_false]
          by_cases e1 : i' = y6
          · subst e1
            rw [if_neg (by omega), if_pos (by omega), if_pos (by omega)]
          · by_cases e2 : y5 < i' ∧ i' ≤ y6 - 1
            · rw [if_pos (by omega), if_neg (by omega), if_pos (by omega)]
            · rw [if_neg (by omega), if_neg (by omega), if_neg (by omega)]
        · by_cases e14 : k' = 14
          · subst e14
            simp only [true_and, Nat.reduceEqDiff, or_true, false_and, if_false]
            by_cases e1 : i' = y6
            · subst e1
              rw [if_neg (by omega), if_pos (by omega), if_pos (by omega)]
            · by_cases e2 : y5 < i' ∧ i' ≤ y6 - 1
              · rw [if_pos (by omega), if_neg (by omega), if_pos (by omega)]
              · rw [if_neg (by omega), if_neg (by omega), if_neg (by omega)]
          · rw [if_neg (fun h => by omega), if_neg (fun h => e14 h.2.1), if_neg (fun h => e13 h.2.1), if_neg (fun h => by omega)]
      · rw [if_neg (fun h => e h.1), if_neg (fun h => e h.1), if_neg (fun h => e h.1), if_neg (fun h => e h.1)]
theorem shM_row {m : zM} {g : Nat} {b v n : Int} {k : Nat} (hk : k = 13 ∨ k = 14) (x : Int) : fu (shM m g (b + v) (b + n) g k) (b + v) x = shf (m g k) b v n x := by
  funext i
  unfold fu shf shM
  by_cases e : i = b + v
  · rw [if_pos e, if_pos e]
  · rw [if_neg e, if_neg e]
    by_cases e2 : b + v < i ∧ i ≤ b + n
    · rw [if_pos ⟨rfl, hk, e2⟩, if_pos e2]
    · rw [if_neg (fun h => e2 h.2.2), if_neg e2]
theorem shM_o {m : zM} {g g' k' : Nat} {lo hi : Int} (h : g' ≠ g ∨ (k' ≠ 13 ∧ k' ≠ 14)) : shM m g lo hi g' k' = m g' k' := by
  funext i
  unfold shM
  rw [if_neg]
  rintro ⟨e1, e2, -, -⟩
  omega
/-- has it the second already -/
theorem hs_eq (m : zM) (g : Nat) (t s v : Int) (hv : f32_1 g t s m = v) (h0 : 0 ≤ v) (h1 : v ≤ m g 12 t) : f82_1 g t s m = if v < m g 12 t ∧ m g 13 (t * 6 + v) = s then 1 else 0 := by
  unfold f82_1
  simp only [zn, hv]
  by_cases c : v < m g 12 t
  · rw [if_neg (by omega)]
    by_cases c2 : m g 13 (t * 6 + v) = s
    · rw [if_pos c2, if_pos ⟨c, c2⟩]
    · rw [if_neg c2, if_neg (fun h => c2 h.2)]
  · rw [if_pos (by omega), if_neg (fun h => c h.1)]
/-- what the class' putSwitch does: the rows behind it -/
theorem put_cls (m : zM) (g : Nat) (t s x : Int) (h0 : 0 ≤ t) (h1 : t < 8) (hc : 0 ≤ m g 12 t ∧ m g 12 t ≤ 6) : ∃ v m1 r, f81_1 g t s x m = (r, m1) ∧ 0 ≤ v ∧ v ≤ m g 12 t ∧ (∀ k, 0 ≤ k → k < v → m g 13 (t * 6 + k) < s) ∧ (v < m g 12 t → s ≤ m g 13 (t * 6 + v)) ∧
    (∀ g' k', (g' ≠ g ∨ (k' ≠ 12 ∧ k' ≠ 13 ∧ k' ≠ 14)) → m1 g' k' = m g' k') ∧
    ((v < m g 12 t ∧ m g 13 (t * 6 + v) = s ∧ r = m g 12 t ∧ m1 g 12 = m g 12 ∧ m1 g 13 = m g 13 ∧ m1 g 14 = fu (m g 14) (t * 6 + v) x) ∨
     (¬ (v < m g 12 t ∧ m g 13 (t * 6 + v) = s) ∧ m g 12 t = 6 ∧ r = -1 ∧ m1 = m) ∨
     (¬ (v < m g 12 t ∧ m g 13 (t * 6 + v) = s) ∧ m g 12 t < 6 ∧ r = m g 12 t + 1 ∧ m1 g 12 = fu (m g 12) t (m g 12 t + 1) ∧ m1 g 13 = shf (m g 13) (t * 6) v (m g 12 t) s ∧ m1 g 14 = shf (m g 14) (t * 6) v (m g 12 t) x)) := by
  obtain ⟨v, e1, e2, e3, e4, e5⟩ := sb_spec m g t s hc
  have e6 := hs_eq m g t s v e1 e2 e3
  unfold f81_1
  simp only [zn, zs, e1, e6]
  by_cases c : v < m g 12 t ∧ m g 13 (t * 6 + v) = s
  · rw [if_pos c, if_neg (by decide)]
    refine ⟨v, _, _, rfl, e2, e3, e4, e5, fun g' k' h => ?_, .inl ⟨c.1, c.2, ?_, ?_, ?_, ?_⟩⟩
    · funext i
      unfold z_upd
      rw [if_neg (fun e => by omega)]
    · exact z_upd_o _ _ rfl
    · exact zu_k _ _ _ (by decide)
    · exact zu_k _ _ _ (by decide)
    · exact zu_row _ _ _ _ _
  · rw [if_neg c, if_pos rfl]
    by_cases c2 : m g 12 t < 6
    · rw [if_pos c2, put_shift (zfu 48) _ _ (by omega) (by rw [zfu_eq]; omega)]
      refine ⟨v, _, _, rfl, e2, e3, e4, e5, fun g' k' h => ?_, .inr (.inr ⟨c, c2, ?_, ?_, ?_, ?_⟩)⟩
      · rw [← shM_o (m := m) (g := g) (lo := t * 6 + v) (hi := t * 6 + m g 12 t) (g' := g') (k' := k') (by omega)]
        funext i
        unfold z_upd
        rw [if_neg (fun e => by omega), if_neg (fun e => by omega), if_neg (fun e => by omega)]
      · rw [z_upd_same, z_upd_o _ _ rfl, z_upd_o _ _ rfl, shM_o (by omega)]
      · rw [zu_row, zu_k _ _ _ (by decide), zu_k _ _ _ (by decide), shM_o (by omega)]
      · rw [zu_k _ _ _ (by decide), zu_k _ _ _ (by decide), zu_row, shM_row (.inl rfl)]
      · rw [zu_k _ _ _ (by decide), zu_row, zu_k _ _ _ (by decide), shM_row (.inr rfl)]
    · rw [if_neg c2]
      exact ⟨v, _, _, rfl, e2, e3, e4, e5, fun _ _ _ => rfl, .inr (.inl ⟨c, by omega, rfl, rfl⟩)⟩
/-! the reference's -/
theorem pos_loop {k : Int → Int × zM} {m : zM} {y1 y2 y3 y4 y5 : Int} : ∀ (n : Nat) (y6 : Int), 0 ≤ y6 → y6 ≤ y5 → y5 - y6 < n → (∀ j, 0 ≤ j → j < y6 → m 4 45 (295 + y4 + j) < y2) →
    ∃ v, fl243_22_1 k y1 y2 y3 y4 y5 m n y6 = k v ∧ 0 ≤ v ∧ v ≤ y5 ∧ (∀ j, 0 ≤ j → j < v → m 4 45 (295 + y4 + j) < y2) ∧ (v < y5 → y2 ≤ m 4 45 (295 + y4 + v)) := by
  intro n
  induction n with
  | zero =>
    intro y6 h0 h1 h2
    omega
  | succ n ih =>
    intro y6 h0 h1 h2 h3
    show ∃ v, fl243_22_1_b (fl243_22_1 k y1 y2 y3 y4 y5 m n) k y1 y2 y3 y4 y5 m y6 = k v ∧ _
    unfold fl243_22_1_b
    by_cases c : y5 ≤ y6
    · rw [if_pos c]
      exact ⟨y6, rfl, h0, h1, h3, by omega⟩
    · rw [if_neg c]
      by_cases c2 : m 4 45 (295 + y4 + y6) < y2
      · rw [if_pos c2]
        refine ih (y6 + 1) (by omega) (by omega) (by omega) (fun j hj hj2 => ?_)
        by_cases e : j = y6
        · subst e
          exact c2
        · exact h3 j hj (by omega)
      · rw [if_neg c2]
        exact ⟨y6, rfl, h0, h1, h3, fun _ => by omega⟩
def shW (m : zM) (b lo hi : Int) : zM := fun g k i => if g = 4 ∧ k = 45 ∧ ((295 + b + lo < i ∧ i ≤ 295 + b + hi) ∨ (343 + b + lo < i ∧ i ≤ 343 + b + hi)) then m 4 45 (i - 1) else m g k i
theorem shift_ref {k : zM → Int × zM} {y1 y2 y3 y4 y6 y7 : Int} : ∀ (n : Nat) (y8 : Int) (m : zM), y6 ≤ y8 → y8 ≤ 6 → 0 ≤ y6 → y8 - y6 < n → fl243_107_1 k y1 y2 y3 y4 y6 y7 n y8 m = k (shW m y4 y6 y8) := by
  intro n
  induction n with
  | zero =>
    intro y8 m h0 h6 h7 hn
    omega
  | succ n ih =>
    intro y8 m h0 h6 h7 hn
    show fl243_107_1_b (fl243_107_1 k y1 y2 y3 y4 y6 y7 n) k y1 y2 y3 y4 y6 y7 y8 m = _
    unfold fl243_107_1_b
    by_cases c : y8 ≤ y6
    · rw [if_pos c]
      congr 1
      funext g' k' i'
      unfold shW
      rw [if_neg (by omega)]
    · rw [if_neg c]
      simp only [zs]
      rw [ih _ _ (by omega) (by omega) h7 (by omega)]
      congr 1
      funext g' k' i'
      unfold shW z_upd
      by_cases e : g' = 4 ∧ k' = 45
      · obtain ⟨rfl, rfl⟩ := e
        simp only [true_and]
        by_cases e1 : i' = 295 + y4 + y8
        · subst e1
          rw [if_neg (by omega), if_neg (by omega), if_pos (by omega), if_pos (by omega)]
        · by_cases e2 : i' = 343 + y4 + y8
          · subst e2
            rw [if_neg (by omega), if_pos (by omega), if_neg (by omega), if_pos (by omega)]
          · by_cases e3 : (295 + y4 + y6 < i' ∧ i' ≤ 295 + y4 + y8) ∨ (343 + y4 + y6 < i' ∧ i' ≤ 343 + y4 + y8)
            · rw [if_pos (by omega), if_neg (by omega), if_neg (by omega), if_pos e3]
            · rw [if_neg (by omega), if_neg (by omega), if_neg (by omega), if_neg e3]
      · rw [if_neg (fun h => e ⟨h.1, h.2.1⟩), if_neg (fun h => e ⟨h.1, h.2.1⟩), if_neg (fun h => e ⟨h.1, h.2.1⟩), if_neg (fun h => e ⟨h.1, h.2.1⟩)]
theorem again_ref {k : zM → Int × zM} {y1 y2 y3 y4 y6 y7 y8 : Int} {m : zM} : ∀ n : Nat, 0 < n → fl243_107_2 k y1 y2 y3 y4 y6 y7 n y8 m = k m
  | 0, h => absurd h (by decide)
  | n + 1, _ => by
    show fl243_107_2_b (fl243_107_2 k y1 y2 y3 y4 y6 y7 n) k y1 y2 y3 y4 y6 y7 y8 m = _
    unfold fl243_107_2_b
    split <;> rfl
theorem put_ref (m : zM) (t s x : Int) (h0 : 0 ≤ t) (h1 : t < 8) (hc : 0 ≤ m 4 45 (287 + t) ∧ m 4 45 (287 + t) ≤ 6) : ∃ v m2 r, f243_1 t s x m = (r, m2) ∧ 0 ≤ v ∧ v ≤ m 4 45 (287 + t) ∧ (∀ j, 0 ≤ j → j < v → m 4 45 (295 + 6 * t + j) < s) ∧ (v < m 4 45 (287 + t) → s ≤ m 4 45 (295 + 6 * t + v)) ∧
    (∀ g' k', ¬ (g' = 4 ∧ k' = 45) → m2 g' k' = m g' k') ∧
    ((v < m 4 45 (287 + t) ∧ m 4 45 (295 + 6 * t + v) = s ∧ r = m 4 45 (287 + t) ∧ m2 4 45 = fu (fu (fu (m 4 45) (295 + 6 * t + v) s) (343 + 6 * t + v) x) (287 + t) (m 4 45 (287 + t))) ∨
     (¬ (v < m 4 45 (287 + t) ∧ m 4 45 (295 + 6 * t + v) = s) ∧ m 4 45 (287 + t) = 6 ∧ r = -1 ∧ m2 = m) ∨
     (¬ (v < m 4 45 (287 + t) ∧ m 4 45 (295 + 6 * t + v) = s) ∧ m 4 45 (287 + t) < 6 ∧ r = m 4 45 (287 + t) + 1 ∧ m2 4 45 = fu (fu (fu (shW m (6 * t) v (m 4 45 (287 + t)) 4 45) (295 + 6 * t + v) s) (343 + 6 * t + v) x) (287 + t) (m 4 45 (287 + t) + 1))) := by
  unfold f243_1
  obtain ⟨v, e1, e2, e3, e4, e5⟩ := pos_loop (k := fun y02 => if m 4 45 (287 + t) ≤ y02 then
      (if m 4 45 (287 + t) = 6 then ((-1), m) else fl243_107_1 (fun m10 => zs (z_upd m10 4 45 (295 + 6 * t + y02) s) fun m14 => zs (z_upd m14 4 45 (343 + 6 * t + y02) x) fun m16 => zs (z_upd m16 4 45 (287 + t) (m16 4 45 (287 + t) + 1)) fun m20 => (m20 4 45 (287 + t), m20)) t s x (6 * t) y02 0 (zfu 6) (m 4 45 (287 + t)) m)
      else (if m 4 45 (295 + 6 * t + y02) = s then fl243_107_2 (fun m42 => zs (z_upd m42 4 45 (295 + 6 * t + y02) s) fun m46 => zs (z_upd m46 4 45 (343 + 6 * t + y02) x) fun m48 => zs (z_upd m48 4 45 (287 + t) (m48 4 45 (287 + t) + 0)) fun m52 => (m52 4 45 (287 + t), m52)) t s x (6 * t) y02 1 (zfu 7) (m 4 45 (287 + t)) m
      else (if m 4 45 (287 + t) = 6 then ((-1), m) else fl243_107_1 (fun m28 => zs (z_upd m28 4 45 (295 + 6 * t + y02) s) fun m32 => zs (z_upd m32 4 45 (343 + 6 * t + y02) x) fun m34 => zs (z_upd m34 4 45 (287 + t) (m34 4 45 (287 + t) + 1)) fun m38 => (m38 4 45 (287 + t), m38)) t s x (6 * t) y02 0 (zfu 6) (m 4 45 (287 + t)) m)))
    (m := m) (y1 := t) (y2 := s) (y3 := x) (y4 := 6 * t) (y5 := m 4 45 (287 + t)) (zfu 7) 0 (by omega) (by omega) (by rw [zfu_eq]; omega) (fun j _ _ => by omega)
  have hS : ∀ (g' k' : Nat), ¬ (g' = 4 ∧ k' = 45) → shW m (6 * t) v (m 4 45 (287 + t)) g' k' = m g' k' := fun g' k' h => by
    funext i
    unfold shW
    rw [if_neg (fun e => h ⟨e.1, e.2.1⟩)]
  have hcnt : shW m (6 * t) v (m 4 45 (287 + t)) 4 45 (287 + t) = m 4 45 (287 + t) := by
    unfold shW
    rw [if_neg (by omega)]
  have new : ¬ m 4 45 (287 + t) = 6 → (let p := fl243_107_1 (fun m10 => zs (z_upd m10 4 45 (295 + 6 * t + v) s) fun m14 => zs (z_upd m14 4 45 (343 + 6 * t + v) x) fun m16 => zs (z_upd m16 4 45 (287 + t) (m16 4 45 (287 + t) + 1)) fun m20 => (m20 4 45 (287 + t), m20)) t s x (6 * t) v 0 (zfu 6) (m 4 45 (287 + t)) m
      p.1 = m 4 45 (287 + t) + 1 ∧ (∀ g' k', ¬ (g' = 4 ∧ k' = 45) → p.2 g' k' = m g' k') ∧ p.2 4 45 = fu (fu (fu (shW m (6 * t) v (m 4 45 (287 + t)) 4 45) (295 + 6 * t + v) s) (343 + 6 * t + v) x) (287 + t) (m 4 45 (287 + t) + 1)) := by
    intro c
    dsimp only
    rw [shift_ref (zfu 6) _ _ (by omega) (by omega) e2 (by rw [zfu_eq]; omega)]
    simp only [zs]
    have e6 : z_upd (z_upd (shW m (6 * t) v (m 4 45 (287 + t))) 4 45 (295 + 6 * t + v) s) 4 45 (343 + 6 * t + v) x 4 45 (287 + t) = m 4 45 (287 + t) := by
      rw [z_upd_i _ _ _ _ (by omega), z_upd_i _ _ _ _ (by omega), hcnt]
    refine ⟨by rw [z_upd_same, e6], fun g' k' h => ?_, ?_⟩
    · rw [← hS g' k' h]
      funext i
      unfold z_upd
      rw [if_neg (fun e => h ⟨e.1, e.2.1⟩), if_neg (fun e => h ⟨e.1, e.2.1⟩), if_neg (fun e => h ⟨e.1, e.2.1⟩)]
    · rw [zu_row, e6, zu_row, zu_row]
  by_cases c : v < m 4 45 (287 + t) ∧ m 4 45 (295 + 6 * t + v) = s
  · have ea : z_upd (z_upd m 4 45 (295 + 6 * t + v) s) 4 45 (343 + 6 * t + v) x 4 45 (287 + t) = m 4 45 (287 + t) := by
      rw [z_upd_i _ _ _ _ (by omega), z_upd_i _ _ _ _ (by omega)]
    have c3 : ¬ m 4 45 (287 + t) ≤ v := by omega
    have e9 := e1.trans ((if_neg c3).trans ((if_pos c.2).trans (again_ref (zfu 7) (by rw [zfu_eq]; decide))))
    refine ⟨v, z_upd (z_upd (z_upd m 4 45 (295 + 6 * t + v) s) 4 45 (343 + 6 * t + v) x) 4 45 (287 + t) (m 4 45 (287 + t)), m 4 45 (287 + t), e9.trans ?_, e2, e3, e4, e5, fun g' k' h => ?_, .inl ⟨c.1, c.2, rfl, ?_⟩⟩
    · simp only [zs, ea, Int.add_zero, z_upd_same]
    · funext i
      unfold z_upd
      rw [if_neg (fun e => h ⟨e.1, e.2.1⟩), if_neg (fun e => h ⟨e.1, e.2.1⟩), if_neg (fun e => h ⟨e.1, e.2.1⟩)]
    · rw [zu_row, zu_row, zu_row]
  · by_cases c2 : m 4 45 (287 + t) = 6
    · refine ⟨v, m, -1, ?_, e2, e3, e4, e5, fun _ _ _ => rfl, .inr (.inl ⟨c, c2, rfl, rfl⟩)⟩
      refine e1.trans ?_
      by_cases c3 : m 4 45 (287 + t) ≤ v
      · rw [if_pos c3, if_pos c2]
      · rw [if_neg c3, if_neg (fun h => c ⟨by omega, h⟩), if_pos c2]
    · obtain ⟨n1, n2, n3⟩ := new c2
      refine ⟨v, _, _, ?_, e2, e3, e4, e5, n2, .inr (.inr ⟨c, by omega, n1, n3⟩)⟩
      refine e1.trans ?_
      by_cases c3 : m 4 45 (287 + t) ≤ v
      · rw [if_pos c3, if_neg c2]
      · rw [if_neg c3, if_neg (fun h => c ⟨by omega, h⟩), if_neg c2]
/-- both -/
theorem put_eq {m n' : zM} {g : Nat} (h : CR (m g) (n' 4 45)) (hb : CB (m g)) {t s x : Int} (h0 : 0 ≤ t) (h1 : t < 8) :
    (f81_1 g t s x m).1 = (f243_1 t s x n').1 ∧ CR ((f81_1 g t s x m).2 g) ((f243_1 t s x n').2 4 45) := by
  have ec := h.1.1 t h0 h1
  have hc := hb.1 t h0 h1
  obtain ⟨v, m1, r1, p1, p2, p3, p4, p5, p6, p7⟩ := put_cls m g t s x h0 h1 hc
  obtain ⟨u, m2, r2, q1, q2, q3, q4, q5, q6, q7⟩ := put_ref n' t s x h0 h1 (by rw [← ec]; exact hc)
  rw [p1, q1]
  show r1 = r2 ∧ CR (m1 g) (m2 4 45)
  rw [← ec] at q3 q5 q7
  have es : ∀ k, 0 ≤ k → k < m g 12 t → n' 4 45 (295 + 6 * t + k) = m g 13 (t * 6 + k) := fun k k0 k1 => (h.1.2.1 t k h0 h1 k0 k1).1.symm
  have huv : u = v := by
    rcases Int.lt_trichotomy u v with c | c | c
    · have e1 := p4 u q2 c
      have e2 := q5 (by omega)
      rw [es u q2 (by omega)] at e2
      omega
    · exact c
    · have e1 := q4 v p2 c
      have e2 := p5 (by omega)
      rw [es v p2 (by omega)] at e1
      omega
  subst huv
  have hS' : CS (m1 g 15) (m1 g 16) (n' 4 45) := by
    rw [p6 g 15 (by omega), p6 g 16 (by omega)]
    exact h.2.1
  have hP' : CP (m1 g 11 7) (m1 g 17) (m1 g 18) (n' 4 45) := by
    rw [p6 g 11 (by omega), p6 g 17 (by omega), p6 g 18 (by omega)]
    exact h.2.2
  have hd : ∀ k : Int, 0 ≤ k → k < m1 g 11 7 → 0 ≤ m1 g 17 k ∧ m1 g 17 k ≤ 364 := by
    rw [p6 g 11 (by omega), p6 g 17 (by omega)]
    exact hb.d
  rcases p7 with ⟨a1, a2, a3, a4, a5, a6⟩ | ⟨a1, a2, a3, a4⟩ | ⟨a1, a2, a3, a4, a5, a6⟩
  · have b9 : u < m g 12 t ∧ n' 4 45 (295 + 6 * t + u) = s := ⟨a1, by rw [es u p2 a1]; exact a2⟩
    rcases q7 with ⟨b1, b2, b3, b4⟩ | ⟨b1, _⟩ | ⟨b1, _⟩
    · refine ⟨by rw [a3, b3], ?_, ?_, ?_⟩
      · rw [a4, a5, a6, b4]
        refine CT.w (h.1.again hb.n6 h0 h1 p2 a1 (x := x)) hb.n6 (fun i i0 i1 => ?_)
        rw [a2]
        by_cases e : i = 287 + t
        · rw [e, fu_s, fu_i _ _ (by omega), fu_i _ _ (by omega)]
          exact ec
        · rw [fu_i _ _ e]
      · rw [b4]
        exact hS'.w (fun i i0 i1 => by rw [fu_i _ _ (by omega), fu_i _ _ (by omega), fu_i _ _ (by omega)])
      · rw [b4]
        exact hP'.w hd (fun i i0 i1 => by rw [fu_i _ _ (by omega), fu_i _ _ (by omega), fu_i _ _ (by omega)])
    · exact absurd b9 b1
    · exact absurd b9 b1
  · rcases q7 with ⟨b1, b2, _⟩ | ⟨b1, b2, b3, b4⟩ | ⟨b1, b2, _⟩
    · exact absurd ⟨b1, by rw [← es u p2 b1]; exact b2⟩ a1
    · subst a4 b4
      exact ⟨by rw [a3, b3], h⟩
    · omega
  · rcases q7 with ⟨b1, b2, _⟩ | ⟨b1, b2, _⟩ | ⟨b1, b2, b3, b4⟩
    · exact absurd ⟨b1, by rw [← es u p2 b1]; exact b2⟩ a1
    · omega
    · have hw : ∀ i, 295 ≤ i → i < 391 → shW n' (6 * t) u (m g 12 t) 4 45 i = if (295 + 6 * t + u < i ∧ i ≤ 295 + 6 * t + m g 12 t) ∨ (343 + 6 * t + u < i ∧ i ≤ 343 + 6 * t + m g 12 t) then n' 4 45 (i - 1) else n' 4 45 i := fun i _ _ => by
        unfold shW
        simp only [true_and]
      have ho : ∀ i, ¬ (295 ≤ i ∧ i < 391) → i ≠ 287 + t → m2 4 45 i = n' 4 45 i := fun i i0 i1 => by
        rw [b4, fu_i _ _ i1, fu_i _ _ (by omega), fu_i _ _ (by omega)]
        unfold shW
        rw [if_neg (by omega)]
      refine ⟨by rw [a3, b3], ?_, ?_, ?_⟩
      · refine h.1.new hb.1 h0 h1 p2 p3 a2 p4 (fun c => ?_) a4 a5 a6 (fun t' t0 t1 => ?_) (fun k k0 k1 => ?_) (fun k k0 k1 => ?_) (fun i i0 i1 i2 i3 => ?_) (x := x)
        · have e1 := p5 c
          have e2 : m g 13 (t * 6 + u) ≠ s := fun e => a1 ⟨c, e⟩
          omega
        · by_cases e : t' = t
          · rw [e, b4, fu_s, fu_s]
          · rw [ho _ (by omega) (by omega), fu_i _ _ e]
            exact (h.1.1 t' t0 t1).symm
        · rw [b4, fu_i _ _ (by omega), fu_i _ _ (by omega)]
          by_cases e : k = u
          · rw [e, fu_s, if_pos rfl]
          · rw [fu_i _ _ (by omega), hw _ (by omega) (by omega), if_neg e]
            by_cases e2 : u < k ∧ k ≤ m g 12 t
            · rw [if_pos (by omega), if_pos e2]
            · rw [if_neg (by omega), if_neg e2]
        · rw [b4, fu_i _ _ (by omega)]
          by_cases e : k = u
          · rw [e, fu_s, if_pos rfl]
          · rw [fu_i _ _ (by omega), fu_i _ _ (by omega), hw _ (by omega) (by omega), if_neg e]
            by_cases e2 : u < k ∧ k ≤ m g 12 t
            · rw [if_pos (by omega), if_pos e2]
            · rw [if_neg (by omega), if_neg e2]
        · rw [b4, fu_i _ _ (by omega), fu_i _ _ (by omega), fu_i _ _ (by omega), hw _ i0 i1, if_neg (by omega)]
      · exact hS'.w (fun i i0 i1 => ho i (by omega) (by omega))
      · exact hP'.w hd (fun i i0 i1 => ho i (by omega) (by omega))
