/-! How the two sides hang together in what is tracked. -/
section
variable {E : zE} {d j pc : Nat} {lv : List (Nat × zV)} {st : List zV} {m : zM} {Q : Option zV → zM → Prop} {q : Nat × Nat × Nat × Nat} {c : Value} {ks : Option (List Nat)}
theorem X.pop2 (pc' : Nat) {x : Int} (hi : z_I E j pc = some (.pop2, 1, q, c, ks)) (hc : z_cut ks lv = lv) (hp : pc + 1 = pc') (kk : X E d j pc' lv st m Q) : X E d j pc lv (zl x :: st) m Q :=
  X.num pc' hi hc hp rfl kk (fun h => ⟨z_tl h, fun _ => by
    show x_d2 1 (fun _ r => r) (fun _ _ r => r) (.long (Int64.ofInt x) :: st.map (z_v E.2.2.2)) _ = _
    simp only [x_d2, if_true]⟩)
end
def Rel (m0 : zM) : Prop := m0 4 41 3 = m0 4 44 5 ∧ m0 0 8 11 = m0 4 45 11 ∧ m0 0 23 3 = m0 4 45 18 ∧ m0 4 40 4 = m0 4 44 3 ∧ (m0 4 44 3 = 1 → m0 4 47 (-1) = 1 ∧ m0 1 8 11 = m0 4 47 11 ∧ m0 1 23 3 = m0 4 47 18)
section
variable {m0 n0 n1 : zM} {a v w : Int}
theorem rel_feed (hR : Rel m0) (p : (v = -1 ∧ 280 < m0 4 41 3 ∧ n0 = m0) ∨ (v = m0 4 41 3 + 20 ∧ m0 4 41 3 ≤ 280 ∧ n0 = z_upd m0 4 41 3 (m0 4 41 3 + 20))) (p' : (w = -1 ∧ 280 < n0 4 44 5 ∧ n1 = n0) ∨ (w = n0 4 44 5 + 20 ∧ n0 4 44 5 ≤ 280 ∧ n1 = z_upd n0 4 44 5 (n0 4 44 5 + 20))) : v = w ∧ Rel n1 := by
  obtain ⟨r1, r2, r3, r4, r5⟩ := hR
  rcases p with ⟨a1, a2, rfl⟩ | ⟨a1, a2, rfl⟩ <;> rcases p' with ⟨b1, b2, rfl⟩ | ⟨b1, b2, rfl⟩ <;> simp [z_upd, Rel] at * <;> omega
theorem rel_end (hR : Rel m0) (p : (v = 1 ∧ 0 ≤ a ∧ a ≤ m0 4 41 3 ∧ n0 = z_upd m0 4 41 3 a) ∨ (v = 0 ∧ ¬ (0 ≤ a ∧ a ≤ m0 4 41 3) ∧ n0 = m0)) (p' : (w = 1 ∧ 0 ≤ a ∧ a ≤ n0 4 44 5 ∧ n1 = z_upd n0 4 44 5 a) ∨ (w = 0 ∧ ¬ (0 ≤ a ∧ a ≤ n0 4 44 5) ∧ n1 = n0)) : v = w ∧ Rel n1 := by
  obtain ⟨r1, r2, r3, r4, r5⟩ := hR
  rcases p with ⟨a1, a2, a3, rfl⟩ | ⟨a1, a2, rfl⟩ <;> rcases p' with ⟨b1, b2, b3, rfl⟩ | ⟨b1, b2, rfl⟩ <;> simp [z_upd, Rel] at * <;> omega
theorem rel_prepaid (hR : Rel m0) (p : (v = 0 ∧ a = m0 0 8 11 ∧ n0 = m0) ∨ (v = 1 ∧ ¬ (a = m0 0 8 11) ∧ n0 = z_upd m0 0 8 11 a)) (p' : (w = 0 ∧ a = n0 4 45 11 ∧ n1 = n0) ∨ (w = 1 ∧ ¬ (a = n0 4 45 11) ∧ n1 = z_upd n0 4 45 11 a)) : v = w ∧ Rel n1 := by
  obtain ⟨r1, r2, r3, r4, r5⟩ := hR
  rcases p with ⟨a1, a2, rfl⟩ | ⟨a1, a2, rfl⟩ <;> rcases p' with ⟨b1, b2, rfl⟩ | ⟨b1, b2, rfl⟩ <;> simp [z_upd, Rel] at * <;> omega
theorem rel_bill (hR : Rel m0) (p : v = m0 0 23 3 + 1 ∧ n0 = z_upd m0 0 23 3 (m0 0 23 3 + 1)) (p' : w = n0 4 45 18 + 1 ∧ n1 = z_upd n0 4 45 18 (n0 4 45 18 + 1)) : v = w ∧ Rel n1 := by
  obtain ⟨r1, r2, r3, r4, r5⟩ := hR
  obtain ⟨a1, rfl⟩ := p
  obtain ⟨b1, rfl⟩ := p'
  simp [z_upd, Rel] at *
  omega
theorem rel_cc (hR : Rel m0) (p : n0 = m0 ∨ n0 = z_upd (z_cpy (z_upd (z_cpy m0 4 46 4 45 0 0 1619) 4 46 (-1) 1) 4 45 4 46 0 0 1619) 4 45 (-1) 1) : Rel n0 := by
  obtain ⟨r1, r2, r3, r4, r5⟩ := hR
  rcases p with rfl | rfl
  · exact ⟨r1, r2, r3, r4, r5⟩
  · simp [z_upd, z_cpy, Rel] at *
    omega
theorem rel_would (hR : Rel m0) (p : n0 = m0 ∨ n0 = z_upd (z_cpy (z_upd (z_cpy m0 4 46 4 45 0 0 1619) 4 46 (-1) 1) 4 45 4 46 0 0 1619) 4 45 (-1) 1) : Rel n0 := rel_cc hR p
theorem rel_lasts (hR : Rel m0) (p : n0 = m0 ∨ n0 = z_upd (z_cpy (z_upd (z_cpy m0 4 46 4 45 0 0 1619) 4 46 (-1) 1) 4 45 4 46 0 0 1619) 4 45 (-1) 1) : Rel n0 := rel_cc hR p
theorem rel_calendar (hR : Rel m0) (p : n0 = z_upd m0 4 41 3 0) (p' : calP n0 n1) : Rel n1 := by
  obtain ⟨r1, r2, r3, r4, r5⟩ := hR
  obtain ⟨h, h2, h3⟩ := p'
  have e1 := h 4 41 3 rfl (by decide) (by decide)
  have e2 := h 0 8 11 rfl (by decide) (by decide)
  have e3 := h 4 45 11 rfl (by decide) (by decide)
  have e4 := h 0 23 3 rfl (by decide) (by decide)
  have e5 := h 4 45 18 rfl (by decide) (by decide)
  have e6 := h 4 40 4 rfl (by decide) (by decide)
  have e7 := h 4 44 3 rfl (by decide) (by decide)
  have e8 := h 1 8 11 rfl (by decide) (by decide)
  have e9 := h 1 23 3 rfl (by decide) (by decide)
  have e10 := h 4 47 11 rfl (by decide) (by decide)
  have e11 := h 4 47 18 rfl (by decide) (by decide)
  clear h
  subst p
  simp [z_upd, Rel] at *
  omega
theorem rel_image_pre (hR : Rel m0) (p : (a = 1 ∧ v = 1 ∧ n0 = z_upd (z_upd (z_upd m0 1 23 3 (m0 0 23 3)) 1 8 11 (m0 0 8 11)) 4 40 4 1) ∨ (a = 0 ∧ m0 4 40 4 = 1 ∧ v = 1 ∧ n0 = z_upd (z_upd m0 0 23 3 (m0 1 23 3)) 0 8 11 (m0 1 8 11)) ∨ (a = 0 ∧ m0 4 40 4 = 0 ∧ v = 0 ∧ n0 = m0)) : n0 4 44 3 = 1 → n0 4 47 (-1) = 1 := by
  obtain ⟨r1, r2, r3, r4, r5⟩ := hR
  rcases p with ⟨a1, a2, rfl⟩ | ⟨a1, a2, a3, rfl⟩ | ⟨a1, a2, a3, rfl⟩ <;> (try simp [z_upd] at *) <;> omega
theorem rel_image (hR : Rel m0) (p : (a = 1 ∧ v = 1 ∧ n0 = z_upd (z_upd (z_upd m0 1 23 3 (m0 0 23 3)) 1 8 11 (m0 0 8 11)) 4 40 4 1) ∨ (a = 0 ∧ m0 4 40 4 = 1 ∧ v = 1 ∧ n0 = z_upd (z_upd m0 0 23 3 (m0 1 23 3)) 0 8 11 (m0 1 8 11)) ∨ (a = 0 ∧ m0 4 40 4 = 0 ∧ v = 0 ∧ n0 = m0))
    (p' : (w = 0 ∧ a = 0 ∧ n0 4 44 3 = 0 ∧ n1 = n0) ∨ (w = 1 ∧ a = 1 ∧ n1 = z_upd (z_upd (z_cpy n0 4 47 4 45 0 0 1619) 4 47 (-1) 1) 4 44 3 1) ∨ (w = 1 ∧ a = 0 ∧ n0 4 44 3 = 1 ∧ n1 = z_upd (z_upd (z_cpy n0 4 45 4 47 0 0 1619) 4 45 (-1) 1) 4 44 3 1)) : v = w ∧ Rel n1 := by
  obtain ⟨r1, r2, r3, r4, r5⟩ := hR
  rcases p with ⟨a1, a2, rfl⟩ | ⟨a1, a2, a3, rfl⟩ | ⟨a1, a2, a3, rfl⟩ <;> rcases p' with ⟨b1, b2, b3, rfl⟩ | ⟨b1, b2, rfl⟩ | ⟨b1, b2, b3, rfl⟩ <;> simp [z_upd, z_cpy, Rel] at * <;> omega
end
