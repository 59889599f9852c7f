/-! The calendar's text: what stands where, on both sides. -/
/-- a byte of the tape, as a number 0 .. 255 and as a byte -/
def tE (a b : Int) : Prop := (0 ≤ a ∧ a < 128 ∧ b = a) ∨ (128 ≤ a ∧ a ≤ 255 ∧ b = a - 256)
/-- the tapes, the places -/
def TP (c r : zM) : Prop := c 4 41 3 = r 4 44 5 ∧ c 4 41 3 ≤ 300 ∧ (∀ i : Int, 0 ≤ i → i < c 4 41 3 → tE (c 4 42 i) (r 4 48 i)) ∧ 0 ≤ c 4 41 7 ∧ c 4 41 7 ≤ c 4 41 3 ∧ c 4 41 7 = r 4 44 8
/-- nothing but the place has changed -/
def E1C (c c' : zM) : Prop := ∀ g k i, ¬ (g = 4 ∧ k = 41 ∧ i = 7) → c' g k i = c g k i
def E1R (r r' : zM) : Prop := ∀ g k i, ¬ (g = 4 ∧ k = 44 ∧ i = 8) → r' g k i = r g k i
/-- nothing but places and fault -/
def EC (c c' : zM) : Prop := ∀ g k i, ¬ (g = 4 ∧ k = 41 ∧ (i = 4 ∨ i = 5 ∨ i = 7 ∨ i = 8)) → c' g k i = c g k i
def ER (r r' : zM) : Prop := ∀ g k i, ¬ (g = 4 ∧ k = 44 ∧ 6 ≤ i ∧ i ≤ 10) → r' g k i = r g k i
theorem E1C.ec {c c' : zM} (h : E1C c c') : EC c c' := fun g k i h9 => h g k i (by omega)
theorem E1R.er {r r' : zM} (h : E1R r r') : ER r r' := fun g k i h9 => h g k i (by omega)
theorem E1C.trans {a b c : zM} (h : E1C a b) (h' : E1C b c) : E1C a c := fun g k i h9 => (h' g k i h9).trans (h g k i h9)
theorem E1R.trans {a b c : zM} (h : E1R a b) (h' : E1R b c) : E1R a c := fun g k i h9 => (h' g k i h9).trans (h g k i h9)
theorem EC.trans {a b c : zM} (h : EC a b) (h' : EC b c) : EC a c := fun g k i h9 => (h' g k i h9).trans (h g k i h9)
theorem ER.trans {a b c : zM} (h : ER a b) (h' : ER b c) : ER a c := fun g k i h9 => (h' g k i h9).trans (h g k i h9)
theorem EC.rf (c : zM) : EC c c := fun _ _ _ _ => rfl
theorem ER.rf (c : zM) : ER c c := fun _ _ _ _ => rfl
theorem E1C.rf (c : zM) : E1C c c := fun _ _ _ _ => rfl
theorem E1R.rf (c : zM) : E1R c c := fun _ _ _ _ => rfl
theorem EC.upd (c : zM) {i : Int} (x : Int) (h : i = 4 ∨ i = 5 ∨ i = 7 ∨ i = 8) : EC c (z_upd c 4 41 i x) := fun g k j h9 => by
  unfold z_upd
  rw [if_neg (by omega)]
theorem ER.upd (c : zM) {i : Int} (x : Int) (h : 6 ≤ i ∧ i ≤ 10) : ER c (z_upd c 4 44 i x) := fun g k j h9 => by
  unfold z_upd
  rw [if_neg (by omega)]
theorem E1C.upd (c : zM) (x : Int) : E1C c (z_upd c 4 41 7 x) := fun g k j h9 => by
  unfold z_upd
  rw [if_neg (by omega)]
theorem E1R.upd (c : zM) (x : Int) : E1R c (z_upd c 4 44 8 x) := fun g k j h9 => by
  unfold z_upd
  rw [if_neg (by omega)]
theorem TP.pres {c r c' r' : zM} (h : TP c r) (hc : EC c c') (hr : ER r r') (h0 : 0 ≤ c' 4 41 7) (h1 : c' 4 41 7 ≤ c 4 41 3) (h2 : c' 4 41 7 = r' 4 44 8) : TP c' r' := by
  obtain ⟨a1, a2, a3, a4, a5, a6⟩ := h
  have e1 : c' 4 41 3 = c 4 41 3 := hc _ _ _ (by omega)
  have e2 : r' 4 44 5 = r 4 44 5 := hr _ _ _ (by omega)
  refine ⟨by omega, by omega, fun i i0 i1 => ?_, h0, by omega, h2⟩
  rw [hc 4 42 i (by omega), hr 4 48 i (by omega)]
  exact a3 i i0 (by omega)
/-- one place on -/
theorem TP.on {c r : zM} (h : TP c r) (hl : c 4 41 7 < c 4 41 3) : TP (z_upd c 4 41 7 (c 4 41 7 + 1)) (z_upd r 4 44 8 (r 4 44 8 + 1)) :=
  h.pres (EC.upd c _ (by omega)) (ER.upd r _ (by omega)) (by rw [z_upd_same]; have := h.2.2.2.1; omega) (by rw [z_upd_same]; omega) (by rw [z_upd_same, z_upd_same]; have := h.2.2.2.2.2; omega)
theorem TP.ch {c r : zM} (h : TP c r) (hl : c 4 41 7 < c 4 41 3) : tE (c 4 42 (c 4 41 7)) (r 4 48 (r 4 44 8)) := by
  have e := h.2.2.1 (c 4 41 7) h.2.2.2.1 hl
  rw [h.2.2.2.2.2] at e ⊢
  exact e
/-! blanks -/
theorem bl_loop : ∀ (n n2 : Nat) (c r : zM), TP c r → c 4 41 3 - c 4 41 7 < n → c 4 41 3 - c 4 41 7 < n2 →
    TP (fl93_0_1 (fun m => m) n c) (fl263_0_1 (fun m => m) n2 r) ∧ E1C c (fl93_0_1 (fun m => m) n c) ∧ E1R r (fl263_0_1 (fun m => m) n2 r) ∧ c 4 41 7 ≤ fl93_0_1 (fun m => m) n c 4 41 7 := by
  intro n
  induction n with
  | zero =>
    intro n2 c r h h1
    have := h.2.2.2.2.1
    omega
  | succ n ih =>
    intro n2 c r h h1 h2
    have h5 := h.2.2.2.2.1
    obtain ⟨n2, rfl⟩ : ∃ j, n2 = j + 1 := ⟨n2 - 1, by omega⟩
    show TP (fl93_0_1_b (fl93_0_1 (fun m => m) n) (fun m => m) c) (fl263_0_1_b (fl263_0_1 (fun m => m) n2) (fun m => m) r) ∧ E1C c (fl93_0_1_b (fl93_0_1 (fun m => m) n) (fun m => m) c) ∧ E1R r (fl263_0_1_b (fl263_0_1 (fun m => m) n2) (fun m => m) r) ∧ c 4 41 7 ≤ fl93_0_1_b (fl93_0_1 (fun m => m) n) (fun m => m) c 4 41 7
    unfold fl93_0_1_b fl263_0_1_b
    rw [← h.1, ← h.2.2.2.2.2]
    by_cases c1 : c 4 41 3 ≤ c 4 41 7
    · rw [if_pos c1, if_pos c1]
      exact ⟨h, E1C.rf c, E1R.rf r, Int.le_refl _⟩
    · rw [if_neg c1, if_neg c1]
      have ht := h.ch (by omega)
      rw [← h.2.2.2.2.2] at ht
      by_cases c2 : c 4 42 (c 4 41 7) = 32
      · have c3 : r 4 48 (c 4 41 7) = 32 := by
          unfold tE at ht
          omega
        rw [if_pos c2, if_pos c3]
        simp only [zs]
        have hp := h.on (by omega)
        have e1 : z_upd c 4 41 7 (c 4 41 7 + 1) 4 41 3 = c 4 41 3 := z_upd_o _ _ rfl
        have e2 : z_upd c 4 41 7 (c 4 41 7 + 1) 4 41 7 = c 4 41 7 + 1 := z_upd_same _ _ _ _ _
        rw [← h.2.2.2.2.2] at hp
        obtain ⟨g1, g2, g3, g4⟩ := ih n2 _ _ hp (by rw [e1, e2]; omega) (by rw [e1, e2]; omega)
        exact ⟨g1, (E1C.upd c _).trans g2, (E1R.upd r _).trans g3, by omega⟩
      · have c3 : ¬ r 4 48 (c 4 41 7) = 32 := by
          unfold tE at ht
          omega
        rw [if_neg c2, if_neg c3]
        exact ⟨h, E1C.rf c, E1R.rf r, Int.le_refl _⟩
theorem bl_eq {c r : zM} (h : TP c r) : TP (f93_1 c) (f263_1 r) ∧ E1C c (f93_1 c) ∧ E1R r (f263_1 r) ∧ c 4 41 7 ≤ f93_1 c 4 41 7 :=
  bl_loop (zfu 301) (zfu 301) c r h (by rw [zfu_eq]; have := h.2.1; have := h.2.2.2.1; omega) (by rw [zfu_eq]; have := h.2.1; have := h.2.2.2.1; omega)
/-! faults -/
/-- no fault so far -/
def N0 (c r : zM) : Prop := TP c r ∧ c 4 41 4 = 0 ∧ c 4 41 5 = -1 ∧ r 4 44 9 = 0 ∧ r 4 44 6 = 0 ∧ r 4 44 7 = -1
/-- the same fault -/
def FL (c r : zM) : Prop := c 4 41 3 = r 4 44 5 ∧ r 4 44 9 = 1 ∧ c 4 41 4 = r 4 44 6 ∧ c 4 41 4 ≠ 0 ∧ c 4 41 5 = r 4 44 7
theorem N0.bl {c r : zM} (h : N0 c r) : N0 (f93_1 c) (f263_1 r) := by
  obtain ⟨g1, g2, g3, _⟩ := bl_eq h.1
  exact ⟨g1, by rw [g2 _ _ _ (by omega)]; exact h.2.1, by rw [g2 _ _ _ (by omega)]; exact h.2.2.1, by rw [g3 _ _ _ (by omega)]; exact h.2.2.2.1, by rw [g3 _ _ _ (by omega)]; exact h.2.2.2.2.1, by rw [g3 _ _ _ (by omega)]; exact h.2.2.2.2.2⟩
/-- a fault comes to both -/
theorem N0.fail {c r : zM} (h : N0 c r) {k p p' : Int} (hk : k ≠ 0) (hp : p = p') : (f102_1 k p c).1 = 0 ∧ FL (f102_1 k p c).2 (f268_1 k p' r) ∧ EC c (f102_1 k p c).2 ∧ ER r (f268_1 k p' r) := by
  subst hp
  unfold f102_1 f268_1
  simp only [zs]
  rw [if_pos h.2.2.2.1]
  refine ⟨by first | rfl | trivial, ⟨?_, ?_, ?_, ?_, ?_⟩, (EC.upd _ _ (by omega)).trans (EC.upd _ _ (by omega)), ((ER.upd _ _ (by omega)).trans (ER.upd _ _ (by omega))).trans (ER.upd _ _ (by omega))⟩
  · rw [z_upd_o _ _ rfl, z_upd_o _ _ rfl, z_upd_o _ _ rfl, z_upd_o _ _ rfl, z_upd_o _ _ rfl]
    exact h.1.1
  · rw [z_upd_o _ _ rfl, z_upd_o _ _ rfl, z_upd_same]
  · rw [z_upd_o _ _ rfl, z_upd_same, z_upd_o _ _ rfl, z_upd_same]
  · rw [z_upd_o _ _ rfl, z_upd_same]
    exact hk
  · rw [z_upd_same, z_upd_same]
/-! numbers -/
/-- the same digits: the same number, or both too great -/
def nR (a b : Int) : Prop := 0 ≤ a ∧ 0 ≤ b ∧ (a = b ∨ (1000 < a ∧ 1000 < b))
theorem nR_step {a b d : Int} (h : nR a b) (hd : 0 ≤ d ∧ d ≤ 9) : nR (min (a * 10 + (d + 48) - 48) 1000000) (if b ≤ 100000 then 10 * b + (d + 48) - 48 else b) := by
  unfold nR at *
  split <;> omega
theorem num_loop {kC kR : Int → zM → Int × zM} {most : Int} : ∀ (n n2 : Nat) (a b : Int) (c r : zM), TP c r → nR a b → c 4 41 3 - c 4 41 7 < n → c 4 41 3 - c 4 41 7 < n2 →
    ∃ a' b' c' r', fl100_14_1 kC most n a c = kC a' c' ∧ fl270_23_1 kR 0 most n2 b r = kR b' r' ∧ nR a' b' ∧ TP c' r' ∧ E1C c c' ∧ E1R r r' ∧ c 4 41 7 ≤ c' 4 41 7 ∧ (c' 4 41 7 = c 4 41 7 → a' = a ∧ b' = b) := by
  intro n
  induction n with
  | zero =>
    intro n2 a b c r h hn h1
    have := h.2.2.2.2.1
    omega
  | succ n ih =>
    intro n2 a b c r h hn h1 h2
    have h5 := h.2.2.2.2.1
    obtain ⟨n2, rfl⟩ : ∃ j, n2 = j + 1 := ⟨n2 - 1, by omega⟩
    show ∃ a' b' c' r', fl100_14_1_b (fl100_14_1 kC most n) kC most a c = kC a' c' ∧ fl270_23_1_b (fl270_23_1 kR 0 most n2) kR 0 most b r = kR b' r' ∧ _
    unfold fl100_14_1_b fl270_23_1_b
    have e8 := h.2.2.2.2.2
    rw [← h.1, ← e8]
    by_cases c1 : c 4 41 3 ≤ c 4 41 7
    · rw [if_pos c1, if_pos c1]
      exact ⟨a, b, c, r, rfl, rfl, hn, h, E1C.rf c, E1R.rf r, Int.le_refl _, fun _ => ⟨rfl, rfl⟩⟩
    · rw [if_neg c1, if_neg c1]
      have ht := h.ch (by omega)
      rw [← e8] at ht
      by_cases c2 : 48 ≤ c 4 42 (c 4 41 7) ∧ c 4 42 (c 4 41 7) ≤ 57
      · have c3 : r 4 48 (c 4 41 7) = c 4 42 (c 4 41 7) := by
          unfold tE at ht
          omega
        rw [c3, if_neg (by omega), if_neg (by omega), if_neg (by omega), if_pos c2.2]
        simp only [zs]
        have hp := h.on (by omega)
        rw [← e8] at hp
        have e1 : z_upd c 4 41 7 (c 4 41 7 + 1) 4 41 3 = c 4 41 3 := z_upd_o _ _ rfl
        have e2 : z_upd c 4 41 7 (c 4 41 7 + 1) 4 41 7 = c 4 41 7 + 1 := z_upd_same _ _ _ _ _
        have hs := nR_step (d := c 4 42 (c 4 41 7) - 48) hn (by omega)
        rw [show c 4 42 (c 4 41 7) - 48 + 48 = c 4 42 (c 4 41 7) by omega] at hs
        have fin : ∀ y, y = (if b ≤ 100000 then 10 * b + c 4 42 (c 4 41 7) - 48 else b) → ∃ a' b' c' r', fl100_14_1 kC most n (min (a * 10 + c 4 42 (c 4 41 7) - 48) 1000000) (z_upd c 4 41 7 (c 4 41 7 + 1)) = kC a' c' ∧ fl270_23_1 kR 0 most n2 y (z_upd r 4 44 8 (c 4 41 7 + 1)) = kR b' r' ∧ nR a' b' ∧ TP c' r' ∧ E1C c c' ∧ E1R r r' ∧ c 4 41 7 ≤ c' 4 41 7 ∧ (c' 4 41 7 = c 4 41 7 → a' = a ∧ b' = b) := by
          intro y hy
          subst hy
          obtain ⟨a', b', c', r', g1, g2, g3, g4, g5, g6, g7, g8⟩ := ih n2 _ _ _ _ hp hs (by rw [e1, e2]; omega) (by rw [e1, e2]; omega)
          exact ⟨a', b', c', r', g1, g2, g3, g4, (E1C.upd c _).trans g5, (E1R.upd r _).trans g6, by omega, fun e => by omega⟩
        by_cases c4 : b ≤ 100000
        · rw [if_pos c4]
          exact fin _ (by rw [if_pos c4])
        · rw [if_neg c4]
          exact fin _ (by rw [if_neg c4])
      · have c3 : ¬ (48 ≤ r 4 48 (c 4 41 7) ∧ r 4 48 (c 4 41 7) ≤ 57) := by
          unfold tE at ht
          omega
        have eC : (if c 4 42 (c 4 41 7) < 48 then kC a c else if 57 < c 4 42 (c 4 41 7) then kC a c else zs (z_upd c 4 41 7 (c 4 41 7 + 1)) fun m21 => fl100_14_1 kC most n (min (a * 10 + c 4 42 (c 4 41 7) - 48) 1000000) m21) = kC a c := by
          by_cases c5 : c 4 42 (c 4 41 7) < 48
          · rw [if_pos c5]
          · rw [if_neg c5, if_pos (by omega)]
        rw [eC]
        refine ⟨a, b, c, r, rfl, ?_, hn, h, E1C.rf c, E1R.rf r, Int.le_refl _, fun _ => ⟨rfl, rfl⟩⟩
        by_cases c5 : r 4 48 (c 4 41 7) < 48
        · rw [if_pos c5]
        · rw [if_neg c5, if_neg (by omega)]
/-- a number is read -/
theorem num_eq {c r : zM} (h : N0 c r) {most : Int} (hm : 0 ≤ most ∧ most ≤ 1000) : EC c (f100_1 most c).2 ∧ ER r (f270_1 0 most r).2 ∧
    ((0 ≤ (f100_1 most c).1 ∧ (f100_1 most c).1 ≤ most ∧ (f270_1 0 most r).1 = (f100_1 most c).1 ∧ N0 (f100_1 most c).2 (f270_1 0 most r).2 ∧ (f100_1 most c).2 4 41 8 = (f270_1 0 most r).2 4 44 10) ∨
     ((f100_1 most c).1 = -1 ∧ (f270_1 0 most r).1 = 0 ∧ FL (f100_1 most c).2 (f270_1 0 most r).2)) := by
  have hb := h.bl
  obtain ⟨b1, b2, b3, b4⟩ := bl_eq h.1
  unfold f100_1 f270_1
  rw [if_pos h.2.2.2.1]
  simp only [zs]
  have hp : TP (z_upd (f93_1 c) 4 41 8 (f93_1 c 4 41 7)) (z_upd (f263_1 r) 4 44 10 (f263_1 r 4 44 8)) :=
    b1.pres (EC.upd _ _ (by omega)) (ER.upd _ _ (by omega)) (by rw [z_upd_o _ _ rfl]; exact b1.2.2.2.1) (by rw [z_upd_o _ _ rfl]; exact b1.2.2.2.2.1) (by rw [z_upd_o _ _ rfl, z_upd_o _ _ rfl]; exact b1.2.2.2.2.2)
  have hfu : z_upd (f93_1 c) 4 41 8 (f93_1 c 4 41 7) 4 41 3 - z_upd (f93_1 c) 4 41 8 (f93_1 c 4 41 7) 4 41 7 < (zfu 301 : Nat) := by
    rw [zfu_eq]
    have := hp.2.1
    have := hp.2.2.2.1
    omega
  obtain ⟨a', b', c', r', g1, g2, g3, g4, g5, g6, g7, g8⟩ := num_loop (kC := fun y07 m08 => if m08 4 41 7 = m08 4 41 8 then zb (f102_1 1 (m08 4 41 8) m08) fun v22 m20 => (-1, m20) else if y07 ≤ most then (y07, m08) else zb (f102_1 2 (m08 4 41 8) m08) fun v19 m17 => (-1, m17))
    (kR := fun y09 m10 => if m10 4 44 8 = m10 4 44 10 then (let m31 := f268_1 1 (m10 4 44 8) m10; if m31 4 44 9 = 0 then (y09, m31) else (0, m31)) else if y09 ≤ most then (if m10 4 44 9 = 0 then (y09, m10) else (0, m10)) else (let m23 := f268_1 2 (m10 4 44 10) m10; if m23 4 44 9 = 0 then (y09, m23) else (0, m23)))
    (most := most) (zfu 301) (zfu 301) 0 0 _ _ hp ⟨by omega, by omega, .inl rfl⟩ hfu hfu
  rw [g1, g2]
  have eC : EC c c' := ((b2.ec).trans (EC.upd _ _ (by omega))).trans g5.ec
  have eR : ER r r' := ((b3.er).trans (ER.upd _ _ (by omega))).trans g6.er
  have e8 : c' 4 41 8 = f93_1 c 4 41 7 := by rw [g5 _ _ _ (by omega), z_upd_same]
  have e10 : r' 4 44 10 = f263_1 r 4 44 8 := by rw [g6 _ _ _ (by omega), z_upd_same]
  have e810 : c' 4 41 8 = r' 4 44 10 := by rw [e8, e10]; exact b1.2.2.2.2.2
  have hN : N0 c' r' := ⟨g4, by rw [g5 _ _ _ (by omega), z_upd_o _ _ rfl]; exact hb.2.1, by rw [g5 _ _ _ (by omega), z_upd_o _ _ rfl]; exact hb.2.2.1, by rw [g6 _ _ _ (by omega), z_upd_o _ _ rfl]; exact hb.2.2.2.1, by rw [g6 _ _ _ (by omega), z_upd_o _ _ rfl]; exact hb.2.2.2.2.1, by rw [g6 _ _ _ (by omega), z_upd_o _ _ rfl]; exact hb.2.2.2.2.2⟩
  have e9 := hN.2.2.2.1
  rw [← g4.2.2.2.2.2, ← e810]
  by_cases c1 : c' 4 41 7 = c' 4 41 8
  · rw [if_pos c1, if_pos c1]
    obtain ⟨f1, f2, f3, f4⟩ := hN.fail (k := 1) (p := c' 4 41 8) (p' := c' 4 41 7) (by decide) c1.symm
    dsimp only
    rw [if_neg (by rw [f2.2.1]; decide)]
    exact ⟨eC.trans f3, eR.trans f4, .inr ⟨rfl, rfl, f2⟩⟩
  · rw [if_neg c1, if_neg c1]
    obtain ⟨n1, n2, n3⟩ := g3
    by_cases c2 : a' ≤ most
    · rw [if_pos c2, if_pos (by omega), if_pos e9]
      exact ⟨eC, eR, .inl ⟨n1, c2, by show b' = a'; omega, hN, e810⟩⟩
    · rw [if_neg c2, if_neg (by omega)]
      obtain ⟨f1, f2, f3, f4⟩ := hN.fail (k := 2) (p := c' 4 41 8) (p' := c' 4 41 8) (by decide) rfl
      dsimp only
      rw [if_neg (by rw [f2.2.1]; decide)]
      exact ⟨eC.trans f3, eR.trans f4, .inr ⟨rfl, rfl, f2⟩⟩
