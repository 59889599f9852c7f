/-! A sample more, on both sides. -/
theorem wn_put {c c' : Nat → Int → Int} {w w' : Int → Int} {P s a b : Int} (hP : 1 ≤ P ∧ P ≤ 3) (hs : 0 ≤ s ∧ s < 48) (h16 : s / P < 16)
    (h : ∀ k, 0 ≤ k → k < s → c 20 k = w (191 + 16 * (k % P) + k / P) ∧ c 21 k = w (239 + 16 * (k % P) + k / P))
    (e20 : ∀ i, c' 20 i = fu (c 20) s a i) (e21 : ∀ i, c' 21 i = fu (c 21) s b i)
    (ew : ∀ i, 191 ≤ i → i ≤ 286 → w' i = if i = 191 + 16 * (s % P) + s / P then a else if i = 239 + 16 * (s % P) + s / P then b else w i) :
    ∀ k, 0 ≤ k → k < s + 1 → c' 20 k = w' (191 + 16 * (k % P) + k / P) ∧ c' 21 k = w' (239 + 16 * (k % P) + k / P) := by
  intro k k0 k1
  have hp3 : P = 1 ∨ P = 2 ∨ P = 3 := by omega
  have bk : 0 ≤ k % P ∧ k % P < 3 ∧ 0 ≤ k / P ∧ k / P < 16 := by rcases hp3 with rfl | rfl | rfl <;> omega
  have bs : 0 ≤ s % P ∧ s % P < 3 ∧ 0 ≤ s / P := by rcases hp3 with rfl | rfl | rfl <;> omega
  have hd : k ≠ s → 16 * (k % P) + k / P ≠ 16 * (s % P) + s / P := by rcases hp3 with rfl | rfl | rfl <;> omega
  have w1 := ew (191 + 16 * (k % P) + k / P) (by omega) (by omega)
  have w2 := ew (239 + 16 * (k % P) + k / P) (by omega) (by omega)
  rw [e20, e21, w1, w2]
  by_cases e : k = s
  · rw [e, fu_s, fu_s, if_pos rfl, if_neg (show ¬ 239 + 16 * (s % P) + s / P = 191 + 16 * (s % P) + s / P by omega), if_pos rfl]
    exact ⟨rfl, rfl⟩
  · have hd := hd e
    obtain ⟨x, y⟩ := h k k0 (by omega)
    rw [fu_i _ _ e, fu_i _ _ e, x, y, if_neg (show ¬ 191 + 16 * (k % P) + k / P = 191 + 16 * (s % P) + s / P by omega), if_neg (show ¬ 191 + 16 * (k % P) + k / P = 239 + 16 * (s % P) + s / P by omega), if_neg (show ¬ 239 + 16 * (k % P) + k / P = 191 + 16 * (s % P) + s / P by omega), if_neg (show ¬ 239 + 16 * (k % P) + k / P = 239 + 16 * (s % P) + s / P by omega)]
    exact ⟨rfl, rfl⟩
/-- a period is full: its sums -/
theorem ws_new {c c' : Nat → Int → Int} {w w' : Int → Int} (hP : 1 ≤ w 1 ∧ w 1 ≤ 3) (hN : 4 ≤ w 2 ∧ w 2 ≤ 16) (h : ∀ k, 0 ≤ k → k < w 1 * w 2 → c 20 k = w (191 + 16 * (k % w 1) + k / w 1) ∧ c 21 k = w (239 + 16 * (k % w 1) + k / w 1))
    (e1 : w' 1 = w 1) (e2 : w' 2 = w 2) (ew : ∀ i, 0 ≤ i → i < 96 → w' (95 + i) = w (191 + i)) (hi : IN c (w 1) (w 2) (w 2).toNat 0 (c' 22)) (hr : isRoot (c' 22 3 * c' 22 3 + c' 22 7 * c' 22 7) (c' 19 6)) : WS c' w' := by
  have pl : ∀ k f : Int, 0 ≤ k → k < w 2 → 0 ≤ f → f < w 1 → c 20 (k * w 1 + f) = w' (95 + 16 * f + k) ∧ c 21 (k * w 1 + f) = w' (143 + 16 * f + k) := by
    intro k f k0 k1 f0 f1
    obtain ⟨x0, x1, x2, x3⟩ : 0 ≤ k * w 1 + f ∧ k * w 1 + f < w 1 * w 2 ∧ (k * w 1 + f) % w 1 = f ∧ (k * w 1 + f) / w 1 = k := by
      rcases (show w 1 = 1 ∨ w 1 = 2 ∨ w 1 = 3 by omega) with e | e | e <;> rw [e] at f1 ⊢ <;> omega
    obtain ⟨y1, y2⟩ := h _ x0 x1
    rw [x2, x3] at y1 y2
    have z1 := ew (16 * f + k) (by omega) (by omega)
    have z2 := ew (48 + (16 * f + k)) (by omega) (by omega)
    rw [y1, y2, show 95 + 16 * f + k = 95 + (16 * f + k) by omega, z1, show 143 + 16 * f + k = 95 + (48 + (16 * f + k)) by omega, z2, show 191 + (16 * f + k) = 191 + 16 * f + k by omega, show 191 + (48 + (16 * f + k)) = 239 + 16 * f + k by omega]
    exact ⟨rfl, rfl⟩
  have tq : ∀ f k : Nat, (f : Int) < w 1 → (k : Int) < w 2 → cT c (w 1) (w 2) 0 k f = tA w' f k ∧ cT c (w 1) (w 2) 1 k f = tR w' (w 2) f k ∧ cT c (w 1) (w 2) 2 k f = tS w' 95 f k ∧ cT c (w 1) (w 2) 3 k f = tS w' 143 f k := by
    intro f k hf hk
    obtain ⟨a, b⟩ := pl k f (by omega) hk (by omega) hf
    have m0 : 0 ≤ ((k : Int) + w 2 / 4) % w 2 := Int.emod_nonneg _ (by omega)
    have m1 : ((k : Int) + w 2 / 4) % w 2 < w 2 := Int.emod_lt_of_pos _ (by omega)
    obtain ⟨-, d⟩ := pl (((k : Int) + w 2 / 4) % w 2) f m0 m1 (by omega) hf
    unfold tA tR tS
    refine ⟨?_, ?_, ?_, ?_⟩
    · show c 20 ((k : Int) * w 1 + f) * c 21 ((k : Int) * w 1 + f) = _
      rw [a, b]
    · show c 20 ((k : Int) * w 1 + f) * c 21 ((((k : Int) + w 2 / 4) % w 2) * w 1 + f) = _
      rw [a, d]
    · show c 20 ((k : Int) * w 1 + f) * c 20 ((k : Int) * w 1 + f) = _
      rw [a]
    · show c 21 ((k : Int) * w 1 + f) * c 21 ((k : Int) * w 1 + f) = _
      rw [b]
  have sq : ∀ f : Nat, (f : Int) < w 1 → sumN (fun j => cT c (w 1) (w 2) 0 j f) (w 2).toNat = AC w' f ∧ sumN (fun j => cT c (w 1) (w 2) 1 j f) (w 2).toNat = RE w' f ∧ sumN (fun j => cT c (w 1) (w 2) 2 j f) (w 2).toNat = SQ w' 95 f ∧ sumN (fun j => cT c (w 1) (w 2) 3 j f) (w 2).toNat = SQ w' 143 f := fun f hf => by
    unfold AC RE SQ
    rw [e2]
    exact ⟨sumN_congr _ (fun k hk => (tq f k hf (by omega)).1), sumN_congr _ (fun k hk => (tq f k hf (by omega)).2.1), sumN_congr _ (fun k hk => (tq f k hf (by omega)).2.2.1), sumN_congr _ (fun k hk => (tq f k hf (by omega)).2.2.2)⟩
  have one : ∀ (q f : Nat), q < 4 → (f : Int) < w 1 → c' 22 ((q : Int) * 4 + f) = sumN (fun j => cT c (w 1) (w 2) q j f) (w 2).toNat := fun q f hq hf => by
    have h9 := (hi q hq).1 f hf
    rw [if_neg (Nat.not_lt_zero f)] at h9
    exact h9
  have tot : ∀ q : Nat, q < 4 → c' 22 ((q : Int) * 4 + 3) = sumN (fun f => sumN (fun j => cT c (w 1) (w 2) q j f) (w 2).toNat) (w 1).toNat := fun q hq => by
    rw [(hi q hq).2]
    exact Int.add_zero _
  refine ⟨fun f hf => ?_, ?_, ?_, ?_, ?_, hr⟩
  · rw [e1] at hf
    obtain ⟨s1, s2, s3, s4⟩ := sq f hf
    have o0 := one 0 f (by omega) hf
    have o1 := one 1 f (by omega) hf
    have o2 := one 2 f (by omega) hf
    have o3 := one 3 f (by omega) hf
    rw [show ((0 : Nat) : Int) * 4 + (f : Int) = (f : Int) by omega] at o0
    rw [show ((1 : Nat) : Int) * 4 + (f : Int) = 4 + (f : Int) by omega] at o1
    rw [show ((2 : Nat) : Int) * 4 + (f : Int) = 8 + (f : Int) by omega] at o2
    rw [show ((3 : Nat) : Int) * 4 + (f : Int) = 12 + (f : Int) by omega] at o3
    rw [o0, o1, o2, o3, s1, s2, s3, s4]
    exact ⟨rfl, rfl, rfl, rfl⟩
  · have t := tot 0 (by omega)
    rw [show ((0 : Nat) : Int) * 4 + 3 = 3 by omega] at t
    rw [t, e1]
    exact sumN_congr _ (fun f hf => by
      unfold TG
      rw [if_pos rfl]
      exact (sq f (by omega)).1)
  · have t := tot 1 (by omega)
    rw [show ((1 : Nat) : Int) * 4 + 3 = 7 by omega] at t
    rw [t, e1]
    exact sumN_congr _ (fun f hf => by
      unfold TG
      rw [if_neg (by decide), if_pos rfl]
      exact (sq f (by omega)).2.1)
  · have t := tot 2 (by omega)
    rw [show ((2 : Nat) : Int) * 4 + 3 = 11 by omega] at t
    rw [t, e1]
    exact sumN_congr _ (fun f hf => by
      unfold TG
      rw [if_neg (by decide), if_neg (by decide), if_pos rfl]
      exact (sq f (by omega)).2.2.1)
  · have t := tot 3 (by omega)
    rw [show ((3 : Nat) : Int) * 4 + 3 = 15 by omega] at t
    rw [t, e1]
    exact sumN_congr _ (fun f hf => by
      unfold TG
      rw [if_neg (by decide), if_neg (by decide), if_neg (by decide)]
      exact (sq f (by omega)).2.2.2)
/-- only the wave's rows are others -/
theorem FE_w {c c' : Nat → Int → Int} (h : ∀ k, k ≠ 19 → k ≠ 20 → k ≠ 21 → k ≠ 22 → c' k = c k) {n : Nat} (hn : n ≠ 2) : FE n c c' := fun x hx e i _ _ => by
  have hx2 : ∀ x, x ∈ fcl → x.1 ≠ 2 → x.2.1 ≠ 19 ∧ x.2.1 ≠ 20 ∧ x.2.1 ≠ 21 ∧ x.2.1 ≠ 22 := by decide
  obtain ⟨a1, a2, a3, a4⟩ := hx2 x hx (by omega)
  rw [h _ a1 a2 a3 a4]
theorem FW_w {w w' : Int → Int} (h : ∀ i, 0 ≤ i → ¬ (1 ≤ i ∧ i ≤ 3) → ¬ (95 ≤ i ∧ i ≤ 286) → w' i = w i) {n : Nat} (hn : n ≠ 2) : FW n w w' := fun i h0 h1 e => h i h0 (fun hh => by rw [ja45_1 hh] at e; omega) (fun hh => by rw [ja45_95 hh] at e; omega)
theorem cpv205 {B : Int} {k : zM → Int × zM} : ∀ (n : Nat) (y : Int) (m : zM), 0 ≤ y → y ≤ 96 → 96 - y < n → OM B m → ∃ m', fl205_139_1 k n y m = k m' ∧ OM B m' ∧ (∀ i, y ≤ i → i < 96 → m' 4 45 (95 + i) = m 4 45 (191 + i)) ∧ (∀ i, (i < 95 + y ∨ 190 < i) → m' 4 45 i = m 4 45 i)
  | 0, y, m, h0, h1, h2, h3 => by omega
  | n + 1, y, m, h0, h1, h2, h3 => by
    show ∃ m', fl205_139_1_b (fl205_139_1 k n) k y m = k m' ∧ _
    unfold fl205_139_1_b
    by_cases h : 96 ≤ y
    · rw [if_pos h]
      exact ⟨m, rfl, h3, fun i i0 i1 => by omega, fun _ _ => rfl⟩
    · rw [if_neg h, zs_a]
      have b := r45_95 h3.2.o 4 (i := 191 + y) (by omega)
      obtain ⟨m', e, e1, e2, e3⟩ := cpv205 (k := k) n (y + 1) (z_upd m 4 45 (95 + y) (m 4 45 (191 + y))) (by omega) (by omega) (by omega) (u45_95 (g := 4) h3 (by omega) b)
      refine ⟨m', e, e1, fun i i0 i1 => ?_, fun i hi => ?_⟩
      · by_cases e4 : i = y
        · rw [e3 _ (by omega), zu_row, e4, fu_s]
        · rw [e2 i (by omega) i1, zu_row, fu_i _ _ (by omega)]
      · rw [e3 i (by omega), zu_row, fu_i _ _ (by omega)]
theorem MG.up {A A' Z Z' : Int} {c : Nat → Int → Int} {w : Int → Int} (h : MG A Z c w) (hA : A ≤ A') (hZ : Z ≤ Z') : MG A' Z' c w := ⟨h.1, h.2.1, h.2.2.1, h.2.2.2.1.up hA hZ, h.2.2.2.2⟩
theorem sample_G {c r : zM} {B a b A Z : Int} (hc : OM B c) (hr : OM B r) (hB : B + 80000 ≤ 1000000000) (hA : A ≤ 2880000) (hZ : Z ≤ 900000000) (h : MG A Z (c 0) (r 4 45)) (hn : WN (c 0) (r 4 45)) (h5 : c 0 19 5 = r 4 45 3) :
    MG (A + 1) Z ((f19_1 a b c).2 0) ((f205_1 a b r).2 4 45) ∧ WN ((f19_1 a b c).2 0) ((f205_1 a b r).2 4 45) ∧ KC (c 0) ((f19_1 a b c).2 0) := by
  have up : MG (A + 1) Z (c 0) (r 4 45) := h.up (by omega) (Int.le_refl _)
  unfold f19_1 f205_1
  by_cases c1 : a < -500
  · rw [if_pos c1, if_pos c1]
    exact ⟨up, hn, KC.rf _⟩
  rw [if_neg c1, if_neg c1]
  by_cases c2 : a ≤ 500
  case neg =>
    rw [if_pos (by omega), if_neg c2]
    exact ⟨up, hn, KC.rf _⟩
  rw [if_neg (by omega), if_pos c2]
  by_cases c3 : b < -500
  · rw [if_pos c3, if_pos c3]
    exact ⟨up, hn, KC.rf _⟩
  rw [if_neg c3, if_neg c3]
  by_cases c4 : b ≤ 500
  case neg =>
    rw [if_neg c4, if_neg c4]
    exact ⟨up, hn, KC.rf _⟩
  rw [if_pos c4, if_pos c4]
  obtain ⟨w1, w2, hws, hst, hwb⟩ := id h.2.1
  obtain ⟨p0, p1, n0, n1, s0, s1, -⟩ := id hwb
  obtain ⟨P, hP⟩ : ∃ P, P = r 4 45 1 := ⟨_, rfl⟩
  obtain ⟨s, hs⟩ : ∃ s, s = r 4 45 3 := ⟨_, rfl⟩
  obtain ⟨q3, hq⟩ := id hn
  rw [← hP, ← hs] at q3 hq
  rw [← hP] at p0 p1 w1
  rw [← hs] at s0 s1 h5
  have hp3 : P = 1 ∨ P = 2 ∨ P = 3 := by omega
  obtain ⟨x0, x1, x2, x3⟩ : 0 ≤ s % P ∧ s % P < 3 ∧ 0 ≤ s / P ∧ s / P < 16 := by rcases hp3 with e | e | e <;> rw [e] at q3 ⊢ <;> omega
  -- the class
  obtain ⟨k1, k2, -⟩ := q20_1 0 a b hc.1 hc.2 (by omega) (by omega) (by omega) (by omega)
  obtain ⟨m1, em1⟩ : ∃ x, x = z_upd (z_upd (z_upd c 0 20 (c 0 19 5) a) 0 21 (c 0 19 5) b) 0 19 5 (c 0 19 5 + 1) := ⟨_, rfl⟩
  have d19 : ∀ i, m1 0 19 i = if i = 5 then s + 1 else c 0 19 i := fun i => by
    rw [em1, zu_row, zu_k _ _ _ (show (19 : Nat) ≠ 21 by decide), zu_k _ _ _ (show (19 : Nat) ≠ 20 by decide), h5]
    rfl
  have d20 : ∀ i, m1 0 20 i = fu (c 0 20) s a i := fun i => by rw [em1, zu_k _ _ _ (show (20 : Nat) ≠ 19 by decide), zu_k _ _ _ (show (20 : Nat) ≠ 21 by decide), zu_row, h5]
  have d21 : ∀ i, m1 0 21 i = fu (c 0 21) s b i := fun i => by rw [em1, zu_k _ _ _ (show (21 : Nat) ≠ 19 by decide), zu_row, zu_k _ _ _ (show (21 : Nat) ≠ 20 by decide), h5]
  have dk : ∀ k, k ≠ 19 → k ≠ 20 → k ≠ 21 → m1 0 k = c 0 k := fun k e1 e2 e3 => by rw [em1, zu_k _ _ _ e1, zu_k _ _ _ e3, zu_k _ _ _ e2]
  have e20 : f20_1 0 a b c = if P * r 4 45 2 ≤ s + 1 then (1, f21_1 0 (z_upd m1 0 19 5 0)) else (0, m1) := by
    unfold f20_1
    simp only [zs_a, zn_a]
    have t5 : z_upd c 0 20 (c 0 19 5) a 0 19 5 = c 0 19 5 := by rw [zu_k _ _ _ (by decide)]
    have t6 : z_upd (z_upd c 0 20 (c 0 19 5) a) 0 21 (c 0 19 5) b 0 19 5 = c 0 19 5 := by rw [zu_k _ _ _ (by decide), zu_k _ _ _ (by decide)]
    have d193 : m1 0 19 3 = P := by rw [d19, if_neg (by decide), w1]
    have d194 : m1 0 19 4 = r 4 45 2 := by rw [d19, if_neg (by decide), w2]
    have d195 : m1 0 19 5 = s + 1 := by rw [d19, if_pos rfl]
    rw [t5, t6, ← em1, d193, d194, d195]
  -- the reference
  have t1 : z_upd r 4 45 (191 + 16 * (s % P) + s / P) a 4 45 1 = P := by rw [zu_row, fu_i _ _ (by omega), hP]
  obtain ⟨m2, em2⟩ : ∃ x, x = z_upd (z_upd (z_upd r 4 45 (191 + 16 * (s % P) + s / P) a) 4 45 (239 + 16 * (s % P) + s / P) b) 4 45 3 (s + 1) := ⟨_, rfl⟩
  have g3 : z_upd (z_upd r 4 45 (191 + 16 * (s % P) + s / P) a) 4 45 (239 + 16 * (s % P) + s / P) b 4 45 3 = s := by rw [zu_row, fu_i _ _ (by omega), zu_row, fu_i _ _ (by omega), hs]
  have gw : ∀ i, m2 4 45 i = if i = 3 then s + 1 else if i = 239 + 16 * (s % P) + s / P then b else if i = 191 + 16 * (s % P) + s / P then a else r 4 45 i := fun i => by
    rw [em2, zu_row, zu_row, zu_row]
    rfl
  have v3 : m2 4 45 3 = s + 1 := by rw [gw, if_pos rfl]
  have v1 : m2 4 45 1 = P := by rw [gw, if_neg (by omega), if_neg (by omega), if_neg (by omega), hP]
  have v2 : m2 4 45 2 = r 4 45 2 := by rw [gw, if_neg (by omega), if_neg (by omega), if_neg (by omega)]
  have lo : ∀ i, 0 ≤ i → ¬ (1 ≤ i ∧ i ≤ 3) → ¬ (95 ≤ i ∧ i ≤ 286) → m2 4 45 i = r 4 45 i := fun i i0 i1 i2 => by rw [gw, if_neg (by omega), if_neg (by omega), if_neg (by omega)]
  have ow : OM B (z_upd (z_upd r 4 45 (191 + 16 * (s % P) + s / P) a) 4 45 (239 + 16 * (s % P) + s / P) b) := u45_95 (g := 4) (u45_95 (g := 4) hr (by omega) (by omega)) (by omega) (by omega)
  have hput : ∀ c' : Nat → Int → Int, c' 20 = m1 0 20 → c' 21 = m1 0 21 → ∀ w' : Int → Int, (∀ i, 191 ≤ i → i ≤ 286 → w' i = m2 4 45 i) → ∀ k, 0 ≤ k → k < s + 1 → c' 20 k = w' (191 + 16 * (k % P) + k / P) ∧ c' 21 k = w' (239 + 16 * (k % P) + k / P) := fun c' h20 h21 w' hw' =>
    wn_put (c := c 0) (c' := c') (w := r 4 45) (w' := w') (a := a) (b := b) ⟨p0, p1⟩ ⟨s0, by omega⟩ x3 hq (fun i => by rw [h20, d20]) (fun i => by rw [h21, d21]) (fun i i0 i1 => by
      rw [hw' i i0 i1, gw, if_neg (by omega)]
      by_cases e1 : i = 191 + 16 * (s % P) + s / P
      · rw [if_neg (show ¬ i = 239 + 16 * (s % P) + s / P by omega), if_pos e1, if_pos e1]
      · rw [if_neg e1, if_neg e1])
  rw [e20]
  simp only [zn_a, zs_a]
  rw [← hP, ← hs, t1, g3, ← em2, v3, v1, v2]
  by_cases d : P * r 4 45 2 ≤ s + 1
  case neg =>
    rw [if_neg d, if_pos (show s + 1 < P * r 4 45 2 by omega)]
    rw [zb_a]
    rw [if_pos rfl]
    have s47 : s + 1 ≤ 47 := by rcases hp3 with e | e | e <;> rw [e] at d <;> omega
    have go : OM B m2 := by
      rw [em2]
      exact u45_3 (g := 4) ow (by omega)
    refine ⟨(h.wave (CB.of hc.2 0) (fun n n2 _ _ => FE_w (fun k e1 e2 e3 _ => dk k e1 e2 e3) n2) (fun n n2 _ _ => FW_w lo n2) ?_ ?_ (hws.pt hwb (fun i => by rw [dk 22 (by decide) (by decide) (by decide)]) ?_ (fun i hi => by rw [gw, if_neg (by omega), if_neg (by omega), if_neg (by omega)])) (WB.of go)).up (by omega) (Int.le_refl _), ⟨?_, fun k k0 k1 => ?_⟩, ?_⟩
    · rw [d19, if_neg (by decide), v1, w1]
    · rw [d19, if_neg (by decide), v2, w2]
    · rw [d19, if_neg (by decide)]
    · show m2 4 45 3 < m2 4 45 1 * m2 4 45 2
      rw [v3, v1, v2]
      omega
    · have k1 : k < m2 4 45 3 := k1
      rw [v3] at k1
      show m1 0 20 k = m2 4 45 (191 + 16 * (k % m2 4 45 1) + k / m2 4 45 1) ∧ m1 0 21 k = m2 4 45 (239 + 16 * (k % m2 4 45 1) + k / m2 4 45 1)
      rw [v1]
      exact hput (m1 0) rfl rfl (m2 4 45) (fun _ _ _ => rfl) k k0 k1
    · have e8 : m1 0 8 = c 0 8 := dk 8 (by decide) (by decide) (by decide)
      have kc : KC (c 0) (m1 0) := ⟨by rw [e8], by rw [e8], by rw [e8]; exact Int.le_refl _, fun hx => hx.rows (fun k k0 k1 _ _ _ => dk k (by omega) (by omega) (by omega))⟩
      exact kc
  rw [e20, if_pos d] at k1 k2
  try dsimp only at k1 k2
  rw [if_pos d, if_neg (show ¬ s + 1 < P * r 4 45 2 by omega)]
  rw [zb_a]
  rw [if_neg (show ¬ (1 : Int) = 0 by decide)]
  obtain ⟨mm, emm⟩ : ∃ x, x = z_upd m1 0 19 5 0 := ⟨_, rfl⟩
  rw [← emm] at k1 k2 ⊢
  have y19 : ∀ i, mm 0 19 i = if i = 5 then 0 else c 0 19 i := fun i => by
    rw [emm, zu_row]
    by_cases e : i = 5
    · rw [e, fu_s, if_pos rfl]
    · rw [fu_i _ _ e, d19, if_neg e, if_neg e]
  have yk : ∀ k, k ≠ 19 → mm 0 k = m1 0 k := fun k hk => by rw [emm, zu_k _ _ _ hk]
  have y3 : mm 0 19 3 = P := by rw [y19, if_neg (by decide), w1]
  have y4 : mm 0 19 4 = r 4 45 2 := by rw [y19, if_neg (by decide), w2]
  have yc : cB5 (mm 0) := fun i i0 i1 => by
    have b1 := r20_0 (i := i) hc.2.o 0 (by omega)
    have b2 := r21_0 (i := i) hc.2.o 0 (by omega)
    rw [yk 20 (by decide), yk 21 (by decide), d20, d21]
    unfold fu
    constructor <;> split <;> omega
  obtain ⟨z1, z2, z3, z4⟩ := sumup_c (m := mm) (g := 0) yc (by rw [y3]; omega) (by rw [y4]; omega)
  obtain ⟨c2, ec2⟩ : ∃ x, x = f21_1 0 mm := ⟨_, rfl⟩
  rw [← ec2] at k1 k2 z1 z2 z3 z4 ⊢
  have o2 : OM B c2 := ⟨k1, k2.jb⟩
  obtain ⟨m3, em3⟩ : ∃ x, x = z_upd m2 4 45 3 0 := ⟨_, rfl⟩
  have o3 : OM B m3 := by
    rw [em3, em2, z_upd_upd]
    exact u45_3 (g := 4) ow (by omega)
  rw [← em3]
  have u : ∀ i, i ≠ 3 → m3 4 45 i = m2 4 45 i := fun i hi => by rw [em3, zu_row, fu_i _ _ hi]
  obtain ⟨m4, e4, o4, a1, a2⟩ := cpv205 (B := B) (k := fun m534 => ((0 : Int), f208_1 m534)) (zfu 97) 0 m3 (by omega) (by omega) (by rw [zfu_eq]; omega) o3
  rw [e4]
  have b1 : m4 4 45 1 = P := by rw [a2 1 (by omega), u 1 (by decide), v1]
  have b2 : m4 4 45 2 = r 4 45 2 := by rw [a2 2 (by omega), u 2 (by decide), v2]
  have b3 : m4 4 45 3 = 0 := by rw [a2 3 (by omega), em3, zu_row, fu_s]
  have wsn : WS (c2 0) (m4 4 45) := by
    have g1 : m3 4 45 1 = P := by rw [u 1 (by decide), v1]
    have g2 : m3 4 45 2 = r 4 45 2 := by rw [u 2 (by decide), v2]
    refine ws_new (c := mm 0) (w := m3 4 45) (by rw [g1]; omega) (by rw [g2]; omega) (fun k k0 k1 => ?_) (by rw [b1, g1]) (by rw [b2, g2]) (fun i i0 i1 => a1 i i0 i1) ?_ z2
    · rw [g1, g2] at k1
      rw [g1]
      exact hput (mm 0) (yk 20 (by decide)) (yk 21 (by decide)) (m3 4 45) (fun i i0 i1 => u i (by omega)) k k0 (by omega)
    · rw [g1, g2]
      rw [y3, y4] at z1
      exact z1
  have hMG : MG A Z (c2 0) (m4 4 45) := by
    refine h.wave (CB.of hc.2 0) (fun n n2 _ _ => FE_w (fun k e1 e2 e3 e4 => ?_) n2) (fun n n2 _ _ => FW_w (fun i i0 i1 i2 => ?_) n2) ?_ ?_ wsn (WB.of o4)
    · rw [z3 0 k (.inr ⟨e4, e1⟩), yk k e1, dk k e1 e2 e3]
    · rw [a2 i (by omega), u i (by omega), lo i i0 i1 i2]
    · rw [z4 3 (by decide), y3, b1]
    · rw [z4 4 (by decide), y4, b2]
  obtain ⟨c5, e5, j1, jk, -, -⟩ := times_G (g := 0) (by omega) hMG o2 o4 hB hA hZ (a := 1) (by omega)
  have j1' : MG (A + 1) Z (c5 0) (f208_1 m4 4 45) := j1
  rw [e5]
  obtain ⟨-, kp, -⟩ := sec_keep (r := m4) o4 (by omega)
  refine ⟨j1', ⟨?_, fun k k0 k1 => ?_⟩, ?_⟩
  · show f208_1 m4 4 45 3 < f208_1 m4 4 45 1 * f208_1 m4 4 45 2
    rw [kp 3 (by omega), kp 1 (by omega), kp 2 (by omega), b1, b2, b3]
    rcases hp3 with e | e | e <;> rw [e] <;> omega
  · have k1 : k < f208_1 m4 4 45 3 := k1
    rw [kp 3 (by omega), b3] at k1
    omega
  · have e8 : c2 0 8 = c 0 8 := by rw [z3 0 8 (.inr (by decide)), yk 8 (by decide), dk 8 (by decide) (by decide) (by decide)]
    exact KC.trans ⟨by rw [e8], by rw [e8], by rw [e8]; exact Int.le_refl _, fun hx => hx.rows (fun k k0 k1 _ _ _ => by rw [z3 0 k (.inr (by omega)), yk k (by omega), dk k (by omega) (by omega) (by omega)])⟩ jk
