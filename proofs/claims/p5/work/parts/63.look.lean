/-! SPECIAL days told, seconds that a TARIFF holds, NEXT. -/
theorem sps_loop {m : zM} : ∀ (n j : Nat), j ≤ 365 → 365 - j < n → fl249_4_1 (fun y => y) m n (spN (m 4 45) j) j = spN (m 4 45) 365 := by
  intro n
  induction n with
  | zero =>
    intro j h0 h1
    omega
  | succ n ih =>
    intro j h0 h1
    show fl249_4_1_b (fl249_4_1 (fun y => y) m n) (fun y => y) m (spN (m 4 45) j) j = _
    unfold fl249_4_1_b
    by_cases c : (365 : Int) ≤ j
    · rw [if_pos c, show j = 365 by omega]
    · rw [if_neg c]
      simp only [zn]
      have e := ih (j + 1) (by omega) (by omega)
      rw [show spN (m 4 45) (j + 1) = spN (m 4 45) j + if m 4 45 (423 + (j : Int)) = -1 then 0 else 1 from rfl] at e
      exact e
theorem sps_eq (m : zM) : f249_1 m = spN (m 4 45) 365 := sps_loop (zfu 366) 0 (by omega) (by rw [zfu_eq]; decide)
theorem spput_eq {m n' : zM} {g : Nat} (h : CR (m g) (n' 4 45)) (hb : CB (m g)) {d t : Int} (h0 : 0 ≤ d) (h1 : d < 365) (t0 : 0 ≤ t) :
    (n' 4 45 (423 + d) = -1 → m g 11 7 = 16 → f109_1 g d t m = (0, m)) ∧
    (¬ (n' 4 45 (423 + d) = -1 ∧ m g 11 7 = 16) → (f109_1 g d t m).1 = 1 ∧ CR ((f109_1 g d t m).2 g) (fu (n' 4 45) (423 + d) t)) := by
  have hb2 := hb.2.1
  unfold f109_1
  simp only [zn, zs]
  rcases h.sp hb h0 h1 with ⟨e1, e2, e3⟩ | ⟨e1, e2, e3, e4, e5⟩
  · rw [if_pos e1]
    by_cases c : m g 11 7 < 16
    · rw [if_pos c]
      refine ⟨fun _ e => by omega, fun _ => ⟨rfl, ?_, ?_, ?_⟩⟩
      · dsimp only
        rw [zu_k _ _ _ (by decide), zu_k _ _ _ (by decide), zu_k _ _ _ (by decide), zu_k _ _ _ (by decide), zu_k _ _ _ (by decide), zu_k _ _ _ (by decide), zu_k _ _ _ (by decide), zu_k _ _ _ (by decide), zu_k _ _ _ (by decide)]
        exact h.1.w hb.n6 (fun i i0 i1 => fu_i _ _ (by omega))
      · dsimp only
        rw [zu_k _ _ _ (by decide), zu_k _ _ _ (by decide), zu_k _ _ _ (by decide), zu_k _ _ _ (by decide), zu_k _ _ _ (by decide), zu_k _ _ _ (by decide)]
        exact h.2.1.w (fun i i0 i1 => fu_i _ _ (by omega))
      · dsimp only
        rw [zu_row, zu_k _ _ _ (show (18 : Nat) ≠ 17 by decide), zu_k _ _ _ (show (18 : Nat) ≠ 11 by decide), zu_k _ _ _ (show (17 : Nat) ≠ 18 by decide), zu_row, zu_k _ _ _ (show (17 : Nat) ≠ 11 by decide), zu_k _ _ _ (show (11 : Nat) ≠ 18 by decide), zu_k _ _ _ (show (11 : Nat) ≠ 17 by decide), z_upd_same]
        exact h.2.2.new hb.d hb2.1 h0 h1 e3 e2 (by omega)
    · rw [if_neg c]
      exact ⟨fun _ _ => rfl, fun e => absurd ⟨e2, by omega⟩ e⟩
  · rw [if_neg (by omega)]
    refine ⟨fun e => absurd e e5, fun _ => ⟨rfl, ?_, ?_, ?_⟩⟩
    · dsimp only
      rw [zu_k _ _ _ (by decide), zu_k _ _ _ (by decide), zu_k _ _ _ (by decide), zu_k _ _ _ (by decide), zu_k _ _ _ (by decide), zu_k _ _ _ (by decide)]
      exact h.1.w hb.n6 (fun i i0 i1 => fu_i _ _ (by omega))
    · dsimp only
      rw [zu_k _ _ _ (by decide), zu_k _ _ _ (by decide), zu_k _ _ _ (by decide), zu_k _ _ _ (by decide)]
      exact h.2.1.w (fun i i0 i1 => fu_i _ _ (by omega))
    · dsimp only
      rw [zu_row, zu_k _ _ _ (show (18 : Nat) ≠ 17 by decide), zu_k _ _ _ (show (17 : Nat) ≠ 18 by decide), zu_row, zu_k _ _ _ (show (11 : Nat) ≠ 18 by decide), zu_k _ _ _ (show (11 : Nat) ≠ 17 by decide)]
      have e6 := h.2.2.again e1 e2 (x := t) (by omega) (by omega) (by rw [e3]; exact e5) (by omega)
      rw [e3] at e6
      exact e6
theorem spdrop_eq {m n' : zM} {g : Nat} (h : CR (m g) (n' 4 45)) (hb : CB (m g)) {d : Int} (h0 : 0 ≤ d) (h1 : d < 365) :
    (n' 4 45 (423 + d) = -1 → f126_1 g d m = (0, m)) ∧ (¬ n' 4 45 (423 + d) = -1 → (f126_1 g d m).1 = 1 ∧ CR ((f126_1 g d m).2 g) (fu (n' 4 45) (423 + d) (-1))) := by
  have hb2 := hb.2.1
  unfold f126_1
  simp only [zn, zs]
  rcases h.sp hb h0 h1 with ⟨e1, e2, e3⟩ | ⟨e1, e2, e3, e4, e5⟩
  · rw [if_pos e1]
    exact ⟨fun _ => rfl, fun e => absurd e2 e⟩
  · rw [if_neg (by omega)]
    refine ⟨fun e => absurd e e5, fun _ => ⟨rfl, ?_, ?_, ?_⟩⟩
    · dsimp only
      rw [zu_k _ _ _ (by decide), zu_k _ _ _ (by decide), zu_k _ _ _ (by decide), zu_k _ _ _ (by decide), zu_k _ _ _ (by decide), zu_k _ _ _ (by decide), zu_k _ _ _ (by decide), zu_k _ _ _ (by decide), zu_k _ _ _ (by decide)]
      exact h.1.w hb.n6 (fun i i0 i1 => fu_i _ _ (by omega))
    · dsimp only
      rw [zu_k _ _ _ (by decide), zu_k _ _ _ (by decide), zu_k _ _ _ (by decide), zu_k _ _ _ (by decide), zu_k _ _ _ (by decide), zu_k _ _ _ (by decide)]
      exact h.2.1.w (fun i i0 i1 => fu_i _ _ (by omega))
    · have e6 := h.2.2.drop hb.d e1 e2 (by rw [e3]; exact e5)
      rw [e3] at e6
      simp only [zu_row, zu_k _ _ _ (show (18 : Nat) ≠ 17 by decide), zu_k _ _ _ (show (18 : Nat) ≠ 11 by decide), zu_k _ _ _ (show (17 : Nat) ≠ 18 by decide), zu_k _ _ _ (show (17 : Nat) ≠ 11 by decide), zu_k _ _ _ (show (11 : Nat) ≠ 18 by decide), zu_k _ _ _ (show (11 : Nat) ≠ 17 by decide), fu_s]
      exact e6
/-! seconds that a TARIFF holds -/
theorem held_loop {m n' : zM} {g : Nat} {t a : Int} (h : CR (m g) (n' 4 45)) (hb : CB (m g)) (t0 : 0 ≤ t) (t1 : t < 8) : ∀ (n n2 : Nat) (k sum since hold : Int), 0 ≤ k → k ≤ m g 12 t → m g 12 t - k < n → m g 12 t - k + 1 < n2 → 0 ≤ sum → sum ≤ since → since ≤ 86399 → (k < m g 12 t → since ≤ m g 13 (t * 6 + k)) →
    fl194_17_1 (fun y1 y2 y3 => zn (if y3 = a then zn (w32 (y1 + 86400)) fun z => zn (w32 (z - y2)) fun z => z else y1) fun v => v) g t a (t * 6) m n sum since hold (t * 6 + k) = fl253_52_1 (fun y => y) a t (n' 4 45 (287 + t)) n' n2 sum hold since k := by
  have ec := h.1.1 t t0 t1
  have hc := hb.1 t t0 t1
  rw [← ec]
  intro n
  induction n with
  | zero =>
    intro n2 k sum since hold k0 k1 k2
    omega
  | succ n ih =>
    intro n2 k sum since hold k0 k1 k2 k3 s0 s1 s2 s3
    obtain ⟨n2, rfl⟩ : ∃ j, n2 = j + 1 := ⟨n2 - 1, by omega⟩
    show fl194_17_1_b (fl194_17_1 _ g t a (t * 6) m n) _ g t a (t * 6) m sum since hold (t * 6 + k) = fl253_52_1_b (fl253_52_1 (fun y => y) a t (m g 12 t) n' n2) (fun y => y) a t (m g 12 t) n' sum hold since k
    unfold fl194_17_1_b fl253_52_1_b
    rw [if_neg (show ¬ m g 12 t < k by omega)]
    simp only [zn]
    by_cases c : k < m g 12 t
    · obtain ⟨e1, e2⟩ := h.1.2.1 t k t0 t1 k0 c
      have e3 := hb.2.2.2.2.1 (t * 6 + k) (by omega) (by omega)
      have e4 := s3 c
      rw [if_neg (show ¬ t * 6 + m g 12 t ≤ t * 6 + k by omega), if_neg (show ¬ m g 12 t ≤ k by omega), if_neg (show ¬ m g 12 t ≤ k by omega), ← e1, ← e2]
      have e5 : (if hold = a then w32 (sum + (m g 13 (t * 6 + k) - since)) else sum) = w32 (sum + if hold = a then m g 13 (t * 6 + k) - since else 0) := by
        by_cases c2 : hold = a
        · rw [if_pos c2, if_pos c2]
        · rw [if_neg c2, if_neg c2, w32_id (by omega)]
          omega
      have e6 : w32 (sum + if hold = a then m g 13 (t * 6 + k) - since else 0) = sum + if hold = a then m g 13 (t * 6 + k) - since else 0 := by
        apply w32_id
        split <;> omega
      rw [e5, e6, show t * 6 + k + 1 = t * 6 + (k + 1) by omega]
      refine ih n2 (k + 1) _ _ _ (by omega) (by omega) (by omega) (by omega) ?_ ?_ e3.2 (fun c3 => ?_)
      · split <;> omega
      · split <;> omega
      · have := h.1.2.2 t k t0 t1 k0 c3
        rw [show t * 6 + (k + 1) = t * 6 + k + 1 by omega]
        omega
    · obtain ⟨n2, rfl⟩ : ∃ j, n2 = j + 1 := ⟨n2 - 1, by omega⟩
      rw [if_pos (show t * 6 + m g 12 t ≤ t * 6 + k by omega), if_pos (show m g 12 t ≤ k by omega), if_pos (show m g 12 t ≤ k by omega)]
      show _ = fl253_52_1_b (fl253_52_1 (fun y => y) a t (m g 12 t) n' n2) (fun y => y) a t (m g 12 t) n' _ _ _ (k + 1)
      unfold fl253_52_1_b
      rw [if_pos (show m g 12 t < k + 1 by omega)]
      by_cases c2 : hold = a
      · rw [if_pos c2, if_pos c2, w32_id (x := sum + 86400) (by omega)]
        congr 1
        omega
      · rw [if_neg c2, if_neg c2, w32_id (by omega)]
        show sum = sum + 0
        omega
theorem held_eq {m n' : zM} {g : Nat} {t a : Int} (h : CR (m g) (n' 4 45)) (hb : CB (m g)) (t0 : 0 ≤ t) (t1 : t < 8) : f194_1 g t a m = fl253_52_1 (fun y => y) a t (n' 4 45 (287 + t)) n' (zfu 8) 0 0 0 0 := by
  have hc := hb.1 t t0 t1
  have e := held_loop h hb t0 t1 (a := a) (zfu 49) (zfu 8) 0 0 0 0 (by omega) (by omega) (by rw [zfu_eq]; omega) (by rw [zfu_eq]; omega) (by omega) (by omega) (by omega) (fun c => (hb.2.2.2.2.1 (t * 6 + 0) (by omega) (by omega)).1)
  rw [← e, Int.add_zero]
  rfl
/-! NEXT -/
/-- switchesBefore is the one number that it can be -/
theorem sb_uni {m n' : zM} {g : Nat} {t s v : Int} (h : CR (m g) (n' 4 45)) (hb : CB (m g)) (t0 : 0 ≤ t) (t1 : t < 8) (v0 : 0 ≤ v) (v1 : v ≤ m g 12 t) (v2 : ∀ k, 0 ≤ k → k < v → m g 13 (t * 6 + k) < s) (v3 : v < m g 12 t → s ≤ m g 13 (t * 6 + v)) : f32_1 g t s m = v := by
  obtain ⟨u, e1, e2, e3, e4, e5⟩ := sb_spec m g t s (hb.1 t t0 t1)
  rw [e1]
  rcases Int.lt_trichotomy u v with c | c | c
  · have g1 := v2 u e2 c
    have g2 := e5 (by omega)
    omega
  · exact c
  · have g1 := e4 v v0 c
    have g2 := v3 (by omega)
    omega
/-- the TARIFF doesn't change until heldUntil -/
theorem held_const {m n' : zM} {g : Nat} (h : CR (m g) (n' 4 45)) (hb : CB (m g)) {x s : Int} (x0 : 0 ≤ x) (hs : x ≤ s) (hs2 : s < f37_1 g x m) : f27_1 g s m = f27_1 g x m := by
  unfold f37_1 at hs2
  simp only [zn] at hs2
  obtain ⟨e1, e2, e3⟩ := tb_eq h hb (d := x / 86400) (by omega)
  rw [← e1] at e2 e3
  obtain ⟨v, q1, q2, q3, q4, q5⟩ := sb_spec m g (f28_1 g (x / 86400) m) (x % 86400 + 1) (hb.1 _ e2 e3)
  rw [q1] at hs2
  have hd : s / 86400 = x / 86400 := by
    by_cases c : m g 12 (f28_1 g (x / 86400) m) ≤ v
    · rw [if_pos c] at hs2
      omega
    · rw [if_neg c] at hs2
      have := hb.1 _ e2 e3
      have := hb.2.2.2.2.1 (f28_1 g (x / 86400) m * 6 + v) (by omega) (by omega)
      omega
  have e4 : f32_1 g (f28_1 g (x / 86400) m) (s % 86400 + 1) m = v := by
    refine sb_uni h hb e2 e3 q2 q3 (fun k k0 k1 => ?_) (fun c => ?_)
    · have := q4 k k0 k1
      omega
    · rw [if_neg (by omega)] at hs2
      omega
  unfold f27_1 f31_1
  simp only [zn]
  rw [hd, e4, q1]
/-- the same on both sides: no change of the TARIFF behind a, ahead of b -/
def NC (n' : zM) (a b : Int) : Prop := ∀ s, a < s → s < b → f217_1 s n' = f217_1 (s - 1) n'
/-- what NEXT answers -/
def NX (n' : zM) (x last r : Int) : Prop := (r = -1 ∧ NC n' x (last + 1)) ∨ (x < r ∧ r ≤ last ∧ f217_1 r n' ≠ f217_1 (r - 1) n' ∧ NC n' x r)
theorem NX.uni {n' : zM} {x last r r' : Int} (hx : 0 ≤ x) (h : NX n' x last r) (h' : NX n' x last r') : r = r' := by
  rcases h with ⟨e1, e2⟩ | ⟨e1, e2, e3, e4⟩
  · rcases h' with ⟨d1, d2⟩ | ⟨d1, d2, d3, d4⟩
    · omega
    · exact absurd (e2 r' d1 (by omega)) d3
  · rcases h' with ⟨d1, d2⟩ | ⟨d1, d2, d3, d4⟩
    · exact absurd (d2 r e1 (by omega)) e3
    · rcases Int.lt_trichotomy r r' with c | c | c
      · exact absurd (d4 r e1 c) e3
      · exact c
      · exact absurd (e4 r' d1 c) d3
/-- which piece of the days a TIME lies in -/
noncomputable def pc (m : zM) (g : Nat) (x0 y : Int) : Int := 7 * (y / 86400 - x0 / 86400) + f32_1 g (f28_1 g (y / 86400) m) (y % 86400 + 1) m
theorem held_next {m n' : zM} {g : Nat} (h : CR (m g) (n' 4 45)) (hb : CB (m g)) {x : Int} (h0 : 0 ≤ x) (x0 : Int) : x < f37_1 g x m ∧ pc m g x0 x + 1 ≤ pc m g x0 (f37_1 g x m) ∧ f37_1 g x m ≤ x + 86400 := by
  obtain ⟨e1, e2, e3⟩ := tb_eq h hb (d := x / 86400) (by omega)
  rw [← e1] at e2 e3
  have hc := hb.1 _ e2 e3
  obtain ⟨v, q1, q2, q3, q4, q5⟩ := sb_spec m g (f28_1 g (x / 86400) m) (x % 86400 + 1) hc
  have hy : f37_1 g x m = x / 86400 * 86400 + if m g 12 (f28_1 g (x / 86400) m) ≤ v then 86400 else m g 13 (f28_1 g (x / 86400) m * 6 + v) := by
    unfold f37_1
    simp only [zn]
    rw [q1]
  rw [hy]
  unfold pc
  rw [q1]
  by_cases c : m g 12 (f28_1 g (x / 86400) m) ≤ v
  · rw [if_pos c]
    have e4 : (x / 86400 * 86400 + 86400) / 86400 = x / 86400 + 1 := by omega
    rw [e4]
    obtain ⟨e5, e6, e7⟩ := tb_eq h hb (d := x / 86400 + 1) (by omega)
    rw [← e5] at e6 e7
    obtain ⟨u, u1, u2, _⟩ := sb_spec m g (f28_1 g (x / 86400 + 1) m) ((x / 86400 * 86400 + 86400) % 86400 + 1) (hb.1 _ e6 e7)
    rw [u1]
    omega
  · rw [if_neg c]
    have e8 := hb.2.2.2.2.1 (f28_1 g (x / 86400) m * 6 + v) (by omega) (by omega)
    have e9 := q5 (by omega)
    have e4 : (x / 86400 * 86400 + m g 13 (f28_1 g (x / 86400) m * 6 + v)) / 86400 = x / 86400 := by omega
    have e10 : (x / 86400 * 86400 + m g 13 (f28_1 g (x / 86400) m * 6 + v)) % 86400 = m g 13 (f28_1 g (x / 86400) m * 6 + v) := by omega
    rw [e4, e10]
    obtain ⟨u, u1, u2, u3, u4, u5⟩ := sb_spec m g (f28_1 g (x / 86400) m) (m g 13 (f28_1 g (x / 86400) m * 6 + v) + 1) hc
    rw [u1]
    have e11 : v < u := by
      by_cases c2 : v < u
      · exact c2
      · exfalso
        have e12 := u5 (by omega)
        have e13 := CR.mono h (t := f28_1 g (x / 86400) m) e2 e3
        have e14 : ∀ (n : Nat) (j k : Int), 0 ≤ j → k = j + n → k < m g 12 (f28_1 g (x / 86400) m) → m g 13 (f28_1 g (x / 86400) m * 6 + j) ≤ m g 13 (f28_1 g (x / 86400) m * 6 + k) := e13
        have := e14 (v - u).toNat u v u2 (by omega) (by omega)
        omega
    omega
theorem pc_le {m n' : zM} {g : Nat} (h : CR (m g) (n' 4 45)) (hb : CB (m g)) {x0 y : Int} (h0 : 0 ≤ y) : pc m g x0 y ≤ 7 * (y / 86400 - x0 / 86400) + 6 := by
  obtain ⟨e1, e2, e3⟩ := tb_eq h hb (d := y / 86400) (by omega)
  rw [← e1] at e2 e3
  have hc := hb.1 _ e2 e3
  obtain ⟨v, q1, q2, q3, _⟩ := sb_spec m g (f28_1 g (y / 86400) m) (y % 86400 + 1) hc
  unfold pc
  rw [q1]
  omega
theorem next_cls {m n' : zM} {g : Nat} (h : CR (m g) (n' 4 45)) (hb : CB (m g)) {x last : Int} (x0 : 0 ≤ x) (hl : last < (x / 86400 + 15) * 86400) (hl2 : x ≤ last) : ∀ (n : Nat) (y k : Int), 0 ≤ k → k ≤ 105 → 105 - k < n → x < y → (∀ s, x ≤ s → s < y → f27_1 g s m = f27_1 g x m) → k ≤ pc m g x y →
    NX n' x last (fl153_36_1 (fun y _ => y) (-1) g last (f27_1 g x m) m n y k) := by
  have key : ∀ y, (∀ s, x ≤ s → s < y → f27_1 g s m = f27_1 g x m) → NC n' x y := fun y hy s s0 s1 => by
    rw [← tf_eq h hb (by omega), ← tf_eq h hb (by omega), hy s (by omega) s1, hy (s - 1) (by omega) (by omega)]
  intro n
  induction n with
  | zero =>
    intro y k k0 k1 k2
    omega
  | succ n ih =>
    intro y k k0 k1 k2 hxy hy hk
    show NX n' x last (fl153_36_1_b (fl153_36_1 (fun y _ => y) (-1) g last (f27_1 g x m) m n) (fun y _ => y) (-1) g last (f27_1 g x m) m y k)
    unfold fl153_36_1_b
    by_cases c : last < y
    · have e : NX n' x last (-1) := .inl ⟨rfl, fun s s0 s1 => key y hy s s0 (by omega)⟩
      by_cases c1 : 105 ≤ k
      · rw [if_pos c1]
        exact e
      · rw [if_neg c1, if_pos c]
        exact e
    · have hp := pc_le h hb (x0 := x) (y := y) (by omega)
      rw [if_neg (by omega), if_neg c]
      simp only [zn]
      by_cases c2 : f27_1 g y m = f27_1 g x m
      · rw [if_pos c2]
        obtain ⟨g1, g2, g3⟩ := held_next h hb (x := y) (by omega) x
        refine ih _ (k + 1) (by omega) (by omega) (by omega) (by omega) (fun s s0 s1 => ?_) (by omega)
        by_cases c3 : s < y
        · exact hy s s0 c3
        · rw [held_const h hb (x := y) (by omega) (by omega) s1]
          exact c2
      · rw [if_neg c2]
        refine .inr ⟨hxy, by omega, ?_, key y hy⟩
        rw [← tf_eq h hb (by omega), ← tf_eq h hb (by omega), hy (y - 1) (by omega) (by omega)]
        exact c2
/-- where the k-th candidate of a day stands -/
def cd (m : zM) (g : Nat) (t d k : Int) : Int := d * 86400 + if k < 0 then 0 else if k < m g 12 t then m g 13 (t * 6 + k) else 86400
/-- between two candidates nothing changes -/
theorem cd_const {m n' : zM} {g : Nat} (h : CR (m g) (n' 4 45)) (hb : CB (m g)) {d k s : Int} (d0 : 0 ≤ d) (k0 : -1 ≤ k) (k1 : k < m g 12 (f28_1 g d m)) (s0 : cd m g (f28_1 g d m) d k ≤ s) (s1 : s < cd m g (f28_1 g d m) d (k + 1)) : f27_1 g s m = if k < 0 then 0 else m g 14 (f28_1 g d m * 6 + k) := by
  obtain ⟨e1, e2, e3⟩ := tb_eq h hb (d := d) d0
  rw [← e1] at e2 e3
  have hc := hb.1 _ e2 e3
  have hs : ∀ i, 0 ≤ i → i < m g 12 (f28_1 g d m) → 0 ≤ m g 13 (f28_1 g d m * 6 + i) ∧ m g 13 (f28_1 g d m * 6 + i) ≤ 86399 := fun i i0 i1 => hb.2.2.2.2.1 _ (by omega) (by omega)
  unfold cd at s0 s1
  rw [if_neg (show ¬ k + 1 < 0 by omega)] at s1
  have h2 : d * 86400 ≤ s ∧ s < d * 86400 + 86400 := by
    refine ⟨?_, ?_⟩
    · by_cases c : k < 0
      · rw [if_pos c] at s0
        omega
      · rw [if_neg c, if_pos k1] at s0
        have := hs k (by omega) k1
        omega
    · by_cases c : k + 1 < m g 12 (f28_1 g d m)
      · rw [if_pos c] at s1
        have := hs (k + 1) (by omega) c
        omega
      · rw [if_neg c] at s1
        omega
  have hd : s / 86400 = d := by omega
  have e4 : f32_1 g (f28_1 g d m) (s % 86400 + 1) m = k + 1 := by
    refine sb_uni h hb e2 e3 (by omega) (by omega) (fun j j0 j1 => ?_) (fun c => ?_)
    · rw [if_neg (show ¬ k < 0 by omega), if_pos k1] at s0
      have := CR.mono h (t := f28_1 g d m) e2 e3 (k - j).toNat j k j0 (by omega) k1
      omega
    · rw [if_pos c] at s1
      omega
  unfold f27_1 f31_1
  simp only [zn]
  rw [hd, e4]
  by_cases c : k < 0
  · rw [if_pos c, if_pos (by omega)]
  · rw [if_neg c, if_neg (by omega), show f28_1 g d m * 6 + (k + 1) - 1 = f28_1 g d m * 6 + k by omega]
theorem next_in {m n' : zM} {g : Nat} (h : CR (m g) (n' 4 45)) (hb : CB (m g)) {x last d y1 r0 : Int} (x0 : 0 ≤ x) (hx : n' 4 45 0 = x) (d0 : 0 ≤ d) (hl : last = min ((x / 86400 + 15) * 86400 - 1) 2000000000) (hd : d ≤ x / 86400 + 14)
    (hr : NC n' x (min ((d + 1) * 86400) (last + 1)) → NX n' x last r0) : ∀ (n : Nat) (k : Int), -1 ≤ k → k ≤ m g 12 (f28_1 g d m) → m g 12 (f28_1 g d m) - k < n → NC n' x (min (cd m g (f28_1 g d m) d k) (last + 1)) →
    NX n' x last (fl255_45_1 (fun _ t => t) r0 y1 d (f28_1 g d m) n' n k) := by
  obtain ⟨e1, e2, e3⟩ := tb_eq h hb (d := d) d0
  rw [← e1] at e2 e3
  have hc := hb.1 _ e2 e3
  have ec := h.1.1 _ e2 e3
  intro n
  induction n with
  | zero =>
    intro k k0 k1 k2
    omega
  | succ n ih =>
    intro k k0 k1 k2 hN
    show NX n' x last (fl255_45_1_b (fl255_45_1 (fun _ t => t) r0 y1 d (f28_1 g d m) n' n) (fun _ t => t) r0 y1 d (f28_1 g d m) n' k)
    unfold fl255_45_1_b
    rw [← ec]
    by_cases c : k < m g 12 (f28_1 g d m)
    · rw [if_pos c]
      simp only [zn]
      have et : d * 86400 + (if 0 ≤ k then n' 4 45 (295 + 6 * f28_1 g d m + k) else 0) = cd m g (f28_1 g d m) d k := by
        unfold cd
        by_cases c2 : 0 ≤ k
        · rw [if_pos c2, if_neg (by omega), if_pos c, (h.1.2.1 _ k e2 e3 c2 c).1]
        · rw [if_neg c2, if_pos (by omega)]
      rw [et, hx]
      have hnext : (x < cd m g (f28_1 g d m) d k → cd m g (f28_1 g d m) d k ≤ last → f217_1 (cd m g (f28_1 g d m) d k) n' = f217_1 (cd m g (f28_1 g d m) d k - 1) n') → NC n' x (min (cd m g (f28_1 g d m) d (k + 1)) (last + 1)) := by
        intro hq s s0 s1
        rcases Int.lt_trichotomy s (cd m g (f28_1 g d m) d k) with c3 | c3 | c3
        · exact hN s s0 (by omega)
        · rw [c3]
          exact hq (by omega) (by omega)
        · rw [← tf_eq h hb (by omega), ← tf_eq h hb (by omega), cd_const h hb d0 k0 c (by omega) (by omega), cd_const h hb d0 k0 c (by omega) (by omega)]
      have hle : cd m g (f28_1 g d m) d k < (d + 1) * 86400 := by
        unfold cd
        by_cases c2 : k < 0
        · rw [if_pos c2]
          omega
        · rw [if_neg c2, if_pos c]
          have := hb.2.2.2.2.1 (f28_1 g d m * 6 + k) (by omega) (by omega)
          omega
      by_cases c3 : cd m g (f28_1 g d m) d k ≤ x
      · rw [if_pos c3]
        exact ih (k + 1) (by omega) (by omega) (by omega) (hnext (fun _ _ => by omega))
      · rw [if_neg c3]
        by_cases c4 : cd m g (f28_1 g d m) d k ≤ 2000000000
        · rw [if_pos c4]
          by_cases c5 : f217_1 (cd m g (f28_1 g d m) d k) n' = f217_1 (cd m g (f28_1 g d m) d k - 1) n'
          · rw [if_pos c5]
            exact ih (k + 1) (by omega) (by omega) (by omega) (hnext (fun _ _ => c5))
          · rw [if_neg c5]
            exact .inr ⟨by omega, by omega, c5, fun s s0 s1 => hN s s0 (by omega)⟩
        · rw [if_neg c4]
          exact ih (k + 1) (by omega) (by omega) (by omega) (hnext (fun _ _ => by omega))
    · rw [if_neg c]
      apply hr
      intro s s0 s1
      refine hN s s0 ?_
      unfold cd
      rw [if_neg (by omega), if_neg c]
      omega
theorem next_out {m n' : zM} {g : Nat} (h : CR (m g) (n' 4 45)) (hb : CB (m g)) {x last : Int} (x0 : 0 ≤ x) (hx : n' 4 45 0 = x) (hl : last = min ((x / 86400 + 15) * 86400 - 1) 2000000000) : ∀ (n : Nat) (d : Int), 0 ≤ d → d ≤ x / 86400 + 15 → x / 86400 + 15 - d < n → NC n' x (min (d * 86400) (last + 1)) →
    NX n' x last (fl255_13_1 (fun _ => -1) (fun _ _ _ t => t) (-1) (x / 86400) n' n d) := by
  intro n
  induction n with
  | zero =>
    intro d d0 d1 d2
    omega
  | succ n ih =>
    intro d d0 d1 d2 hN
    show NX n' x last (fl255_13_1_b (fl255_13_1 (fun _ => -1) (fun _ _ _ t => t) (-1) (x / 86400) n' n) (fun _ => -1) (fun _ _ _ t => t) (-1) (x / 86400) n' d)
    unfold fl255_13_1_b
    by_cases c : x / 86400 + 14 < d
    · rw [if_pos c]
      exact .inl ⟨rfl, fun s s0 s1 => hN s s0 (by omega)⟩
    · rw [if_neg c]
      by_cases c2 : d * 86400 ≤ 2000000000
      · rw [if_pos c2]
        simp only [zn]
        obtain ⟨e1, e2, e3⟩ := tb_eq h hb (d := d) d0
        rw [← e1] at e2 e3 ⊢
        have hc := hb.1 _ e2 e3
        refine next_in h hb x0 hx d0 hl (by omega) (fun hN2 => ih (d + 1) (by omega) (by omega) (by omega) hN2) (zfu 8) (-1) (by omega) (by omega) (by rw [zfu_eq]; omega) ?_
        intro s s0 s1
        refine hN s s0 ?_
        unfold cd at s1
        rw [if_pos (by decide)] at s1
        omega
      · rw [if_neg c2]
        exact .inl ⟨rfl, fun s s0 s1 => hN s s0 (by omega)⟩
/-- NEXT's TIME -/
theorem next_eq {m n' : zM} {g : Nat} (h : CR (m g) (n' 4 45)) (hb : CB (m g)) {x : Int} (x0 : 0 ≤ x) (x1 : x ≤ 2000000000) (hx : n' 4 45 0 = x) : f153_1 g x m = f255_1 n' := by
  refine NX.uni x0 (last := min ((x / 86400 + 15) * 86400 - 1) 2000000000) (n' := n') (x := x) ?_ ?_
  · unfold f153_1
    simp only [zn]
    obtain ⟨g1, g2, g3⟩ := held_next h hb x0 x
    have e : min ((x / 86400 + 14 + 1) * 86400 - 1) 2000000000 = min ((x / 86400 + 15) * 86400 - 1) 2000000000 := by
      rw [show x / 86400 + 14 + 1 = x / 86400 + 15 by omega]
    rw [e]
    refine next_cls h hb x0 (by omega) (by omega) (zfu 106) _ 0 (by omega) (by omega) (by rw [zfu_eq]; omega) g1 (fun s s0 s1 => held_const h hb x0 s0 s1) ?_
    obtain ⟨e1, e2, e3⟩ := tb_eq h hb (d := x / 86400) (by omega)
    rw [← e1] at e2 e3
    obtain ⟨u, u1, u2, _⟩ := sb_spec m g (f28_1 g (x / 86400) m) (x % 86400 + 1) (hb.1 _ e2 e3)
    have : 0 ≤ pc m g x x := by
      unfold pc
      rw [u1]
      omega
    omega
  · unfold f255_1
    rw [hx]
    refine next_out h hb x0 hx rfl (zfu 23164) (x / 86400) (by omega) (by omega) (by rw [zfu_eq]; omega) (fun s s0 s1 => by omega)
