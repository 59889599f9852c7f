/-! BEST, on both sides. -/
/-- IMPORT of the class' line y from the latest on -/
def imC (c : zM) (y : Int) : Int := c 0 28 ((c 0 27 2 - 1 - y) % 64 * 6 + 1)
/-- IMPORT of a lines from y on -/
def suC (c : zM) (a y : Int) : Int := sumN (fun k => imC c (y + (k : Int))) a.toNat
theorem imC_b {c : zM} (h : LN (c 0)) (y : Int) : 0 ≤ imC c y ∧ imC c y ≤ 49300000000000 := h _ (by omega) (by omega)
theorem sumN_up {f : Nat → Int} {K : Int} : ∀ n : Nat, (∀ k, k < n → 0 ≤ f k ∧ f k ≤ K) → 0 ≤ sumN f n ∧ sumN f n ≤ K * n
  | 0, _ => by
    show 0 ≤ (0 : Int) ∧ (0 : Int) ≤ K * ((0 : Nat) : Int)
    rw [show ((0 : Nat) : Int) = 0 from rfl, Int.mul_zero]
    omega
  | n + 1, h => by
    obtain ⟨a, b⟩ := sumN_up n (fun k hk => h k (by omega))
    have d := h n (by omega)
    have e : K * ((n + 1 : Nat) : Int) = K * (n : Int) + K := by rw [show ((n + 1 : Nat) : Int) = (n : Int) + 1 by omega, Int.mul_add, Int.mul_one]
    show 0 ≤ sumN f n + f n ∧ sumN f n + f n ≤ _
    omega
theorem suC_b {c : zM} (h : LN (c 0)) {a : Int} (ha : 0 ≤ a ∧ a ≤ 64) (y : Int) : 0 ≤ suC c a y ∧ suC c a y ≤ 3200000000000000 := by
  have := sumN_up (f := fun k => imC c (y + (k : Int))) (K := 49300000000000) a.toNat (fun k _ => imC_b h _)
  unfold suC
  omega
/-- one line on -/
theorem suC_s {c : zM} {a y : Int} (ha : 1 ≤ a) : suC c a (y + 1) = suC c a y + (imC c (y + a) - imC c y) := by
  obtain ⟨n, hn⟩ : ∃ n : Nat, a = (n : Int) + 1 := ⟨(a - 1).toNat, by omega⟩
  have h1 : suC c a y = imC c y + sumN (fun k => imC c (y + 1 + (k : Int))) n := by
    unfold suC
    rw [show a.toNat = n + 1 by omega]
    refine (sumN_head n).trans ?_
    have a2 : sumN (fun k => imC c (y + ((k + 1 : Nat) : Int))) n = sumN (fun k => imC c (y + 1 + (k : Int))) n := sumN_congr n (fun k _ => by rw [show y + ((k + 1 : Nat) : Int) = y + 1 + (k : Int) by omega])
    show imC c (y + ((0 : Nat) : Int)) + sumN (fun k => imC c (y + ((k + 1 : Nat) : Int))) n = _
    rw [a2, show y + ((0 : Nat) : Int) = y by omega]
  have h2 : suC c a (y + 1) = sumN (fun k => imC c (y + 1 + (k : Int))) n + imC c (y + a) := by
    unfold suC
    rw [show a.toNat = n + 1 by omega]
    show sumN (fun k => imC c (y + 1 + (k : Int))) n + imC c (y + 1 + (n : Int)) = _
    rw [show y + 1 + (n : Int) = y + a by omega]
  omega
theorem f68_loop {c : zM} {a y0 : Int} (h : LN (c 0)) : ∀ (n : Nat) (s y : Int), 0 ≤ s → s ≤ 49300000000000 * (y - y0) → y0 ≤ y → y ≤ y0 + a → a ≤ 64 → y0 + a - y < n → fl68_5_1 (fun v => v) 0 y0 a c n s y = s + sumN (fun k => imC c (y + (k : Int))) (y0 + a - y).toNat
  | 0, s, y, h0, h1, h2, h3, h4, h5 => by omega
  | n + 1, s, y, h0, h1, h2, h3, h4, h5 => by
    show fl68_5_1_b (fl68_5_1 (fun v => v) 0 y0 a c n) (fun v => v) 0 y0 a c s y = _
    unfold fl68_5_1_b
    by_cases e : y0 + a ≤ y
    · rw [if_pos e, show (y0 + a - y).toNat = 0 by omega]
      exact (Int.add_zero s).symm
    · have b := imC_b h y
      have es := sumN_step (f := imC c) (y := y) (L := y0 + a) (by omega)
      have e1 : c 0 28 ((c 0 27 2 - 1 - y) % 64 * 6 + 1) = imC c y := rfl
      rw [if_neg e, zn_a, e1, w64_id (by omega), f68_loop h n _ (y + 1) (by omega) (by omega) (by omega) (by omega) h4 (by omega), es]
      omega
theorem f68_T {c : zM} {a y : Int} (h : LN (c 0)) (ha : 0 ≤ a ∧ a ≤ 64) : f68_1 0 y a c = suC c a y := by
  have e := f68_loop (c := c) (a := a) (y0 := y) h (zfu 128) 0 y (by omega) (by omega) (by omega) (by omega) ha.2 (by rw [zfu_eq]; omega)
  have e2 : f68_1 0 y a c = fl68_5_1 (fun v => v) 0 y a c (zfu 128) 0 y := rfl
  rw [e2, e, show y + a - y = a by omega]
  unfold suC
  omega
/-- the greatest, the latest of these -/
def isBest (f : Int → Int) (M v : Int) : Prop := 0 ≤ v ∧ v ≤ M ∧ ∀ q, 0 ≤ q → q ≤ M → f q ≤ f v ∧ (q < v → f q < f v)
theorem isBest.uni {f : Int → Int} {M v w : Int} (h : isBest f M v) (h' : isBest f M w) : v = w := by
  obtain ⟨a0, a1, a2⟩ := h
  obtain ⟨b0, b1, b2⟩ := h'
  obtain ⟨x1, x2⟩ := a2 w b0 b1
  obtain ⟨y1, y2⟩ := b2 v a0 a1
  by_cases e : w < v
  · have := x2 e
    omega
  · by_cases e2 : v < w
    · have := y2 e2
      omega
    · omega
theorem best_c {c : zM} {a : Int} (h : LN (c 0)) (ha : 1 ≤ a ∧ a ≤ min (c 0 27 2) 64) : ∀ (n : Nat) (y2 y4 y6 y7 : Int), y2 = suC c a (y7 - 1) → y4 = suC c a y6 → 0 ≤ y6 → y6 < y7 → y7 ≤ min (c 0 27 2) 64 - a + 1 → (∀ q, 0 ≤ q → q < y7 → suC c a q ≤ suC c a y6 ∧ (q < y6 → suC c a q < suC c a y6)) → min (c 0 27 2) 64 - a + 1 - y7 < n →
    isBest (suC c a) (min (c 0 27 2) 64 - a) (fl188_16_1 (fun y504 => y504) 0 a c n y2 y4 y6 y7)
  | 0, y2, y4, y6, y7, h0, h1, h2, h3, h4, h5, h6 => by omega
  | n + 1, y2, y4, y6, y7, h0, h1, h2, h3, h4, h5, h6 => by
    show isBest _ _ (fl188_16_1_b (fl188_16_1 (fun y504 => y504) 0 a c n) (fun y504 => y504) 0 a c y2 y4 y6 y7)
    unfold fl188_16_1_b
    by_cases e : min (c 0 27 2) 64 < y7 + a
    · rw [if_pos e]
      show isBest _ _ y6
      exact ⟨h2, by omega, fun q q0 q1 => h5 q q0 (by omega)⟩
    · have e1 : c 0 28 ((c 0 27 2 - 1 - (y7 + a - 1)) % 64 * 6 + 1) = imC c (y7 - 1 + a) := by
        unfold imC
        rw [show y7 - 1 + a = y7 + a - 1 by omega]
      have e2 : c 0 28 ((c 0 27 2 - 1 - (y7 - 1)) % 64 * 6 + 1) = imC c (y7 - 1) := rfl
      have b1 := imC_b h (y7 - 1 + a)
      have b2 := imC_b h (y7 - 1)
      have s1 := suC_s (c := c) (a := a) (y := y7 - 1) ha.1
      rw [show y7 - 1 + 1 = y7 by omega] at s1
      have sb := suC_b h (a := a) (by omega) y7
      have sb2 := suC_b h (a := a) (by omega) (y7 - 1)
      rw [if_neg e, zn_a, zn_a, e1, e2, w64_id (x := imC c (y7 - 1 + a) - imC c (y7 - 1)) (by omega), w64_id (by omega), h0, ← s1]
      by_cases x : suC c a y7 ≤ y4
      · rw [if_pos x]
        refine best_c h ha n _ _ _ (y7 + 1) (by rw [show y7 + 1 - 1 = y7 by omega]) h1 h2 (by omega) (by omega) (fun q q0 q1 => ?_) (by omega)
        by_cases z : q = y7
        · rw [z]
          exact ⟨by omega, fun w => by omega⟩
        · exact h5 q q0 (by omega)
      · rw [if_neg x]
        refine best_c h ha n _ _ _ (y7 + 1) (by rw [show y7 + 1 - 1 = y7 by omega]) rfl (by omega) (by omega) (by omega) (fun q q0 q1 => ?_) (by omega)
        by_cases z : q = y7
        · rw [z]
          exact ⟨Int.le_refl _, fun w => by omega⟩
        · have := h5 q q0 (by omega)
          exact ⟨by omega, fun _ => by omega⟩
/-- the reference's sum of a lines from its i-th on -/
def imR (c : zM) (y : Int) : Int := c 4 45 (788 + 6 * y + 1)
def suR (c : zM) (a i : Int) : Int := sumN (fun k => imR c (i + (k : Int))) a.toNat
theorem sum311 {c : zM} {K : Int → Int} {a y2 y3 y5 y6 : Int} (hb : ∀ k, 0 ≤ k → k < a → 0 ≤ imR c (y6 + k) ∧ imR c (y6 + k) ≤ 49300000000000) : ∀ (n : Nat) (s y : Int), 0 ≤ s → s ≤ 49300000000000 * y → 0 ≤ y → y ≤ a → a ≤ 64 → a - y < n → fl311_55_1 K a y2 y3 y5 y6 c n s y = K (s + sumN (fun k => imR c (y6 + (y + (k : Int)))) (a - y).toNat)
  | 0, s, y, h0, h1, h2, h3, h4, h5 => by omega
  | n + 1, s, y, h0, h1, h2, h3, h4, h5 => by
    show fl311_55_1_b (fl311_55_1 K a y2 y3 y5 y6 c n) K a y2 y3 y5 y6 c s y = _
    unfold fl311_55_1_b
    by_cases e : a ≤ y
    · rw [if_pos e, show (a - y).toNat = 0 by omega]
      show K s = K (s + 0)
      rw [Int.add_zero]
    · have b := hb y h2 (by omega)
      have es : sumN (fun k => imR c (y6 + (y + (k : Int)))) (a - y).toNat = imR c (y6 + y) + sumN (fun k => imR c (y6 + (y + 1 + (k : Int)))) (a - (y + 1)).toNat := sumN_step (f := fun i => imR c (y6 + i)) (by omega)
      have e1 : f234_1 (y6 + y) 1 c = imR c (y6 + y) := rfl
      rw [if_neg e, zn_a, zn_a, e1, w64_id (by omega), sum311 hb n _ (y + 1) (by omega) (by omega) (by omega) (by omega) h4 (by omega), es, Int.add_assoc]
theorem suR_T {c : zM} {K : Int → Int} {a y2 y3 y5 y6 : Int} (hb : ∀ k, 0 ≤ k → k < a → 0 ≤ imR c (y6 + k) ∧ imR c (y6 + k) ≤ 49300000000000) (ha : 0 ≤ a ∧ a ≤ 64) : fl311_55_1 K a y2 y3 y5 y6 c (zfu 65) 0 0 = K (suR c a y6) := by
  rw [sum311 hb (zfu 65) 0 0 (by omega) (by omega) (by omega) (by omega) ha.2 (by rw [zfu_eq]; omega)]
  have e : sumN (fun k => imR c (y6 + (0 + (k : Int)))) (a - 0).toNat = suR c a y6 := by
    unfold suR
    rw [show a - 0 = a by omega]
    exact sumN_congr _ (fun k _ => by rw [show (0 : Int) + (k : Int) = k by omega])
  rw [e, Int.zero_add]
/-- the reference: y3 the greatest so far, y5 its last line, y6 the next to be looked at -/
theorem best_r {c : zM} {a L : Int} {K : Int → Int → Int} (hL : L = min (c 4 45 17) 64) (ha : 1 ≤ a ∧ a ≤ L) (hL1 : L ≤ 64) (hb : ∀ k, 0 ≤ k → k < L → 0 ≤ imR c k ∧ imR c k ≤ 49300000000000) (y2 : Int) :
    ∀ (n : Nat) (y3 y5 y6 v : Int), 0 ≤ v → v < y6 → y3 = suR c a v → y5 = v + a - 1 → y6 ≤ L - a + 1 → (∀ q, 0 ≤ q → q < y6 → suR c a q ≤ suR c a v ∧ (v < q → suR c a q < suR c a v)) → L - a + 1 - y6 < n →
      ∃ v, (0 ≤ v ∧ v ≤ L - a ∧ ∀ q, 0 ≤ q → q ≤ L - a → suR c a q ≤ suR c a v ∧ (v < q → suR c a q < suR c a v)) ∧ fl311_38_1 K a y2 c n y3 y5 y6 = K (suR c a v) (v + a - 1)
  | 0, y3, y5, y6, v, h0, h1, h2, h3, h4, h5, h6 => by omega
  | n + 1, y3, y5, y6, v, h0, h1, h2, h3, h4, h5, h6 => by
    show ∃ v, _ ∧ fl311_38_1_b (fl311_38_1 K a y2 c n) K a y2 c y3 y5 y6 = _
    unfold fl311_38_1_b
    rw [zn_a, lines_r, ← hL]
    by_cases e : L < y6 + a
    · rw [if_pos e, h2, h3]
      exact ⟨v, ⟨h0, by omega, fun q q0 q1 => h5 q q0 (by omega)⟩, rfl⟩
    · rw [if_neg e, suR_T (fun k k0 k1 => hb _ (by omega) (by omega)) (by omega)]
      by_cases x : suR c a y6 < y3
      · rw [if_pos x]
        refine best_r hL ha hL1 hb y2 n _ _ (y6 + 1) v h0 (by omega) h2 h3 (by omega) (fun q q0 q1 => ?_) (by omega)
        by_cases z : q = y6
        · rw [z]
          exact ⟨by omega, fun _ => by omega⟩
        · exact h5 q q0 (by omega)
      · rw [if_neg x]
        refine best_r hL ha hL1 hb y2 n _ _ (y6 + 1) y6 (by omega) (by omega) rfl rfl (by omega) (fun q q0 q1 => ?_) (by omega)
        by_cases z : q = y6
        · rw [z]
          exact ⟨Int.le_refl _, fun w => by omega⟩
        · have := h5 q q0 (by omega)
          exact ⟨by omega, fun _ => by omega⟩
theorem best_T {c : zM} {a b : Int} (hl : LD (c 0) (c 4 45)) (h : LN (c 0)) : f187_1 a b c = f311_1 a b c := by
  obtain ⟨l1, l2, ⟨l3, -⟩, -, -⟩ := hl
  obtain ⟨L, hL⟩ : ∃ L, L = min (c 4 45 17) 64 := ⟨_, rfl⟩
  unfold f187_1 f311_1
  rw [zn_a (f235_1 c), lines_r, l1, ← hL]
  by_cases a0 : a < 1
  · rw [if_pos a0, if_pos a0]
  rw [if_neg a0, if_neg a0]
  by_cases a1 : a ≤ L
  case neg => rw [if_pos (show L < a by omega), if_neg a1]
  rw [if_neg (show ¬ L < a by omega), if_pos a1]
  by_cases b0 : b < 0
  · rw [if_pos b0, if_pos b0]
  rw [if_neg b0, if_neg b0]
  by_cases b1 : b ≤ 1
  case neg => rw [if_neg b1, if_neg b1]
  rw [if_pos b1, if_pos b1]
  have hi : ∀ p, 0 ≤ p → p < L → imC c p = imR c (L - 1 - p) := fun p p0 p1 => by
    have := l3 p p0 (by omega) 1 (by omega) (by omega)
    unfold imC imR
    rw [l1, hL]
    exact this
  have hb : ∀ k, 0 ≤ k → k < L → 0 ≤ imR c k ∧ imR c k ≤ 49300000000000 := fun k k0 k1 => by
    have e := hi (L - 1 - k) (by omega) (by omega)
    rw [show L - 1 - (L - 1 - k) = k by omega] at e
    rw [← e]
    exact imC_b h _
  -- the sums are the same, turned about
  have hs : ∀ p, 0 ≤ p → p ≤ L - a → suC c a p = suR c a (L - a - p) := fun p p0 p1 => by
    have e1 : suC c a p = sumN (fun k => imR c (L - 1 - (p + (k : Int)))) a.toNat := by
      unfold suC
      exact sumN_congr _ (fun k hk => hi _ (by omega) (by omega))
    have er := sumN_rev (f := fun k => imR c (L - a - p + (k : Int))) a.toNat
    unfold suR
    rw [e1, ← er]
    exact sumN_congr _ (fun k hk => by rw [show L - 1 - (p + (k : Int)) = L - a - p + ((a.toNat - 1 - k : Nat) : Int) by omega])
  have hc : isBest (suC c a) (L - a) (f188_1 0 a c) := by
    have e := best_c (c := c) (a := a) h (by rw [l1, ← hL]; omega) (zfu 64) (suC c a 0) (suC c a 0) 0 1 rfl rfl (by omega) (by omega) (by rw [l1, ← hL]; omega) (fun q q0 q1 => by
      have : q = 0 := by omega
      rw [this]
      exact ⟨Int.le_refl _, fun w => by omega⟩) (by rw [l1, ← hL, zfu_eq]; omega)
    rw [l1, ← hL] at e
    unfold f188_1
    rw [zn_a, f68_T h (by omega)]
    exact e
  -- the reference, its first one taken
  obtain ⟨N, hN⟩ : ∃ N, zfu 65 = N + 1 := ⟨64, by rw [zfu_eq]⟩
  obtain ⟨v, ⟨v0, v1, v2⟩, ev⟩ : ∃ v, (0 ≤ v ∧ v ≤ L - a ∧ ∀ q, 0 ≤ q → q ≤ L - a → suR c a q ≤ suR c a v ∧ (v < q → suR c a q < suR c a v)) ∧ fl311_38_1 (fun y518 y519 => zn (if b = 0 then (y518) else (zn (f234_1 y519 0 c) fun v527 => v527)) fun v528 => v528) a b c (N + 1) (-1) 0 0 = (fun y518 y519 => zn (if b = 0 then (y518) else (zn (f234_1 y519 0 c) fun v527 => v527)) fun v528 => v528) (suR c a v) (v + a - 1) := by
    show ∃ v, _ ∧ fl311_38_1_b (fl311_38_1 _ a b c N) _ a b c (-1) 0 0 = _
    unfold fl311_38_1_b
    have s0 : 0 ≤ suR c a 0 := by
      have := sumN_up (f := fun k => imR c (0 + (k : Int))) (K := 49300000000000) a.toNat (fun k hk => hb _ (by omega) (by omega))
      exact this.1
    rw [zn_a, lines_r, ← hL, if_neg (show ¬ L < 0 + a by omega), suR_T (fun k k0 k1 => hb _ (by omega) (by omega)) (by omega), if_neg (show ¬ suR c a 0 < -1 by omega)]
    exact best_r hL (by omega) (by omega) hb b N (suR c a 0) (0 + a - 1) (0 + 1) 0 (by omega) (by omega) rfl (by omega) (by omega) (fun q q0 q1 => by
      have : q = 0 := by omega
      rw [this]
      exact ⟨Int.le_refl _, fun w => by omega⟩) (by rw [zfu_eq] at hN; omega)
  rw [hN, ev]
  have hv : isBest (suC c a) (L - a) (L - a - v) := by
    refine ⟨by omega, by omega, fun q q0 q1 => ?_⟩
    obtain ⟨x1, x2⟩ := v2 (L - a - q) (by omega) (by omega)
    rw [hs q q0 q1, hs (L - a - v) (by omega) (by omega), show L - a - (L - a - v) = v by omega]
    exact ⟨x1, fun w => x2 (by omega)⟩
  have ep := hc.uni hv
  have lv := l3 (L - a - v) (by omega) (by omega) 0 (by omega) (by omega)
  have sv := hs (L - a - v) (by omega) (by omega)
  rw [show L - a - (L - a - v) = v by omega] at sv
  simp only [zn_a]
  rw [ep, f68_T h (by omega), sv]
  by_cases z : b = 0
  · rw [if_pos z, if_pos z]
  · rw [if_neg z, if_neg z, lv]
    unfold f234_1
    rw [← hL, show L - 1 - (L - a - v) = v + a - 1 by omega]
