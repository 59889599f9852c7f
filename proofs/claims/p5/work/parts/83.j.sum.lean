/-! Sums of samples. -/
def sumN (f : Nat → Int) : Nat → Int
  | 0 => 0
  | n + 1 => sumN f n + f n
theorem sumN_congr {f h : Nat → Int} : ∀ n : Nat, (∀ k, k < n → f k = h k) → sumN f n = sumN h n
  | 0, _ => rfl
  | n + 1, e => by
    unfold sumN
    rw [sumN_congr n (fun k hk => e k (by omega)), e n (by omega)]
theorem sumN_add {f h : Nat → Int} : ∀ n : Nat, sumN (fun k => f k + h k) n = sumN f n + sumN h n
  | 0 => rfl
  | n + 1 => by
    show sumN (fun k => f k + h k) n + (f n + h n) = sumN f n + f n + (sumN h n + h n)
    rw [sumN_add n]
    omega
theorem sumN_bd {f : Nat → Int} {b : Int} : ∀ n : Nat, (∀ k, k < n → -b ≤ f k ∧ f k ≤ b) → -(b * n) ≤ sumN f n ∧ sumN f n ≤ b * n
  | 0, _ => by
    show -(b * 0) ≤ (0 : Int) ∧ (0 : Int) ≤ b * 0
    omega
  | n + 1, e => by
    have h1 := sumN_bd n (fun k hk => e k (by omega))
    have h2 := e n (by omega)
    have h3 : b * ((n + 1 : Nat) : Int) = b * (n : Int) + b := by
      rw [Int.natCast_add, Int.mul_add]
      show b * (n : Int) + b * 1 = _
      omega
    rw [h3]
    show -(b * (n : Int) + b) ≤ sumN f n + f n ∧ sumN f n + f n ≤ b * (n : Int) + b
    omega
theorem sumN_nn {f : Nat → Int} : ∀ n : Nat, (∀ k, k < n → 0 ≤ f k) → 0 ≤ sumN f n
  | 0, _ => Int.le_refl _
  | n + 1, e => by
    have h1 := sumN_nn n (fun k hk => e k (by omega))
    have h2 := e n (by omega)
    show 0 ≤ sumN f n + f n
    omega
def tA (w : Int → Int) (f : Int) (k : Nat) : Int := w (95 + 16 * f + (k : Int)) * w (143 + 16 * f + (k : Int))
def tR (w : Int → Int) (N f : Int) (k : Nat) : Int := w (95 + 16 * f + (k : Int)) * w (143 + 16 * f + ((k : Int) + N / 4) % N)
def tS (w : Int → Int) (b f : Int) (k : Nat) : Int := w (b + 16 * f + (k : Int)) * w (b + 16 * f + (k : Int))
def AC (w : Int → Int) (f : Int) : Int := sumN (tA w f) (w 2).toNat
def RE (w : Int → Int) (f : Int) : Int := sumN (tR w (w 2) f) (w 2).toNat
def SQ (w : Int → Int) (b f : Int) : Int := sumN (tS w b f) (w 2).toNat
/-- the numbers' bounds that the wave needs -/
def WB (w : Int → Int) : Prop := 1 ≤ w 1 ∧ w 1 ≤ 3 ∧ 4 ≤ w 2 ∧ w 2 ≤ 16 ∧ 0 ≤ w 3 ∧ w 3 ≤ 47 ∧ ∀ i, 95 ≤ i → i ≤ 286 → -500 ≤ w i ∧ w i ≤ 500
theorem ac_loop {m : zM} {f : Int} {N : Nat} (hN : m 4 45 2 = N) : ∀ (n j : Nat), j ≤ N → N - j < n → fl210_5_1 (fun y => y) f m n (sumN (tA (m 4 45) f) j) j = sumN (tA (m 4 45) f) N
  | 0, j, h0, h1 => by omega
  | n + 1, j, h0, h1 => by
    show fl210_5_1_b (fl210_5_1 (fun y => y) f m n) (fun y => y) f m (sumN (tA (m 4 45) f) j) j = _
    unfold fl210_5_1_b
    by_cases h : m 4 45 2 ≤ (j : Int)
    · rw [if_pos h, show j = N by omega]
    · rw [if_neg h, zn_a]
      have e := ac_loop (f := f) hN n (j + 1) (by omega) (by omega)
      rw [show ((j + 1 : Nat) : Int) = (j : Int) + 1 by omega] at e
      exact e
theorem ac_r {m : zM} (h : WB (m 4 45)) (f : Int) : f210_1 f m = AC (m 4 45) f := by
  have hn := h.2.2.1
  have hn2 := h.2.2.2.1
  exact ac_loop (m := m) (f := f) (N := (m 4 45 2).toNat) (by omega) (zfu 17) 0 (by omega) (by rw [zfu_eq]; omega)
theorem re_loop {m : zM} {f : Int} {N : Nat} (hN : m 4 45 2 = N) : ∀ (n j : Nat), j ≤ N → N - j < n → fl212_5_1 (fun y => y) f m n (sumN (tR (m 4 45) (m 4 45 2) f) j) j = sumN (tR (m 4 45) (m 4 45 2) f) N
  | 0, j, h0, h1 => by omega
  | n + 1, j, h0, h1 => by
    show fl212_5_1_b (fl212_5_1 (fun y => y) f m n) (fun y => y) f m (sumN (tR (m 4 45) (m 4 45 2) f) j) j = _
    unfold fl212_5_1_b
    by_cases h : m 4 45 2 ≤ (j : Int)
    · rw [if_pos h, show j = N by omega]
    · rw [if_neg h, zn_a, zn_a]
      have e := re_loop (f := f) hN n (j + 1) (by omega) (by omega)
      rw [show ((j + 1 : Nat) : Int) = (j : Int) + 1 by omega] at e
      exact e
theorem re_r {m : zM} (h : WB (m 4 45)) (f : Int) : f212_1 f m = RE (m 4 45) f := by
  have hn := h.2.2.1
  have hn2 := h.2.2.2.1
  exact re_loop (m := m) (f := f) (N := (m 4 45 2).toNat) (by omega) (zfu 17) 0 (by omega) (by rw [zfu_eq]; omega)
theorem sq_loop {m : zM} {b f : Int} {N : Nat} (hN : m 4 45 2 = N) : ∀ (n j : Nat), j ≤ N → N - j < n → fl213_5_1 (fun y => y) b f m n (sumN (tS (m 4 45) b f) j) j = sumN (tS (m 4 45) b f) N
  | 0, j, h0, h1 => by omega
  | n + 1, j, h0, h1 => by
    show fl213_5_1_b (fl213_5_1 (fun y => y) b f m n) (fun y => y) b f m (sumN (tS (m 4 45) b f) j) j = _
    unfold fl213_5_1_b
    by_cases h : m 4 45 2 ≤ (j : Int)
    · rw [if_pos h, show j = N by omega]
    · rw [if_neg h, zn_a]
      have e := sq_loop (b := b) (f := f) hN n (j + 1) (by omega) (by omega)
      rw [show ((j + 1 : Nat) : Int) = (j : Int) + 1 by omega] at e
      exact e
theorem sq_r {m : zM} (h : WB (m 4 45)) (b f : Int) : f213_1 b f m = SQ (m 4 45) b f := by
  have hn := h.2.2.1
  have hn2 := h.2.2.2.1
  exact sq_loop (m := m) (b := b) (f := f) (N := (m 4 45 2).toNat) (by omega) (zfu 17) 0 (by omega) (by rw [zfu_eq]; omega)
/-- of all phases together -/
def TG (w : Int → Int) (i : Int) (f : Nat) : Int := if i = 0 then AC w f else if i = 1 then RE w f else if i = 2 then SQ w 95 f else SQ w 143 f
theorem tg_loop {m : zM} (hm : WB (m 4 45)) {i : Int} {P : Nat} (hP : m 4 45 1 = P) : ∀ (n j : Nat), j ≤ P → P - j < n → fl209_5_1 (fun y => y) i m n (sumN (TG (m 4 45) i) j) j = sumN (TG (m 4 45) i) P
  | 0, j, h0, h1 => by omega
  | n + 1, j, h0, h1 => by
    show fl209_5_1_b (fl209_5_1 (fun y => y) i m n) (fun y => y) i m (sumN (TG (m 4 45) i) j) j = _
    unfold fl209_5_1_b
    by_cases h : m 4 45 1 ≤ (j : Int)
    · rw [if_pos h, show j = P by omega]
    · rw [if_neg h]
      simp only [zn_a]
      rw [ac_r hm, re_r hm, sq_r hm, sq_r hm]
      have e := tg_loop hm (i := i) hP n (j + 1) (by omega) (by omega)
      rw [show ((j + 1 : Nat) : Int) = (j : Int) + 1 by omega] at e
      exact e
theorem tg_r {m : zM} (h : WB (m 4 45)) (i : Int) : f209_1 i m = sumN (TG (m 4 45) i) (m 4 45 1).toNat := by
  have hn := h.1
  have hn2 := h.2.1
  exact tg_loop h (i := i) (P := (m 4 45 1).toNat) (by omega) (zfu 4) 0 (by omega) (by rw [zfu_eq]; omega)
/-! whole roots -/
def isRoot (v s : Int) : Prop := 0 ≤ s ∧ s * s ≤ v ∧ v < (s + 1) * (s + 1)
theorem isRoot.uni {v s t : Int} (h : isRoot v s) (h' : isRoot v t) : s = t := by
  obtain ⟨a1, a2, a3⟩ := h
  obtain ⟨b1, b2, b3⟩ := h'
  have key : ∀ x y : Int, 0 ≤ x → 0 ≤ y → x * x ≤ v → v < (y + 1) * (y + 1) → ¬ y + 1 ≤ x := fun x y x0 y0 hx hy hxy => by
    have := Int.mul_le_mul hxy hxy (by omega) x0
    omega
  have k1 := key s t a1 b1 a2 b3
  have k2 := key t s b1 a1 b2 a3
  omega
theorem rt_ref_loop {v : Int} {m : zM} (hv : 0 ≤ v ∧ v < 9000000000000000000) : ∀ (n : Nat) (lo hi : Int), 0 ≤ lo → lo ≤ hi → hi ≤ 3000000000 → lo * lo ≤ v → v < (hi + 1) * (hi + 1) → hi - lo < n → isRoot v (fl214_7_1 (fun y => y) v m n lo hi)
  | 0, lo, hi, h0, h1, h2, h3, h4, h5 => by omega
  | n + 1, lo, hi, h0, h1, h2, h3, h4, h5 => by
    show isRoot v (fl214_7_1_b (fl214_7_1 (fun y => y) v m n) (fun y => y) v m lo hi)
    unfold fl214_7_1_b
    by_cases h : lo < hi
    · rw [if_pos h, zn_a]
      by_cases h6 : (lo + hi + 1) / 2 * ((lo + hi + 1) / 2) ≤ v
      · rw [if_pos h6]
        exact rt_ref_loop hv n _ hi (by omega) (by omega) h2 h6 h4 (by omega)
      · rw [if_neg h6]
        refine rt_ref_loop hv n lo _ h0 (by omega) (by omega) h3 ?_ (by omega)
        rw [show (lo + hi + 1) / 2 - 1 + 1 = (lo + hi + 1) / 2 by omega]
        omega
    · rw [if_neg h]
      have e : lo = hi := by omega
      subst e
      exact ⟨h0, h3, h4⟩
theorem rt_ref {v : Int} (m : zM) (hv : 0 ≤ v ∧ v < 9000000000000000000) : isRoot v (f214_1 v m) := rt_ref_loop hv (zfu 3000000001) 0 3000000000 (by omega) (by omega) (by omega) (by omega) (by omega) (by rw [zfu_eq]; omega)
def p2 (b : Nat) : Int := ((2 ^ b : Nat) : Int)
theorem p2_s (b : Nat) : p2 (b + 1) = 2 * p2 b := by
  have e : (2 ^ (b + 1) : Nat) = 2 ^ b * 2 := Nat.pow_succ 2 b
  unfold p2
  omega
theorem p2_pos (b : Nat) : 1 ≤ p2 b := by
  have e : 0 < (2 ^ b : Nat) := Nat.two_pow_pos b
  unfold p2
  omega
theorem tab_shl : ∀ b : Fin 26, zshlL 1 (b.val : Int) = ((2 ^ b.val : Nat) : Int) := by decide +kernel
theorem rt_cls_loop {v : Int} {m : zM} (hv : 0 ≤ v) : ∀ (b n : Nat) (root : Int), b ≤ 26 → b < n → 0 ≤ root → root + p2 b ≤ 67108864 → root * root ≤ v → v < (root + p2 b) * (root + p2 b) → isRoot v (fl24_6_1 (fun y => y) v m n root ((b : Int) - 1)) := by
  intro b
  induction b with
  | zero =>
    intro n root h0 h1 h2 h3 h4 h5
    obtain ⟨n, rfl⟩ : ∃ q, n = q + 1 := ⟨n - 1, by omega⟩
    show isRoot v (fl24_6_1_b (fl24_6_1 (fun y => y) v m n) (fun y => y) v m root (((0 : Nat) : Int) - 1))
    unfold fl24_6_1_b
    rw [if_pos (by omega)]
    exact ⟨h2, h4, h5⟩
  | succ b ih =>
    intro n root h0 h1 h2 h3 h4 h5
    obtain ⟨n, rfl⟩ : ∃ q, n = q + 1 := ⟨n - 1, by omega⟩
    show isRoot v (fl24_6_1_b (fl24_6_1 (fun y => y) v m n) (fun y => y) v m root (((b + 1 : Nat) : Int) - 1))
    unfold fl24_6_1_b
    have eb : ((b + 1 : Nat) : Int) - 1 = (b : Int) := by omega
    have ps := p2_s b
    have pp := p2_pos b
    have t := tab_shl ⟨b, by omega⟩
    try dsimp only at t
    rw [eb, if_neg (by omega)]
    simp only [zn_a]
    rw [t]
    have et : ((2 ^ b : Nat) : Int) = p2 b := rfl
    rw [et, w64_id (x := root + p2 b) (by omega)]
    have hm : 0 ≤ (root + p2 b) * (root + p2 b) ∧ (root + p2 b) * (root + p2 b) ≤ 67108864 * 67108864 := ⟨Int.mul_nonneg (by omega) (by omega), Int.mul_le_mul (by omega) (by omega) (by omega) (by omega)⟩
    rw [w64_id (x := (root + p2 b) * (root + p2 b)) (by omega), show (b : Int) + -1 = (b : Int) - 1 by omega]
    by_cases h6 : (root + p2 b) * (root + p2 b) ≤ v
    · rw [if_pos h6]
      refine ih n (root + p2 b) (by omega) (by omega) (by omega) (by omega) h6 ?_
      rw [show root + p2 b + p2 b = root + p2 (b + 1) by omega]
      exact h5
    · rw [if_neg h6]
      exact ih n root (by omega) (by omega) h2 (by omega) h4 (by omega)
theorem rt_cls {v : Int} (m : zM) (hv : 0 ≤ v ∧ v < 4503599627370496) : isRoot v (f24_1 v m) := rt_cls_loop hv.1 26 (zfu 27) 0 (by omega) (by rw [zfu_eq]; omega) (by omega) (by decide) (by omega) (by
  have e : p2 26 = 67108864 := by decide
  rw [e]
  omega)
theorem rt_eq {v : Int} (m n : zM) (hv : 0 ≤ v ∧ v < 4503599627370496) : f24_1 v m = f214_1 v n := (rt_cls m hv).uni (rt_ref n (by omega))
