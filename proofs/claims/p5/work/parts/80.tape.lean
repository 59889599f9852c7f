/-! The tape, the fault and the calendar's text on both sides. -/
theorem tE_byte (z : Int) : tE (zand z 255) (w8 z) := by
  have h1 : zand z 255 = z % 256 := by
    have e0 : zand z 255 = (Int32.ofInt z &&& Int32.ofInt 255).toBitVec.toInt := rfl
    have e1 : (Int32.ofInt z &&& Int32.ofInt 255).toBitVec.toNat = (Int32.ofInt z).toBitVec.toNat &&& (Int32.ofInt 255).toBitVec.toNat := BitVec.toNat_and _ _
    have e2 : (Int32.ofInt 255).toBitVec.toNat = 2 ^ 8 - 1 := by decide
    have e3 : (Int32.ofInt z).toBitVec.toNat = (z % 4294967296).toNat := BitVec.toNat_ofInt (n := 32) z
    rw [e2, Nat.and_two_pow_sub_one_eq_mod, e3] at e1
    rw [e0, BitVec.toInt_eq_toNat_cond, e1]
    have e4 : (z % 4294967296).toNat % 2 ^ 8 < 256 := Nat.mod_lt _ (by decide)
    rw [if_pos (by omega)]
    omega
  have h2 : w8 z = z.bmod 256 := by
    have e0 : w8 z = (Int32.ofInt z).toInt.bmod (2 ^ 8) := Int32.toInt_toInt8 _
    rw [e0, Int32.toInt_ofInt]
    exact Int.bmod_bmod_of_dvd (n := 256) (m := 4294967296) (by decide)
  rw [h1, h2, Int.bmod_def]
  unfold tE
  split <;> omega
/-- the tape -/
def TA (c r : zM) : Prop := c 4 41 3 = r 4 44 5 ∧ ∀ i : Int, 0 ≤ i → i < c 4 41 3 → tE (c 4 42 i) (r 4 48 i)
theorem TA.put {c r : zM} (h : TA c r) (h0 : 0 ≤ c 4 41 3) {x y : Int} (hxy : tE x y) : TA (z_upd (z_upd c 4 42 (c 4 41 3) x) 4 41 3 (z_upd c 4 42 (c 4 41 3) x 4 41 3 + 1)) (z_upd (z_upd r 4 48 (r 4 44 5) y) 4 44 5 (z_upd r 4 48 (r 4 44 5) y 4 44 5 + 1)) := by
  obtain ⟨h1, h2⟩ := h
  have e1 : z_upd c 4 42 (c 4 41 3) x 4 41 3 = c 4 41 3 := by rw [zu_k _ _ _ (by decide)]
  have e2 : z_upd r 4 48 (r 4 44 5) y 4 44 5 = r 4 44 5 := by rw [zu_k _ _ _ (by decide)]
  rw [e1, e2]
  refine ⟨?_, fun i i0 i1 => ?_⟩
  · rw [zu_row, zu_row, fu_s, fu_s, h1]
  · rw [zu_row, fu_s] at i1
    rw [zu_k _ _ _ (show (42 : Nat) ≠ 41 by decide), zu_k _ _ _ (show (48 : Nat) ≠ 44 by decide), zu_row, zu_row]
    by_cases e : i = c 4 41 3
    · rw [e, fu_s, h1, fu_s]
      exact hxy
    · rw [fu_i _ _ e, fu_i _ _ (by omega)]
      exact h2 i i0 (by omega)
theorem put_T {c r : zM} (h : TA c r) (h0 : 0 ≤ c 4 41 3) (h1 : c 4 41 3 ≤ 296) (a : Int) : TA (f87_1 a c) (f257_1 a r) ∧ f87_1 a c 4 41 3 = c 4 41 3 + 4 := by
  unfold f87_1 f257_1
  simp only [zn_a, zs_a]
  rw [if_neg (by omega)]
  have l1 := h.put h0 (tE_byte (zushr a 24))
  have n1 : z_upd (z_upd c 4 42 (c 4 41 3) (zand (zushr a 24) 255)) 4 41 3 (z_upd c 4 42 (c 4 41 3) (zand (zushr a 24) 255) 4 41 3 + 1) 4 41 3 = c 4 41 3 + 1 := by
    rw [zu_row, fu_s, zu_k _ _ _ (by decide)]
  generalize z_upd (z_upd c 4 42 (c 4 41 3) (zand (zushr a 24) 255)) 4 41 3 (z_upd c 4 42 (c 4 41 3) (zand (zushr a 24) 255) 4 41 3 + 1) = c1 at l1 n1 ⊢
  generalize z_upd (z_upd r 4 48 (r 4 44 5) (w8 (zushr a 24))) 4 44 5 (z_upd r 4 48 (r 4 44 5) (w8 (zushr a 24)) 4 44 5 + 1) = r1 at l1 ⊢
  rw [if_neg (by omega)]
  have l2 := l1.put (by omega) (tE_byte (zushr a (24 + -8)))
  have n2 : z_upd (z_upd c1 4 42 (c1 4 41 3) (zand (zushr a (24 + -8)) 255)) 4 41 3 (z_upd c1 4 42 (c1 4 41 3) (zand (zushr a (24 + -8)) 255) 4 41 3 + 1) 4 41 3 = c 4 41 3 + 2 := by
    rw [zu_row, fu_s, zu_k _ _ _ (by decide)]
    omega
  generalize z_upd (z_upd c1 4 42 (c1 4 41 3) (zand (zushr a (24 + -8)) 255)) 4 41 3 (z_upd c1 4 42 (c1 4 41 3) (zand (zushr a (24 + -8)) 255) 4 41 3 + 1) = c2 at l2 n2 ⊢
  generalize z_upd (z_upd r1 4 48 (r1 4 44 5) (w8 (zushr a (24 + -8)))) 4 44 5 (z_upd r1 4 48 (r1 4 44 5) (w8 (zushr a (24 + -8))) 4 44 5 + 1) = r2 at l2 ⊢
  rw [if_neg (by omega)]
  have l3 := l2.put (by omega) (tE_byte (zushr a (24 + -8 + -8)))
  have n3 : z_upd (z_upd c2 4 42 (c2 4 41 3) (zand (zushr a (24 + -8 + -8)) 255)) 4 41 3 (z_upd c2 4 42 (c2 4 41 3) (zand (zushr a (24 + -8 + -8)) 255) 4 41 3 + 1) 4 41 3 = c 4 41 3 + 3 := by
    rw [zu_row, fu_s, zu_k _ _ _ (by decide)]
    omega
  generalize z_upd (z_upd c2 4 42 (c2 4 41 3) (zand (zushr a (24 + -8 + -8)) 255)) 4 41 3 (z_upd c2 4 42 (c2 4 41 3) (zand (zushr a (24 + -8 + -8)) 255) 4 41 3 + 1) = c3 at l3 n3 ⊢
  generalize z_upd (z_upd r2 4 48 (r2 4 44 5) (w8 (zushr a (24 + -8 + -8)))) 4 44 5 (z_upd r2 4 48 (r2 4 44 5) (w8 (zushr a (24 + -8 + -8))) 4 44 5 + 1) = r3 at l3 ⊢
  rw [if_neg (by omega)]
  have l4 := l3.put (by omega) (tE_byte (zushr a (24 + -8 + -8 + -8)))
  refine ⟨l4, ?_⟩
  rw [zu_row, fu_s, zu_k _ _ _ (by decide)]
  omega
theorem feed_T {c r : zM} {B a b d e f : Int} (hc : OM B c) (h : TA c r) : (f85_1 a b d e f c).1 = (f256_1 a b d e f r).1 ∧ TA (f85_1 a b d e f c).2 (f256_1 a b d e f r).2 := by
  have hl : 0 ≤ c 4 41 3 ∧ c 4 41 3 ≤ 300 := r41_3 hc.2.o 4
  have hl1 := h.1
  unfold f85_1 f256_1
  by_cases h0 : 300 < c 4 41 3 + 20
  · rw [if_pos h0, if_neg (by omega)]
    exact ⟨rfl, h⟩
  rw [if_neg h0, if_pos (by omega)]
  simp only [zs_a]
  obtain ⟨t1, n1⟩ := put_T h (by omega) (by omega) a
  generalize f87_1 a c = c1 at t1 n1 ⊢
  generalize f257_1 a r = r1 at t1 ⊢
  obtain ⟨t2, n2⟩ := put_T t1 (by omega) (by omega) b
  generalize f87_1 b c1 = c2 at t2 n2 ⊢
  generalize f257_1 b r1 = r2 at t2 ⊢
  obtain ⟨t3, n3⟩ := put_T t2 (by omega) (by omega) d
  generalize f87_1 d c2 = c3 at t3 n3 ⊢
  generalize f257_1 d r2 = r3 at t3 ⊢
  obtain ⟨t4, n4⟩ := put_T t3 (by omega) (by omega) e
  generalize f87_1 e c3 = c4 at t4 n4 ⊢
  generalize f257_1 e r3 = r4 at t4 ⊢
  obtain ⟨t5, n5⟩ := put_T t4 (by omega) (by omega) f
  exact ⟨t5.1, t5⟩
theorem end_T {c r : zM} {a : Int} (h : TA c r) : (f88_1 a c).1 = (f258_1 a r).1 ∧ TA (f88_1 a c).2 (f258_1 a r).2 := by
  unfold f88_1 f89_1 f258_1
  simp only [zb_a, zs_a, h.1]
  by_cases h0 : a < 0
  · rw [if_pos h0, if_pos h0]
    exact ⟨rfl, h⟩
  rw [if_neg h0, if_neg h0]
  by_cases h1 : a ≤ r 4 44 5
  · rw [if_pos h1, if_pos h1]
    refine ⟨by first | rfl | trivial, ?_, fun i i0 i1 => ?_⟩
    · try dsimp only
      rw [zu_row, zu_row, fu_s, fu_s]
    · try dsimp only at i1 ⊢
      rw [zu_row, fu_s] at i1
      rw [zu_k _ _ _ (show (42 : Nat) ≠ 41 by decide), zu_k _ _ _ (show (48 : Nat) ≠ 44 by decide)]
      exact h.2 i i0 (by rw [h.1]; omega)
  · rw [if_neg h1, if_neg h1]
    exact ⟨rfl, h⟩
/-- the fault -/
def FT (c r : zM) : Prop := c 4 41 4 = r 4 44 6 ∧ c 4 41 5 = r 4 44 7
theorem fault_T {c r : zM} {a : Int} (h : FT c r) : f113_1 a c = f259_1 a r := by
  unfold f113_1 f259_1
  simp only [zn_a]
  rw [h.1, h.2]
  try (split <;> rfl)
/-- calendar: what it answers, what it leaves -/
theorem calendar_T {c r : zM} {B : Int} (hc : OM B c) (hr : OM B r) (hB : B + 1 ≤ 1000000000) (hs : SE B (c 0) (r 4 45)) (h : CR (c 0) (r 4 45)) (ht : TA c r) :
    (f90_1 c).1 = (f260_1 r).1 ∧ SE (B + 1) ((f90_1 c).2 0) ((f260_1 r).2 4 45) ∧ CR ((f90_1 c).2 0) ((f260_1 r).2 4 45) ∧ TA (f90_1 c).2 (f260_1 r).2 ∧ FT (f90_1 c).2 (f260_1 r).2 ∧
      ((∀ t, 0 ≤ t → t < 4 → c 0 10 (6 + t) = r 4 45 (28 + t)) → ∀ t, 0 ≤ t → t < 4 → (f90_1 c).2 0 10 (6 + t) = (f260_1 r).2 4 45 (28 + t)) ∧
      (∀ k i, (k < 10 ∨ 18 < k) → k ≠ 39 → (f90_1 c).2 0 k i = c 0 k i) ∧ (∀ i, (i < 6 ∨ 9 < i) → (f90_1 c).2 0 10 i = c 0 10 i) ∧
      (∀ i : Int, 0 ≤ i → i < 1618 → (i < 28 ∨ 31 < i) → (i < 287 ∨ 787 < i) → (f260_1 r).2 4 45 i = r 4 45 i) := by
  have o1 : OM B (z_upd (z_upd r 4 44 6 0) 4 44 7 (-1)) := u44_7 (u44_6 hr (by omega)) (by omega)
  have e45 : z_upd (z_upd r 4 44 6 0) 4 44 7 (-1) 4 45 = r 4 45 := by rw [zu_k _ _ _ (by decide), zu_k _ _ _ (by decide)]
  obtain ⟨v, c1, r1, e1, e2, hv, oc, ro, se, cr, fc, fr⟩ := shut_R hc o1 hB (by rw [e45]; exact hs) (by rw [e45]; exact h)
  have f45 : ∀ i, i ≠ 1618 → r1 4 45 i = r 4 45 i := fun i hi => by rw [fr 4 45 i (by omega), e45]
  have ta : TA c1 r1 := by
    unfold TA
    rw [fc 4 41 3 (by omega), fr 4 44 5 (by omega), show c1 4 42 = c 4 42 from funext fun i => fc 4 42 i (by omega), show r1 4 48 = r 4 48 from funext fun i => by rw [fr 4 48 i (by omega), zu_k _ _ _ (by decide), zu_k _ _ _ (by decide)], zu_row, fu_i _ _ (by decide), zu_row, fu_i _ _ (by decide)]
    exact ht
  unfold f90_1 f260_1
  simp only [zs_a]
  rw [e1, e2]
  simp only [zb_a]
  by_cases h0 : v = 0
  · rw [if_pos h0, if_pos h0]
    obtain ⟨x, c2, r2, g1, g2, g3, g4, g5, g6, g7⟩ := load_open oc.1 oc.2 ro.1 ro.2 (by omega) ta.1 ta.2 (by rw [fr 4 44 6 (by omega), zu_row, fu_i _ _ (by decide), zu_row, fu_s]) (by rw [fr 4 44 7 (by omega), zu_row, fu_s])
    unfold ldC at g1
    unfold ldR at g2
    simp only [zb_a, zs_a] at g1 g2
    rw [g1, g2]
    try dsimp only
    have t2 : TA c2 r2 := ⟨by rw [g3, g4], fun i i0 i1 => by omega⟩
    rcases g7 with ⟨g8, g9, g10⟩ | ⟨g8, g9, g10, g11, g12, g13⟩
    · refine ⟨by first | rfl | trivial, se.of (fun i _ _ => g9 39 i) (fun i i0 i1 => g10 i (by omega) (by omega)), ?_, t2, ⟨g5, g6⟩, fun hp t t0 t1 => ?_, fun k i _ hk => by rw [g9 k i, fc 0 k i (by omega)], fun i _ => by rw [g9 10 i, fc 0 10 i (by omega)], fun i i0 i1 _ _ => by rw [g10 i i0 (by omega), f45 i (by omega)]⟩
      · rw [show c2 0 = c1 0 from funext fun k => funext fun i => g9 k i]
        exact cr.w (CB.of oc.2 0) (fun i i0 i1 => g10 i (by omega) (by omega))
      · rw [g9 10, fc 0 10 _ (by omega), g10 _ (by omega) (by omega), f45 _ (by omega)]
        exact hp t t0 t1
    · refine ⟨by first | rfl | trivial, se.of (fun i _ _ => g12 39 i (by omega)) (fun i i0 i1 => g11 i (by omega) (by omega)), g9, t2, ⟨g5, g6⟩, fun hp => g10 (fun t t0 t1 => ?_), fun k i hk h39 => by rw [g12 k i hk, fc 0 k i (by omega)], fun i hi => by rw [g13 i hi, fc 0 10 i (by omega)], fun i i0 i1 ia ib => by rw [g11 i ia ib, f45 i (by omega)]⟩
      rw [fc 0 10 _ (by omega), f45 _ (by omega)]
      exact hp t t0 t1
  · rw [if_neg h0, if_neg h0]
    unfold f91_1
    simp only [zs_a]
    have ek : ∀ k, z_upd (z_upd (z_upd c1 4 41 3 0) 4 41 4 0) 4 41 5 (-1) 0 k = c1 0 k := fun k => by rw [zu_g _ _ _ (by decide), zu_g _ _ _ (by decide), zu_g _ _ _ (by decide)]
    have ew : z_upd r1 4 44 5 0 4 45 = r1 4 45 := zu_k _ _ _ (by decide)
    refine ⟨by first | rfl | trivial, ?_, ?_, ⟨?_, fun i i0 i1 => ?_⟩, ⟨?_, ?_⟩, fun hp t t0 t1 => ?_, fun k i _ hk => ?_, fun i _ => ?_, fun i i0 i1 _ _ => ?_⟩
    · try dsimp only
      rw [ew]
      exact se.of (fun i _ _ => by rw [ek]) (fun i _ _ => rfl)
    · try dsimp only
      rw [ew, show z_upd (z_upd (z_upd c1 4 41 3 0) 4 41 4 0) 4 41 5 (-1) 0 = c1 0 from funext ek]
      exact cr
    · try dsimp only
      rw [zu_row, fu_i _ _ (by decide), zu_row, fu_i _ _ (by decide), zu_row, fu_s, zu_row, fu_s]
    · try dsimp only at i1
      rw [zu_row, fu_i _ _ (by decide), zu_row, fu_i _ _ (by decide), zu_row, fu_s] at i1
      omega
    · try dsimp only
      rw [zu_row, fu_i _ _ (by decide), zu_row, fu_s, zu_row, fu_i _ _ (by decide), fr 4 44 6 (by omega), zu_row, fu_i _ _ (by decide), zu_row, fu_s]
    · try dsimp only
      rw [zu_row, fu_s, zu_row, fu_i _ _ (by decide), fr 4 44 7 (by omega), zu_row, fu_s]
    · try dsimp only
      rw [ek, ew, fc 0 10 _ (by omega), f45 _ (by omega)]
      exact hp t t0 t1
    · try dsimp only
      rw [ek, fc 0 k i (by omega)]
    · try dsimp only
      rw [ek, fc 0 10 i (by omega)]
    · try dsimp only
      rw [ew, f45 i (by omega)]
