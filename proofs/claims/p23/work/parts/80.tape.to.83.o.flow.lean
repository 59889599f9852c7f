section
/-! The tape, the fault and the calendar's text on both sides. -/
theorem tE_byte (z : Int) : tE (zand z 255) (w8 z) := by
  have h1 : zand z 255 = z % 256 := by
    have e0 : zand z 255 = (Int32.ofInt z &&& Int32.ofInt 255).toBitVec.toInt := rfl
    have e1 : (Int32.ofInt z &&& Int32.ofInt 255).toBitVec.toNat = (Int32.ofInt z).toBitVec.toNat &&& (Int32.ofInt 255).toBitVec.toNat := BitVec.toNat_and _ _
    have e2 : (Int32.ofInt 255).toBitVec.toNat = 2 ^ 8 - 1 := by decide
    have e3 : (Int32.ofInt z).toBitVec.toNat = (z % 4294967296).toNat := BitVec.toNat_ofInt (n := 32) z
    rw [e2, Nat.and_two_pow_sub_one_eq_mod, e3] at e1
    rw [e0, BitVec.toInt_eq_toNat_cond, e1]
    have e4 : (z % 4294967296).toNat % 2 ^ 8 < 256 := Nat.mod_lt _ (by decide)
    rw [if_pos (by omega)]
    omega
  have h2 : w8 z = z.bmod 256 := by
    have e0 : w8 z = (Int32.ofInt z).toInt.bmod (2 ^ 8) := Int32.toInt_toInt8 _
    rw [e0, Int32.toInt_ofInt]
    exact Int.bmod_bmod_of_dvd (n := 256) (m := 4294967296) (by decide)
  rw [h1, h2, Int.bmod_def]
  unfold tE
  split <;> omega
/-- the tape -/
def TA (c r : zM) : Prop := c 4 41 3 = r 4 44 5 ∧ ∀ i : Int, 0 ≤ i → i < c 4 41 3 → tE (c 4 42 i) (r 4 48 i)
theorem TA.put {c r : zM} (h : TA c r) (h0 : 0 ≤ c 4 41 3) {x y : Int} (hxy : tE x y) : TA (z_upd (z_upd c 4 42 (c 4 41 3) x) 4 41 3 (z_upd c 4 42 (c 4 41 3) x 4 41 3 + 1)) (z_upd (z_upd r 4 48 (r 4 44 5) y) 4 44 5 (z_upd r 4 48 (r 4 44 5) y 4 44 5 + 1)) := by
  obtain ⟨h1, h2⟩ := h
  have e1 : z_upd c 4 42 (c 4 41 3) x 4 41 3 = c 4 41 3 := by rw [zu_k _ _ _ (by decide)]
  have e2 : z_upd r 4 48 (r 4 44 5) y 4 44 5 = r 4 44 5 := by rw [zu_k _ _ _ (by decide)]
  rw [e1, e2]
  refine ⟨?_, fun i i0 i1 => ?_⟩
  · rw [zu_row, zu_row, fu_s, fu_s, h1]
  · rw [zu_row, fu_s] at i1
    rw [zu_k _ _ _ (show (42 : Nat) ≠ 41 by decide), zu_k _ _ _ (show (48 : Nat) ≠ 44 by decide), zu_row, zu_row]
    by_cases e : i = c 4 41 3
    · rw [e, fu_s, h1, fu_s]
      exact hxy
    · rw [fu_i _ _ e, fu_i _ _ (by omega)]
      exact h2 i i0 (by omega)
theorem put_T {c r : zM} (h : TA c r) (h0 : 0 ≤ c 4 41 3) (h1 : c 4 41 3 ≤ 296) (a : Int) : TA (f87_1 a c) (f257_1 a r) ∧ f87_1 a c 4 41 3 = c 4 41 3 + 4 := by
  unfold f87_1 f257_1
  simp only [zn_a, zs_a]
  rw [if_neg (by omega)]
  have l1 := h.put h0 (tE_byte (zushr a 24))
  have n1 : z_upd (z_upd c 4 42 (c 4 41 3) (zand (zushr a 24) 255)) 4 41 3 (z_upd c 4 42 (c 4 41 3) (zand (zushr a 24) 255) 4 41 3 + 1) 4 41 3 = c 4 41 3 + 1 := by
    rw [zu_row, fu_s, zu_k _ _ _ (by decide)]
  generalize z_upd (z_upd c 4 42 (c 4 41 3) (zand (zushr a 24) 255)) 4 41 3 (z_upd c 4 42 (c 4 41 3) (zand (zushr a 24) 255) 4 41 3 + 1) = c1 at l1 n1 ⊢
  generalize z_upd (z_upd r 4 48 (r 4 44 5) (w8 (zushr a 24))) 4 44 5 (z_upd r 4 48 (r 4 44 5) (w8 (zushr a 24)) 4 44 5 + 1) = r1 at l1 ⊢
  rw [if_neg (by omega)]
  have l2 := l1.put (by omega) (tE_byte (zushr a (24 + -8)))
  have n2 : z_upd (z_upd c1 4 42 (c1 4 41 3) (zand (zushr a (24 + -8)) 255)) 4 41 3 (z_upd c1 4 42 (c1 4 41 3) (zand (zushr a (24 + -8)) 255) 4 41 3 + 1) 4 41 3 = c 4 41 3 + 2 := by
    rw [zu_row, fu_s, zu_k _ _ _ (by decide)]
    omega
  generalize z_upd (z_upd c1 4 42 (c1 4 41 3) (zand (zushr a (24 + -8)) 255)) 4 41 3 (z_upd c1 4 42 (c1 4 41 3) (zand (zushr a (24 + -8)) 255) 4 41 3 + 1) = c2 at l2 n2 ⊢
  generalize z_upd (z_upd r1 4 48 (r1 4 44 5) (w8 (zushr a (24 + -8)))) 4 44 5 (z_upd r1 4 48 (r1 4 44 5) (w8 (zushr a (24 + -8))) 4 44 5 + 1) = r2 at l2 ⊢
  rw [if_neg (by omega)]
  have l3 := l2.put (by omega) (tE_byte (zushr a (24 + -8 + -8)))
  have n3 : z_upd (z_upd c2 4 42 (c2 4 41 3) (zand (zushr a (24 + -8 + -8)) 255)) 4 41 3 (z_upd c2 4 42 (c2 4 41 3) (zand (zushr a (24 + -8 + -8)) 255) 4 41 3 + 1) 4 41 3 = c 4 41 3 + 3 := by
    rw [zu_row, fu_s, zu_k _ _ _ (by decide)]
    omega
  generalize z_upd (z_upd c2 4 42 (c2 4 41 3) (zand (zushr a (24 + -8 + -8)) 255)) 4 41 3 (z_upd c2 4 42 (c2 4 41 3) (zand (zushr a (24 + -8 + -8)) 255) 4 41 3 + 1) = c3 at l3 n3 ⊢
  generalize z_upd (z_upd r2 4 48 (r2 4 44 5) (w8 (zushr a (24 + -8 + -8)))) 4 44 5 (z_upd r2 4 48 (r2 4 44 5) (w8 (zushr a (24 + -8 + -8))) 4 44 5 + 1) = r3 at l3 ⊢
  rw [if_neg (by omega)]
  have l4 := l3.put (by omega) (tE_byte (zushr a (24 + -8 + -8 + -8)))
  refine ⟨l4, ?_⟩
  rw [zu_row, fu_s, zu_k _ _ _ (by decide)]
  omega
theorem feed_T {c r : zM} {B a b d e f : Int} (hc : OM B c) (h : TA c r) : (f85_1 a b d e f c).1 = (f256_1 a b d e f r).1 ∧ TA (f85_1 a b d e f c).2 (f256_1 a b d e f r).2 := by
  have hl : 0 ≤ c 4 41 3 ∧ c 4 41 3 ≤ 300 := r41_3 hc.2.o 4
  have hl1 := h.1
  unfold f85_1 f256_1
  by_cases h0 : 300 < c 4 41 3 + 20
  · rw [if_pos h0, if_neg (by omega)]
    exact ⟨rfl, h⟩
  rw [if_neg h0, if_pos (by omega)]
  simp only [zs_a]
  obtain ⟨t1, n1⟩ := put_T h (by omega) (by omega) a
  generalize f87_1 a c = c1 at t1 n1 ⊢
  generalize f257_1 a r = r1 at t1 ⊢
  obtain ⟨t2, n2⟩ := put_T t1 (by omega) (by omega) b
  generalize f87_1 b c1 = c2 at t2 n2 ⊢
  generalize f257_1 b r1 = r2 at t2 ⊢
  obtain ⟨t3, n3⟩ := put_T t2 (by omega) (by omega) d
  generalize f87_1 d c2 = c3 at t3 n3 ⊢
  generalize f257_1 d r2 = r3 at t3 ⊢
  obtain ⟨t4, n4⟩ := put_T t3 (by omega) (by omega) e
  generalize f87_1 e c3 = c4 at t4 n4 ⊢
  generalize f257_1 e r3 = r4 at t4 ⊢
  obtain ⟨t5, n5⟩ := put_T t4 (by omega) (by omega) f
  exact ⟨t5.1, t5⟩
theorem end_T {c r : zM} {a : Int} (h : TA c r) : (f88_1 a c).1 = (f258_1 a r).1 ∧ TA (f88_1 a c).2 (f258_1 a r).2 := by
  unfold f88_1 f89_1 f258_1
  simp only [zb_a, zs_a, h.1]
  by_cases h0 : a < 0
  · rw [if_pos h0, if_pos h0]
    exact ⟨rfl, h⟩
  rw [if_neg h0, if_neg h0]
  by_cases h1 : a ≤ r 4 44 5
  · rw [if_pos h1, if_pos h1]
    refine ⟨by first | rfl | trivial, ?_, fun i i0 i1 => ?_⟩
    · try dsimp only
      rw [zu_row, zu_row, fu_s, fu_s]
    · try dsimp only at i1 ⊢
      rw [zu_row, fu_s] at i1
      rw [zu_k _ _ _ (show (42 : Nat) ≠ 41 by decide), zu_k _ _ _ (show (48 : Nat) ≠ 44 by decide)]
      exact h.2 i i0 (by rw [h.1]; omega)
  · rw [if_neg h1, if_neg h1]
    exact ⟨rfl, h⟩
/-- the fault -/
def FT (c r : zM) : Prop := c 4 41 4 = r 4 44 6 ∧ c 4 41 5 = r 4 44 7
theorem fault_T {c r : zM} {a : Int} (h : FT c r) : f113_1 a c = f259_1 a r := by
  unfold f113_1 f259_1
  simp only [zn_a]
  rw [h.1, h.2]
  try (split <;> rfl)
/-- calendar: what it answers, what it leaves -/
theorem calendar_T {c r : zM} {B : Int} (hc : OM B c) (hr : OM B r) (hB : B + 1 ≤ 1000000000) (hs : SE B (c 0) (r 4 45)) (h : CR (c 0) (r 4 45)) (ht : TA c r) :
    (f90_1 c).1 = (f260_1 r).1 ∧ SE (B + 1) ((f90_1 c).2 0) ((f260_1 r).2 4 45) ∧ CR ((f90_1 c).2 0) ((f260_1 r).2 4 45) ∧ TA (f90_1 c).2 (f260_1 r).2 ∧ FT (f90_1 c).2 (f260_1 r).2 ∧
      ((∀ t, 0 ≤ t → t < 4 → c 0 10 (6 + t) = r 4 45 (28 + t)) → ∀ t, 0 ≤ t → t < 4 → (f90_1 c).2 0 10 (6 + t) = (f260_1 r).2 4 45 (28 + t)) ∧
      (∀ k i, (k < 10 ∨ 18 < k) → k ≠ 39 → (f90_1 c).2 0 k i = c 0 k i) ∧ (∀ i, (i < 6 ∨ 9 < i) → (f90_1 c).2 0 10 i = c 0 10 i) ∧
      (∀ i : Int, 0 ≤ i → i < 1618 → (i < 28 ∨ 31 < i) → (i < 287 ∨ 787 < i) → (f260_1 r).2 4 45 i = r 4 45 i) := by
  have o1 : OM B (z_upd (z_upd r 4 44 6 0) 4 44 7 (-1)) := u44_7 (u44_6 hr (by omega)) (by omega)
  have e45 : z_upd (z_upd r 4 44 6 0) 4 44 7 (-1) 4 45 = r 4 45 := by rw [zu_k _ _ _ (by decide), zu_k _ _ _ (by decide)]
  obtain ⟨v, c1, r1, e1, e2, hv, oc, ro, se, cr, fc, fr⟩ := shut_R hc o1 hB (by rw [e45]; exact hs) (by rw [e45]; exact h)
  have f45 : ∀ i, i ≠ 1618 → r1 4 45 i = r 4 45 i := fun i hi => by rw [fr 4 45 i (by omega), e45]
  have ta : TA c1 r1 := by
    unfold TA
    rw [fc 4 41 3 (by omega), fr 4 44 5 (by omega), show c1 4 42 = c 4 42 from funext fun i => fc 4 42 i (by omega), show r1 4 48 = r 4 48 from funext fun i => by rw [fr 4 48 i (by omega), zu_k _ _ _ (by decide), zu_k _ _ _ (by decide)], zu_row, fu_i _ _ (by decide), zu_row, fu_i _ _ (by decide)]
    exact ht
  unfold f90_1 f260_1
  simp only [zs_a]
  rw [e1, e2]
  simp only [zb_a]
  by_cases h0 : v = 0
  · rw [if_pos h0, if_pos h0]
    obtain ⟨x, c2, r2, g1, g2, g3, g4, g5, g6, g7⟩ := load_open oc.1 oc.2 ro.1 ro.2 (by omega) ta.1 ta.2 (by rw [fr 4 44 6 (by omega), zu_row, fu_i _ _ (by decide), zu_row, fu_s]) (by rw [fr 4 44 7 (by omega), zu_row, fu_s])
    unfold ldC at g1
    unfold ldR at g2
    simp only [zb_a, zs_a] at g1 g2
    rw [g1, g2]
    try dsimp only
    have t2 : TA c2 r2 := ⟨by rw [g3, g4], fun i i0 i1 => by omega⟩
    rcases g7 with ⟨g8, g9, g10⟩ | ⟨g8, g9, g10, g11, g12, g13⟩
    · refine ⟨by first | rfl | trivial, se.of (fun i _ _ => g9 39 i) (fun i i0 i1 => g10 i (by omega) (by omega)), ?_, t2, ⟨g5, g6⟩, fun hp t t0 t1 => ?_, fun k i _ hk => by rw [g9 k i, fc 0 k i (by omega)], fun i _ => by rw [g9 10 i, fc 0 10 i (by omega)], fun i i0 i1 _ _ => by rw [g10 i i0 (by omega), f45 i (by omega)]⟩
      · rw [show c2 0 = c1 0 from funext fun k => funext fun i => g9 k i]
        exact cr.w (CB.of oc.2 0) (fun i i0 i1 => g10 i (by omega) (by omega))
      · rw [g9 10, fc 0 10 _ (by omega), g10 _ (by omega) (by omega), f45 _ (by omega)]
        exact hp t t0 t1
    · refine ⟨by first | rfl | trivial, se.of (fun i _ _ => g12 39 i (by omega)) (fun i i0 i1 => g11 i (by omega) (by omega)), g9, t2, ⟨g5, g6⟩, fun hp => g10 (fun t t0 t1 => ?_), fun k i hk h39 => by rw [g12 k i hk, fc 0 k i (by omega)], fun i hi => by rw [g13 i hi, fc 0 10 i (by omega)], fun i i0 i1 ia ib => by rw [g11 i ia ib, f45 i (by omega)]⟩
      rw [fc 0 10 _ (by omega), f45 _ (by omega)]
      exact hp t t0 t1
  · rw [if_neg h0, if_neg h0]
    unfold f91_1
    simp only [zs_a]
    have ek : ∀ k, z_upd (z_upd (z_upd c1 4 41 3 0) 4 41 4 0) 4 41 5 (-1) 0 k = c1 0 k := fun k => by rw [zu_g _ _ _ (by decide), zu_g _ _ _ (by decide), zu_g _ _ _ (by decide)]
    have ew : z_upd r1 4 44 5 0 4 45 = r1 4 45 := zu_k _ _ _ (by decide)
    refine ⟨by first | rfl | trivial, ?_, ?_, ⟨?_, fun i i0 i1 => ?_⟩, ⟨?_, ?_⟩, fun hp t t0 t1 => ?_, fun k i _ hk => ?_, fun i _ => ?_, fun i i0 i1 _ _ => ?_⟩
    · try dsimp only
      rw [ew]
      exact se.of (fun i _ _ => by rw [ek]) (fun i _ _ => rfl)
    · try dsimp only
      rw [ew, show z_upd (z_upd (z_upd c1 4 41 3 0) 4 41 4 0) 4 41 5 (-1) 0 = c1 0 from funext ek]
      exact cr
    · try dsimp only
      rw [zu_row, fu_i _ _ (by decide), zu_row, fu_i _ _ (by decide), zu_row, fu_s, zu_row, fu_s]
    · try dsimp only at i1
      rw [zu_row, fu_i _ _ (by decide), zu_row, fu_i _ _ (by decide), zu_row, fu_s] at i1
      omega
    · try dsimp only
      rw [zu_row, fu_i _ _ (by decide), zu_row, fu_s, zu_row, fu_i _ _ (by decide), fr 4 44 6 (by omega), zu_row, fu_i _ _ (by decide), zu_row, fu_s]
    · try dsimp only
      rw [zu_row, fu_s, zu_row, fu_i _ _ (by decide), fr 4 44 7 (by omega), zu_row, fu_s]
    · try dsimp only
      rw [ek, ew, fc 0 10 _ (by omega), f45 _ (by omega)]
      exact hp t t0 t1
    · try dsimp only
      rw [ek, fc 0 k i (by omega)]
    · try dsimp only
      rw [ek, fc 0 10 i (by omega)]
    · try dsimp only
      rw [ew, f45 i (by omega)]
end
section
/-! Two sides that agree in a part of the state. -/
theorem jf_in {l : List (Int × Int × Int × Int)} {i : Int} {q : Int × Int} : jf l i = some q → ∃ x, x ∈ l ∧ x.2.2 = q := by
  induction l with
  | nil => intro h; cases h
  | cons y r ih =>
    intro h
    unfold jf at h
    split at h
    · exact ⟨y, List.mem_cons_self, Option.some.inj h⟩
    · obtain ⟨x, h1, h2⟩ := ih h
      exact ⟨x, List.mem_cons_of_mem _ h1, h2⟩
/-- a whole row is as it was -/
theorem J.row {L G : List Nat} {B : Int} {m0 m : zM} (h : J (zQ L G) m0 B m) (k : Nat) (hk : ((jp k).all fun x => !L.contains x.2.2.1.toNat) = true) (h0 : L.contains 0 = false) (g : Nat) : m g k = m0 g k := by
  funext i
  refine jx h (ja k i) rfl ?_
  unfold ja
  split
  · rename_i q e
    obtain ⟨x, h1, h2⟩ := jf_in e
    have h3 := List.all_eq_true.mp hk x h1
    rw [h2] at h3
    exact (Bool.not_eq_true' _).mp h3
  · exact h0
def fcl : List (Nat × Nat × Int × Int) := [(11, 8, 9, 9), (12, 8, 10, 12), (13, 8, 13, 15), (3, 10, 0, 12), (1, 11, 7, 7), (1, 12, 0, 7), (1, 13, 0, 47), (1, 14, 0, 47), (1, 15, 0, 3), (1, 16, 0, 27), (1, 17, 0, 15), (1, 18, 0, 15), (2, 19, 3, 6), (2, 20, 0, 47), (2, 21, 0, 47), (2, 22, 0, 15), (5, 23, 3, 3), (10, 24, 0, 27), (5, 25, 0, 27), (5, 26, 0, 197), (7, 27, 2, 9), (7, 28, 0, 383), (7, 29, 0, 3), (8, 30, 2, 3), (8, 31, 0, 3), (8, 32, 0, 3), (9, 33, 3, 3), (9, 34, 0, 4), (9, 35, 0, 4), (9, 36, 0, 4), (6, 37, 1, 1), (6, 38, 0, 119), (4, 39, 0, 4)]
theorem fcl_ja : ∀ x, x ∈ fcl → ∀ i, x.2.2.1 ≤ i → i ≤ x.2.2.2 → ja x.2.1 i = x.1 := by
  intro x hx i h0 h1
  simp only [fcl, List.mem_cons, List.not_mem_nil, or_false] at hx
  rcases hx with rfl | rfl | rfl | rfl | rfl | rfl | rfl | rfl | rfl | rfl | rfl | rfl | rfl | rfl | rfl | rfl | rfl | rfl | rfl | rfl | rfl | rfl | rfl | rfl | rfl | rfl | rfl | rfl | rfl | rfl | rfl | rfl | rfl
  · exact ja8_0 ⟨by (try dsimp only at h0 h1); omega, by (try dsimp only at h0 h1); omega⟩
  · exact ja8_10 ⟨by (try dsimp only at h0 h1); omega, by (try dsimp only at h0 h1); omega⟩
  · exact ja8_13 ⟨by (try dsimp only at h0 h1); omega, by (try dsimp only at h0 h1); omega⟩
  · exact ja10_0 ⟨by (try dsimp only at h0 h1); omega, by (try dsimp only at h0 h1); omega⟩
  · exact ja11_0 ⟨by (try dsimp only at h0 h1); omega, by (try dsimp only at h0 h1); omega⟩
  · exact ja12_0 ⟨by (try dsimp only at h0 h1); omega, by (try dsimp only at h0 h1); omega⟩
  · exact ja13_0 ⟨by (try dsimp only at h0 h1); omega, by (try dsimp only at h0 h1); omega⟩
  · exact ja14_0 ⟨by (try dsimp only at h0 h1); omega, by (try dsimp only at h0 h1); omega⟩
  · exact ja15_0 ⟨by (try dsimp only at h0 h1); omega, by (try dsimp only at h0 h1); omega⟩
  · exact ja16_0 ⟨by (try dsimp only at h0 h1); omega, by (try dsimp only at h0 h1); omega⟩
  · exact ja17_0 ⟨by (try dsimp only at h0 h1); omega, by (try dsimp only at h0 h1); omega⟩
  · exact ja18_0 ⟨by (try dsimp only at h0 h1); omega, by (try dsimp only at h0 h1); omega⟩
  · exact ja19_0 ⟨by (try dsimp only at h0 h1); omega, by (try dsimp only at h0 h1); omega⟩
  · exact ja20_0 ⟨by (try dsimp only at h0 h1); omega, by (try dsimp only at h0 h1); omega⟩
  · exact ja21_0 ⟨by (try dsimp only at h0 h1); omega, by (try dsimp only at h0 h1); omega⟩
  · exact ja22_0 ⟨by (try dsimp only at h0 h1); omega, by (try dsimp only at h0 h1); omega⟩
  · exact ja23_0 ⟨by (try dsimp only at h0 h1); omega, by (try dsimp only at h0 h1); omega⟩
  · exact ja24_0 ⟨by (try dsimp only at h0 h1); omega, by (try dsimp only at h0 h1); omega⟩
  · exact ja25_0 ⟨by (try dsimp only at h0 h1); omega, by (try dsimp only at h0 h1); omega⟩
  · exact ja26_0 ⟨by (try dsimp only at h0 h1); omega, by (try dsimp only at h0 h1); omega⟩
  · exact ja27_0 ⟨by (try dsimp only at h0 h1); omega, by (try dsimp only at h0 h1); omega⟩
  · exact ja28_0 ⟨by (try dsimp only at h0 h1); omega, by (try dsimp only at h0 h1); omega⟩
  · exact ja29_0 ⟨by (try dsimp only at h0 h1); omega, by (try dsimp only at h0 h1); omega⟩
  · exact ja30_0 ⟨by (try dsimp only at h0 h1); omega, by (try dsimp only at h0 h1); omega⟩
  · exact ja31_0 ⟨by (try dsimp only at h0 h1); omega, by (try dsimp only at h0 h1); omega⟩
  · exact ja32_0 ⟨by (try dsimp only at h0 h1); omega, by (try dsimp only at h0 h1); omega⟩
  · exact ja33_0 ⟨by (try dsimp only at h0 h1); omega, by (try dsimp only at h0 h1); omega⟩
  · exact ja34_0 ⟨by (try dsimp only at h0 h1); omega, by (try dsimp only at h0 h1); omega⟩
  · exact ja35_0 ⟨by (try dsimp only at h0 h1); omega, by (try dsimp only at h0 h1); omega⟩
  · exact ja36_0 ⟨by (try dsimp only at h0 h1); omega, by (try dsimp only at h0 h1); omega⟩
  · exact ja37_0 ⟨by (try dsimp only at h0 h1); omega, by (try dsimp only at h0 h1); omega⟩
  · exact ja38_0 ⟨by (try dsimp only at h0 h1); omega, by (try dsimp only at h0 h1); omega⟩
  · exact ja39_0 ⟨by (try dsimp only at h0 h1); omega, by (try dsimp only at h0 h1); omega⟩
/-- c' is as c in part n -/
def FE (n : Nat) (c c' : Nat → Int → Int) : Prop := ∀ x, x ∈ fcl → x.1 = n → ∀ i, x.2.2.1 ≤ i → i ≤ x.2.2.2 → c' x.2.1 i = c x.2.1 i
def FW (n : Nat) (w w' : Int → Int) : Prop := ∀ i, 0 ≤ i → i ≤ 1618 → ja 45 i = n + 20 → w' i = w i
theorem FE.j {L G : List Nat} {B : Int} {m0 m : zM} (h : J (zQ L G) m0 B m) (g n : Nat) (hL : L.contains n = false) : FE n (m0 g) (m g) := fun x hx e i h0 h1 => jx h n (by rw [← e]; exact fcl_ja x hx i h0 h1) hL
theorem FE.g {L G : List Nat} {B : Int} {m0 m : zM} (h : J (zQ L G) m0 B m) (g n : Nat) (hG : G.contains g = false) : FE n (m0 g) (m g) := fun x _ _ i _ _ => by rw [jy h hG]
theorem FE.rf (n : Nat) (c : Nat → Int → Int) : FE n c c := fun _ _ _ _ _ _ => rfl
theorem FE.trans {n : Nat} {a b c : Nat → Int → Int} (h : FE n a b) (h' : FE n b c) : FE n a c := fun x hx e i h0 h1 => (h' x hx e i h0 h1).trans (h x hx e i h0 h1)
theorem FW.j {L G : List Nat} {B : Int} {m0 m : zM} (h : J (zQ L G) m0 B m) (g n : Nat) (hL : L.contains (n + 20) = false) : FW n (m0 g 45) (m g 45) := fun i _ _ e => jx h (n + 20) e hL
theorem FW.all {w w' : Int → Int} (h : ∀ i, 0 ≤ i → i ≤ 1618 → w' i = w i) (n : Nat) : FW n w w' := fun i h0 h1 _ => h i h0 h1
theorem FW.rf (n : Nat) (w : Int → Int) : FW n w w := fun _ _ _ _ => rfl
theorem FW.trans {n : Nat} {a b c : Int → Int} (h : FW n a b) (h' : FW n b c) : FW n a c := fun i h0 h1 e => (h' i h0 h1 e).trans (h i h0 h1 e)
section
variable {c c' : Nat → Int → Int}
theorem FE.p8_9 (h : FE 11 c c') : c' 8 9 = c 8 9 := h (11, 8, 9, 9) (List.mem_of_getElem? (i := 0) rfl) rfl 9 (Int.le_refl _) (Int.le_refl _)
theorem FE.p8_10 (h : FE 12 c c') (i : Int) (h0 : 10 ≤ i) (h1 : i ≤ 12) : c' 8 i = c 8 i := h (12, 8, 10, 12) (List.mem_of_getElem? (i := 1) rfl) rfl i h0 h1
theorem FE.p8_13 (h : FE 13 c c') (i : Int) (h0 : 13 ≤ i) (h1 : i ≤ 15) : c' 8 i = c 8 i := h (13, 8, 13, 15) (List.mem_of_getElem? (i := 2) rfl) rfl i h0 h1
theorem FE.p10_0 (h : FE 3 c c') (i : Int) (h0 : 0 ≤ i) (h1 : i ≤ 12) : c' 10 i = c 10 i := h (3, 10, 0, 12) (List.mem_of_getElem? (i := 3) rfl) rfl i h0 h1
theorem FE.p11_7 (h : FE 1 c c') : c' 11 7 = c 11 7 := h (1, 11, 7, 7) (List.mem_of_getElem? (i := 4) rfl) rfl 7 (Int.le_refl _) (Int.le_refl _)
theorem FE.p12_0 (h : FE 1 c c') (i : Int) (h0 : 0 ≤ i) (h1 : i ≤ 7) : c' 12 i = c 12 i := h (1, 12, 0, 7) (List.mem_of_getElem? (i := 5) rfl) rfl i h0 h1
theorem FE.p13_0 (h : FE 1 c c') (i : Int) (h0 : 0 ≤ i) (h1 : i ≤ 47) : c' 13 i = c 13 i := h (1, 13, 0, 47) (List.mem_of_getElem? (i := 6) rfl) rfl i h0 h1
theorem FE.p14_0 (h : FE 1 c c') (i : Int) (h0 : 0 ≤ i) (h1 : i ≤ 47) : c' 14 i = c 14 i := h (1, 14, 0, 47) (List.mem_of_getElem? (i := 7) rfl) rfl i h0 h1
theorem FE.p15_0 (h : FE 1 c c') (i : Int) (h0 : 0 ≤ i) (h1 : i ≤ 3) : c' 15 i = c 15 i := h (1, 15, 0, 3) (List.mem_of_getElem? (i := 8) rfl) rfl i h0 h1
theorem FE.p16_0 (h : FE 1 c c') (i : Int) (h0 : 0 ≤ i) (h1 : i ≤ 27) : c' 16 i = c 16 i := h (1, 16, 0, 27) (List.mem_of_getElem? (i := 9) rfl) rfl i h0 h1
theorem FE.p17_0 (h : FE 1 c c') (i : Int) (h0 : 0 ≤ i) (h1 : i ≤ 15) : c' 17 i = c 17 i := h (1, 17, 0, 15) (List.mem_of_getElem? (i := 10) rfl) rfl i h0 h1
theorem FE.p18_0 (h : FE 1 c c') (i : Int) (h0 : 0 ≤ i) (h1 : i ≤ 15) : c' 18 i = c 18 i := h (1, 18, 0, 15) (List.mem_of_getElem? (i := 11) rfl) rfl i h0 h1
theorem FE.p19_3 (h : FE 2 c c') (i : Int) (h0 : 3 ≤ i) (h1 : i ≤ 6) : c' 19 i = c 19 i := h (2, 19, 3, 6) (List.mem_of_getElem? (i := 12) rfl) rfl i h0 h1
theorem FE.p20_0 (h : FE 2 c c') (i : Int) (h0 : 0 ≤ i) (h1 : i ≤ 47) : c' 20 i = c 20 i := h (2, 20, 0, 47) (List.mem_of_getElem? (i := 13) rfl) rfl i h0 h1
theorem FE.p21_0 (h : FE 2 c c') (i : Int) (h0 : 0 ≤ i) (h1 : i ≤ 47) : c' 21 i = c 21 i := h (2, 21, 0, 47) (List.mem_of_getElem? (i := 14) rfl) rfl i h0 h1
theorem FE.p22_0 (h : FE 2 c c') (i : Int) (h0 : 0 ≤ i) (h1 : i ≤ 15) : c' 22 i = c 22 i := h (2, 22, 0, 15) (List.mem_of_getElem? (i := 15) rfl) rfl i h0 h1
theorem FE.p23_3 (h : FE 5 c c') : c' 23 3 = c 23 3 := h (5, 23, 3, 3) (List.mem_of_getElem? (i := 16) rfl) rfl 3 (Int.le_refl _) (Int.le_refl _)
theorem FE.p24_0 (h : FE 10 c c') (i : Int) (h0 : 0 ≤ i) (h1 : i ≤ 27) : c' 24 i = c 24 i := h (10, 24, 0, 27) (List.mem_of_getElem? (i := 17) rfl) rfl i h0 h1
theorem FE.p25_0 (h : FE 5 c c') (i : Int) (h0 : 0 ≤ i) (h1 : i ≤ 27) : c' 25 i = c 25 i := h (5, 25, 0, 27) (List.mem_of_getElem? (i := 18) rfl) rfl i h0 h1
theorem FE.p26_0 (h : FE 5 c c') (i : Int) (h0 : 0 ≤ i) (h1 : i ≤ 197) : c' 26 i = c 26 i := h (5, 26, 0, 197) (List.mem_of_getElem? (i := 19) rfl) rfl i h0 h1
theorem FE.p27_2 (h : FE 7 c c') (i : Int) (h0 : 2 ≤ i) (h1 : i ≤ 9) : c' 27 i = c 27 i := h (7, 27, 2, 9) (List.mem_of_getElem? (i := 20) rfl) rfl i h0 h1
theorem FE.p28_0 (h : FE 7 c c') (i : Int) (h0 : 0 ≤ i) (h1 : i ≤ 383) : c' 28 i = c 28 i := h (7, 28, 0, 383) (List.mem_of_getElem? (i := 21) rfl) rfl i h0 h1
theorem FE.p29_0 (h : FE 7 c c') (i : Int) (h0 : 0 ≤ i) (h1 : i ≤ 3) : c' 29 i = c 29 i := h (7, 29, 0, 3) (List.mem_of_getElem? (i := 22) rfl) rfl i h0 h1
theorem FE.p30_2 (h : FE 8 c c') (i : Int) (h0 : 2 ≤ i) (h1 : i ≤ 3) : c' 30 i = c 30 i := h (8, 30, 2, 3) (List.mem_of_getElem? (i := 23) rfl) rfl i h0 h1
theorem FE.p31_0 (h : FE 8 c c') (i : Int) (h0 : 0 ≤ i) (h1 : i ≤ 3) : c' 31 i = c 31 i := h (8, 31, 0, 3) (List.mem_of_getElem? (i := 24) rfl) rfl i h0 h1
theorem FE.p32_0 (h : FE 8 c c') (i : Int) (h0 : 0 ≤ i) (h1 : i ≤ 3) : c' 32 i = c 32 i := h (8, 32, 0, 3) (List.mem_of_getElem? (i := 25) rfl) rfl i h0 h1
theorem FE.p33_3 (h : FE 9 c c') : c' 33 3 = c 33 3 := h (9, 33, 3, 3) (List.mem_of_getElem? (i := 26) rfl) rfl 3 (Int.le_refl _) (Int.le_refl _)
theorem FE.p34_0 (h : FE 9 c c') (i : Int) (h0 : 0 ≤ i) (h1 : i ≤ 4) : c' 34 i = c 34 i := h (9, 34, 0, 4) (List.mem_of_getElem? (i := 27) rfl) rfl i h0 h1
theorem FE.p35_0 (h : FE 9 c c') (i : Int) (h0 : 0 ≤ i) (h1 : i ≤ 4) : c' 35 i = c 35 i := h (9, 35, 0, 4) (List.mem_of_getElem? (i := 28) rfl) rfl i h0 h1
theorem FE.p36_0 (h : FE 9 c c') (i : Int) (h0 : 0 ≤ i) (h1 : i ≤ 4) : c' 36 i = c 36 i := h (9, 36, 0, 4) (List.mem_of_getElem? (i := 29) rfl) rfl i h0 h1
theorem FE.p37_1 (h : FE 6 c c') : c' 37 1 = c 37 1 := h (6, 37, 1, 1) (List.mem_of_getElem? (i := 30) rfl) rfl 1 (Int.le_refl _) (Int.le_refl _)
theorem FE.p38_0 (h : FE 6 c c') (i : Int) (h0 : 0 ≤ i) (h1 : i ≤ 119) : c' 38 i = c 38 i := h (6, 38, 0, 119) (List.mem_of_getElem? (i := 31) rfl) rfl i h0 h1
theorem FE.p39_0 (h : FE 4 c c') (i : Int) (h0 : 0 ≤ i) (h1 : i ≤ 4) : c' 39 i = c 39 i := h (4, 39, 0, 4) (List.mem_of_getElem? (i := 32) rfl) rfl i h0 h1
end
/-- places of a list -/
def inP (l : List (Nat × Int × Int)) (k : Nat) (i : Int) : Prop := ∃ x, x ∈ l ∧ x.1 = k ∧ x.2.1 ≤ i ∧ i ≤ x.2.2
/-- just these places of group g0 were copied out of g1 -/
def CPY (g0 g1 : Nat) (l : List (Nat × Int × Int)) (m m' : zM) : Prop := (∀ g, g ≠ g0 → m' g = m g) ∧ (∀ k i, inP l k i → m' g0 k i = m g1 k i) ∧ (∀ k i, ¬ inP l k i → m' g0 k i = m g0 k i)
theorem CPY.rf (g0 g1 : Nat) (m : zM) : CPY g0 g1 [] m m := ⟨fun _ _ => rfl, fun k i h => absurd h (fun ⟨_, h, _⟩ => absurd h List.not_mem_nil), fun _ _ _ => rfl⟩
theorem CPY.trans {g0 g1 : Nat} (hg : g0 ≠ g1) {l l' : List (Nat × Int × Int)} {m a b : zM} (h : CPY g0 g1 l m a) (h' : CPY g0 g1 l' a b) : CPY g0 g1 (l ++ l') m b := by
  refine ⟨fun g hgg => (h'.1 g hgg).trans (h.1 g hgg), fun k i hp => ?_, fun k i hp => ?_⟩
  · by_cases h2 : inP l' k i
    · rw [h'.2.1 k i h2, h.1 g1 (fun e => hg e.symm)]
    · rw [h'.2.2 k i h2]
      refine h.2.1 k i ?_
      obtain ⟨x, hx, hq⟩ := hp
      rcases List.mem_append.mp hx with hx | hx
      · exact ⟨x, hx, hq⟩
      · exact absurd ⟨x, hx, hq⟩ h2
  · rw [h'.2.2 k i (fun e => hp (by obtain ⟨x, hx, hq⟩ := e; exact ⟨x, List.mem_append_right _ hx, hq⟩)), h.2.2 k i (fun e => hp (by obtain ⟨x, hx, hq⟩ := e; exact ⟨x, List.mem_append_left _ hx, hq⟩))]
theorem CPY.upd (m : zM) (g0 g1 k : Nat) (i : Int) : CPY g0 g1 [(k, i, i)] m (z_upd m g0 k i (m g1 k i)) := by
  refine ⟨fun g hg => zu_g _ _ _ hg, fun k' i' hp => ?_, fun k' i' hp => ?_⟩
  · obtain ⟨x, hx, h1, h2, h3⟩ := hp
    obtain rfl := List.mem_singleton.mp hx
    have e : i' = i := by (try dsimp only at h2 h3); omega
    subst h1
    subst e
    rw [zu_row, fu_s]
  · by_cases hk : k' = k
    · subst hk
      rw [zu_row, fu_i _ _ (fun e => hp ⟨(k', i, i), List.mem_singleton.mpr rfl, rfl, by rw [e]; exact Int.le_refl _, by rw [e]; exact Int.le_refl _⟩)]
    · rw [zu_k _ _ _ hk]
theorem CPY.cpy (m : zM) (g0 g1 k : Nat) (n : Int) : CPY g0 g1 [(k, 0, n - 1)] m (z_cpy m g0 k g1 k 0 0 n) := by
  refine ⟨fun g hg => funext fun k' => cpy_k _ (.inl hg), fun k' i' hp => ?_, fun k' i' hp => ?_⟩
  · obtain ⟨x, hx, h1, h2, h3⟩ := hp
    obtain rfl := List.mem_singleton.mp hx
    (try dsimp only at h1 h2 h3)
    subst h1
    rw [cpy_in _ (by omega), show i' - 0 + 0 = i' by omega]
  · by_cases hk : k' = k
    · subst hk
      exact cpy_out _ (fun e => hp ⟨(k', 0, n - 1), List.mem_singleton.mpr rfl, rfl, e.1, by (try dsimp only); omega⟩)
    · rw [cpy_k _ (.inr hk)]
theorem CPY.thn {g0 g1 : Nat} (hg : g0 ≠ g1) {l l' q : List (Nat × Int × Int)} {m a p : zM} {f : zM → zM} (h : CPY g0 g1 l m a) (h1 : CPY g0 g1 l' a p) (k : ∀ b, CPY g0 g1 (l ++ l') m b → CPY g0 g1 q m (f b)) : CPY g0 g1 q m (zs p f) := by
  rw [zs_a]
  exact k p (h.trans hg h1)
theorem f111_1_c {g0 g1 : Nat} (hg : g0 ≠ g1) (m : zM) : CPY g0 g1 [(12, 0, 7), (13, 0, 47), (14, 0, 47), (15, 0, 3), (16, 0, 27), (17, 0, 15), (18, 0, 15), (11, 7, 7)] m (f111_1 g0 g1 m) := by
  unfold f111_1
  refine CPY.thn hg (CPY.rf g0 g1 m) (CPY.cpy _ g0 g1 12 8) (fun m1 h1 => ?_)
  refine CPY.thn hg h1 (CPY.cpy _ g0 g1 13 48) (fun m2 h2 => ?_)
  refine CPY.thn hg h2 (CPY.cpy _ g0 g1 14 48) (fun m3 h3 => ?_)
  refine CPY.thn hg h3 (CPY.cpy _ g0 g1 15 4) (fun m4 h4 => ?_)
  refine CPY.thn hg h4 (CPY.cpy _ g0 g1 16 28) (fun m5 h5 => ?_)
  refine CPY.thn hg h5 (CPY.cpy _ g0 g1 17 16) (fun m6 h6 => ?_)
  refine CPY.thn hg h6 (CPY.cpy _ g0 g1 18 16) (fun m7 h7 => ?_)
  refine CPY.thn hg h7 (CPY.upd _ g0 g1 11 7) (fun m8 h8 => ?_)
  exact h8
theorem f173_1_c {g0 g1 : Nat} (hg : g0 ≠ g1) (m : zM) : CPY g0 g1 [(20, 0, 47), (21, 0, 47), (22, 0, 15), (19, 3, 3), (19, 4, 4), (19, 5, 5), (19, 6, 6)] m (f173_1 g0 g1 m) := by
  unfold f173_1
  refine CPY.thn hg (CPY.rf g0 g1 m) (CPY.cpy _ g0 g1 20 48) (fun m1 h1 => ?_)
  refine CPY.thn hg h1 (CPY.cpy _ g0 g1 21 48) (fun m2 h2 => ?_)
  refine CPY.thn hg h2 (CPY.cpy _ g0 g1 22 16) (fun m3 h3 => ?_)
  refine CPY.thn hg h3 (CPY.upd _ g0 g1 19 3) (fun m4 h4 => ?_)
  refine CPY.thn hg h4 (CPY.upd _ g0 g1 19 4) (fun m5 h5 => ?_)
  refine CPY.thn hg h5 (CPY.upd _ g0 g1 19 5) (fun m6 h6 => ?_)
  refine CPY.thn hg h6 (CPY.upd _ g0 g1 19 6) (fun m7 h7 => ?_)
  exact h7
theorem f175_1_c {g0 g1 : Nat} (hg : g0 ≠ g1) (m : zM) : CPY g0 g1 [(28, 0, 383), (29, 0, 3), (27, 2, 2), (27, 3, 3), (27, 4, 4), (27, 5, 5), (27, 6, 6), (27, 7, 7), (27, 8, 8), (27, 9, 9)] m (f175_1 g0 g1 m) := by
  unfold f175_1
  refine CPY.thn hg (CPY.rf g0 g1 m) (CPY.cpy _ g0 g1 28 384) (fun m1 h1 => ?_)
  refine CPY.thn hg h1 (CPY.cpy _ g0 g1 29 4) (fun m2 h2 => ?_)
  refine CPY.thn hg h2 (CPY.upd _ g0 g1 27 2) (fun m3 h3 => ?_)
  refine CPY.thn hg h3 (CPY.upd _ g0 g1 27 3) (fun m4 h4 => ?_)
  refine CPY.thn hg h4 (CPY.upd _ g0 g1 27 4) (fun m5 h5 => ?_)
  refine CPY.thn hg h5 (CPY.upd _ g0 g1 27 5) (fun m6 h6 => ?_)
  refine CPY.thn hg h6 (CPY.upd _ g0 g1 27 6) (fun m7 h7 => ?_)
  refine CPY.thn hg h7 (CPY.upd _ g0 g1 27 7) (fun m8 h8 => ?_)
  refine CPY.thn hg h8 (CPY.upd _ g0 g1 27 8) (fun m9 h9 => ?_)
  refine CPY.thn hg h9 (CPY.upd _ g0 g1 27 9) (fun m10 h10 => ?_)
  exact h10
theorem f171_1_c {g0 g1 : Nat} (hg : g0 ≠ g1) (m : zM) : CPY g0 g1 [(10, 0, 12), (12, 0, 7), (13, 0, 47), (14, 0, 47), (15, 0, 3), (16, 0, 27), (17, 0, 15), (18, 0, 15), (11, 7, 7), (20, 0, 47), (21, 0, 47), (22, 0, 15), (19, 3, 3), (19, 4, 4), (19, 5, 5), (19, 6, 6), (24, 0, 27), (25, 0, 27), (26, 0, 197), (23, 3, 3), (28, 0, 383), (29, 0, 3), (27, 2, 2), (27, 3, 3), (27, 4, 4), (27, 5, 5), (27, 6, 6), (27, 7, 7), (27, 8, 8), (27, 9, 9), (31, 0, 3), (32, 0, 3), (30, 2, 2), (30, 3, 3), (34, 0, 4), (35, 0, 4), (36, 0, 4), (33, 3, 3), (38, 0, 119), (37, 1, 1), (39, 0, 0), (39, 1, 1), (39, 2, 2), (39, 3, 3), (39, 4, 4), (8, 9, 9), (8, 10, 10), (8, 11, 11), (8, 12, 12), (8, 13, 13), (8, 14, 14), (8, 15, 15)] m (f171_1 g0 g1 m) := by
  unfold f171_1
  refine CPY.thn hg (CPY.rf g0 g1 m) (CPY.cpy _ g0 g1 10 13) (fun m1 h1 => ?_)
  refine CPY.thn hg h1 (f111_1_c hg _) (fun m2 h2 => ?_)
  refine CPY.thn hg h2 (f173_1_c hg _) (fun m3 h3 => ?_)
  refine CPY.thn hg h3 (CPY.cpy _ g0 g1 24 28) (fun m4 h4 => ?_)
  refine CPY.thn hg h4 (CPY.cpy _ g0 g1 25 28) (fun m5 h5 => ?_)
  refine CPY.thn hg h5 (CPY.cpy _ g0 g1 26 198) (fun m6 h6 => ?_)
  refine CPY.thn hg h6 (CPY.upd _ g0 g1 23 3) (fun m7 h7 => ?_)
  refine CPY.thn hg h7 (f175_1_c hg _) (fun m8 h8 => ?_)
  refine CPY.thn hg h8 (CPY.cpy _ g0 g1 31 4) (fun m9 h9 => ?_)
  refine CPY.thn hg h9 (CPY.cpy _ g0 g1 32 4) (fun m10 h10 => ?_)
  refine CPY.thn hg h10 (CPY.upd _ g0 g1 30 2) (fun m11 h11 => ?_)
  refine CPY.thn hg h11 (CPY.upd _ g0 g1 30 3) (fun m12 h12 => ?_)
  refine CPY.thn hg h12 (CPY.cpy _ g0 g1 34 5) (fun m13 h13 => ?_)
  refine CPY.thn hg h13 (CPY.cpy _ g0 g1 35 5) (fun m14 h14 => ?_)
  refine CPY.thn hg h14 (CPY.cpy _ g0 g1 36 5) (fun m15 h15 => ?_)
  refine CPY.thn hg h15 (CPY.upd _ g0 g1 33 3) (fun m16 h16 => ?_)
  refine CPY.thn hg h16 (CPY.cpy _ g0 g1 38 120) (fun m17 h17 => ?_)
  refine CPY.thn hg h17 (CPY.upd _ g0 g1 37 1) (fun m18 h18 => ?_)
  refine CPY.thn hg h18 (CPY.upd _ g0 g1 39 0) (fun m19 h19 => ?_)
  refine CPY.thn hg h19 (CPY.upd _ g0 g1 39 1) (fun m20 h20 => ?_)
  refine CPY.thn hg h20 (CPY.upd _ g0 g1 39 2) (fun m21 h21 => ?_)
  refine CPY.thn hg h21 (CPY.upd _ g0 g1 39 3) (fun m22 h22 => ?_)
  refine CPY.thn hg h22 (CPY.upd _ g0 g1 39 4) (fun m23 h23 => ?_)
  refine CPY.thn hg h23 (CPY.upd _ g0 g1 8 9) (fun m24 h24 => ?_)
  refine CPY.thn hg h24 (CPY.upd _ g0 g1 8 10) (fun m25 h25 => ?_)
  refine CPY.thn hg h25 (CPY.upd _ g0 g1 8 11) (fun m26 h26 => ?_)
  refine CPY.thn hg h26 (CPY.upd _ g0 g1 8 12) (fun m27 h27 => ?_)
  refine CPY.thn hg h27 (CPY.upd _ g0 g1 8 13) (fun m28 h28 => ?_)
  refine CPY.thn hg h28 (CPY.upd _ g0 g1 8 14) (fun m29 h29 => ?_)
  refine CPY.thn hg h29 (CPY.upd _ g0 g1 8 15) (fun m30 h30 => ?_)
  exact h30
theorem copy_FE {g0 g1 : Nat} (hg : g0 ≠ g1) (m : zM) (n : Nat) : FE n (m g1) (f171_1 g0 g1 m g0) := by
  intro x hx _ i h0 h1
  refine (f171_1_c hg m).2.1 x.2.1 i ?_
  simp only [fcl, List.mem_cons, List.not_mem_nil, or_false] at hx
  rcases hx with rfl | rfl | rfl | rfl | rfl | rfl | rfl | rfl | rfl | rfl | rfl | rfl | rfl | rfl | rfl | rfl | rfl | rfl | rfl | rfl | rfl | rfl | rfl | rfl | rfl | rfl | rfl | rfl | rfl | rfl | rfl | rfl | rfl
  · exact ⟨(8, 9, 9), List.mem_of_getElem? (i := 45) rfl, rfl, by (try dsimp only at h0 h1 ⊢); omega, by (try dsimp only at h0 h1 ⊢); omega⟩
  · (try dsimp only at h0 h1 ⊢)
    rcases (show i = 10 ∨ i = 11 ∨ i = 12 by omega) with rfl | rfl | rfl
    · exact ⟨(8, 10, 10), List.mem_of_getElem? (i := 46) rfl, rfl, by decide, by decide⟩
    · exact ⟨(8, 11, 11), List.mem_of_getElem? (i := 47) rfl, rfl, by decide, by decide⟩
    · exact ⟨(8, 12, 12), List.mem_of_getElem? (i := 48) rfl, rfl, by decide, by decide⟩
  · (try dsimp only at h0 h1 ⊢)
    rcases (show i = 13 ∨ i = 14 ∨ i = 15 by omega) with rfl | rfl | rfl
    · exact ⟨(8, 13, 13), List.mem_of_getElem? (i := 49) rfl, rfl, by decide, by decide⟩
    · exact ⟨(8, 14, 14), List.mem_of_getElem? (i := 50) rfl, rfl, by decide, by decide⟩
    · exact ⟨(8, 15, 15), List.mem_of_getElem? (i := 51) rfl, rfl, by decide, by decide⟩
  · exact ⟨(10, 0, 12), List.mem_of_getElem? (i := 0) rfl, rfl, by (try dsimp only at h0 h1 ⊢); omega, by (try dsimp only at h0 h1 ⊢); omega⟩
  · exact ⟨(11, 7, 7), List.mem_of_getElem? (i := 8) rfl, rfl, by (try dsimp only at h0 h1 ⊢); omega, by (try dsimp only at h0 h1 ⊢); omega⟩
  · exact ⟨(12, 0, 7), List.mem_of_getElem? (i := 1) rfl, rfl, by (try dsimp only at h0 h1 ⊢); omega, by (try dsimp only at h0 h1 ⊢); omega⟩
  · exact ⟨(13, 0, 47), List.mem_of_getElem? (i := 2) rfl, rfl, by (try dsimp only at h0 h1 ⊢); omega, by (try dsimp only at h0 h1 ⊢); omega⟩
  · exact ⟨(14, 0, 47), List.mem_of_getElem? (i := 3) rfl, rfl, by (try dsimp only at h0 h1 ⊢); omega, by (try dsimp only at h0 h1 ⊢); omega⟩
  · exact ⟨(15, 0, 3), List.mem_of_getElem? (i := 4) rfl, rfl, by (try dsimp only at h0 h1 ⊢); omega, by (try dsimp only at h0 h1 ⊢); omega⟩
  · exact ⟨(16, 0, 27), List.mem_of_getElem? (i := 5) rfl, rfl, by (try dsimp only at h0 h1 ⊢); omega, by (try dsimp only at h0 h1 ⊢); omega⟩
  · exact ⟨(17, 0, 15), List.mem_of_getElem? (i := 6) rfl, rfl, by (try dsimp only at h0 h1 ⊢); omega, by (try dsimp only at h0 h1 ⊢); omega⟩
  · exact ⟨(18, 0, 15), List.mem_of_getElem? (i := 7) rfl, rfl, by (try dsimp only at h0 h1 ⊢); omega, by (try dsimp only at h0 h1 ⊢); omega⟩
  · (try dsimp only at h0 h1 ⊢)
    rcases (show i = 3 ∨ i = 4 ∨ i = 5 ∨ i = 6 by omega) with rfl | rfl | rfl | rfl
    · exact ⟨(19, 3, 3), List.mem_of_getElem? (i := 12) rfl, rfl, by decide, by decide⟩
    · exact ⟨(19, 4, 4), List.mem_of_getElem? (i := 13) rfl, rfl, by decide, by decide⟩
    · exact ⟨(19, 5, 5), List.mem_of_getElem? (i := 14) rfl, rfl, by decide, by decide⟩
    · exact ⟨(19, 6, 6), List.mem_of_getElem? (i := 15) rfl, rfl, by decide, by decide⟩
  · exact ⟨(20, 0, 47), List.mem_of_getElem? (i := 9) rfl, rfl, by (try dsimp only at h0 h1 ⊢); omega, by (try dsimp only at h0 h1 ⊢); omega⟩
  · exact ⟨(21, 0, 47), List.mem_of_getElem? (i := 10) rfl, rfl, by (try dsimp only at h0 h1 ⊢); omega, by (try dsimp only at h0 h1 ⊢); omega⟩
  · exact ⟨(22, 0, 15), List.mem_of_getElem? (i := 11) rfl, rfl, by (try dsimp only at h0 h1 ⊢); omega, by (try dsimp only at h0 h1 ⊢); omega⟩
  · exact ⟨(23, 3, 3), List.mem_of_getElem? (i := 19) rfl, rfl, by (try dsimp only at h0 h1 ⊢); omega, by (try dsimp only at h0 h1 ⊢); omega⟩
  · exact ⟨(24, 0, 27), List.mem_of_getElem? (i := 16) rfl, rfl, by (try dsimp only at h0 h1 ⊢); omega, by (try dsimp only at h0 h1 ⊢); omega⟩
  · exact ⟨(25, 0, 27), List.mem_of_getElem? (i := 17) rfl, rfl, by (try dsimp only at h0 h1 ⊢); omega, by (try dsimp only at h0 h1 ⊢); omega⟩
  · exact ⟨(26, 0, 197), List.mem_of_getElem? (i := 18) rfl, rfl, by (try dsimp only at h0 h1 ⊢); omega, by (try dsimp only at h0 h1 ⊢); omega⟩
  · (try dsimp only at h0 h1 ⊢)
    rcases (show i = 2 ∨ i = 3 ∨ i = 4 ∨ i = 5 ∨ i = 6 ∨ i = 7 ∨ i = 8 ∨ i = 9 by omega) with rfl | rfl | rfl | rfl | rfl | rfl | rfl | rfl
    · exact ⟨(27, 2, 2), List.mem_of_getElem? (i := 22) rfl, rfl, by decide, by decide⟩
    · exact ⟨(27, 3, 3), List.mem_of_getElem? (i := 23) rfl, rfl, by decide, by decide⟩
    · exact ⟨(27, 4, 4), List.mem_of_getElem? (i := 24) rfl, rfl, by decide, by decide⟩
    · exact ⟨(27, 5, 5), List.mem_of_getElem? (i := 25) rfl, rfl, by decide, by decide⟩
    · exact ⟨(27, 6, 6), List.mem_of_getElem? (i := 26) rfl, rfl, by decide, by decide⟩
    · exact ⟨(27, 7, 7), List.mem_of_getElem? (i := 27) rfl, rfl, by decide, by decide⟩
    · exact ⟨(27, 8, 8), List.mem_of_getElem? (i := 28) rfl, rfl, by decide, by decide⟩
    · exact ⟨(27, 9, 9), List.mem_of_getElem? (i := 29) rfl, rfl, by decide, by decide⟩
  · exact ⟨(28, 0, 383), List.mem_of_getElem? (i := 20) rfl, rfl, by (try dsimp only at h0 h1 ⊢); omega, by (try dsimp only at h0 h1 ⊢); omega⟩
  · exact ⟨(29, 0, 3), List.mem_of_getElem? (i := 21) rfl, rfl, by (try dsimp only at h0 h1 ⊢); omega, by (try dsimp only at h0 h1 ⊢); omega⟩
  · (try dsimp only at h0 h1 ⊢)
    rcases (show i = 2 ∨ i = 3 by omega) with rfl | rfl
    · exact ⟨(30, 2, 2), List.mem_of_getElem? (i := 32) rfl, rfl, by decide, by decide⟩
    · exact ⟨(30, 3, 3), List.mem_of_getElem? (i := 33) rfl, rfl, by decide, by decide⟩
  · exact ⟨(31, 0, 3), List.mem_of_getElem? (i := 30) rfl, rfl, by (try dsimp only at h0 h1 ⊢); omega, by (try dsimp only at h0 h1 ⊢); omega⟩
  · exact ⟨(32, 0, 3), List.mem_of_getElem? (i := 31) rfl, rfl, by (try dsimp only at h0 h1 ⊢); omega, by (try dsimp only at h0 h1 ⊢); omega⟩
  · exact ⟨(33, 3, 3), List.mem_of_getElem? (i := 37) rfl, rfl, by (try dsimp only at h0 h1 ⊢); omega, by (try dsimp only at h0 h1 ⊢); omega⟩
  · exact ⟨(34, 0, 4), List.mem_of_getElem? (i := 34) rfl, rfl, by (try dsimp only at h0 h1 ⊢); omega, by (try dsimp only at h0 h1 ⊢); omega⟩
  · exact ⟨(35, 0, 4), List.mem_of_getElem? (i := 35) rfl, rfl, by (try dsimp only at h0 h1 ⊢); omega, by (try dsimp only at h0 h1 ⊢); omega⟩
  · exact ⟨(36, 0, 4), List.mem_of_getElem? (i := 36) rfl, rfl, by (try dsimp only at h0 h1 ⊢); omega, by (try dsimp only at h0 h1 ⊢); omega⟩
  · exact ⟨(37, 1, 1), List.mem_of_getElem? (i := 39) rfl, rfl, by (try dsimp only at h0 h1 ⊢); omega, by (try dsimp only at h0 h1 ⊢); omega⟩
  · exact ⟨(38, 0, 119), List.mem_of_getElem? (i := 38) rfl, rfl, by (try dsimp only at h0 h1 ⊢); omega, by (try dsimp only at h0 h1 ⊢); omega⟩
  · (try dsimp only at h0 h1 ⊢)
    rcases (show i = 0 ∨ i = 1 ∨ i = 2 ∨ i = 3 ∨ i = 4 by omega) with rfl | rfl | rfl | rfl | rfl
    · exact ⟨(39, 0, 0), List.mem_of_getElem? (i := 40) rfl, rfl, by decide, by decide⟩
    · exact ⟨(39, 1, 1), List.mem_of_getElem? (i := 41) rfl, rfl, by decide, by decide⟩
    · exact ⟨(39, 2, 2), List.mem_of_getElem? (i := 42) rfl, rfl, by decide, by decide⟩
    · exact ⟨(39, 3, 3), List.mem_of_getElem? (i := 43) rfl, rfl, by decide, by decide⟩
    · exact ⟨(39, 4, 4), List.mem_of_getElem? (i := 44) rfl, rfl, by decide, by decide⟩
end
section
/-! How class and reference hang together: clock, shape, seal, calendar; tape, fault, image. -/
def I32 (a : Int) : Prop := -2147483648 ≤ a ∧ a ≤ 2147483647
theorem time_fe {c c' : Nat → Int → Int} {w w' : Int → Int} (h : c 8 9 = w 0) (h1 : FE 11 c c') (h2 : FW 11 w w') : c' 8 9 = w' 0 := by
  rw [h1.p8_9, h2 0 (by omega) (by omega) ja45_0]
  exact h
def R2 (c : Nat → Int → Int) (w : Int → Int) : Prop := c 19 3 = w 1 ∧ c 19 4 = w 2 ∧ c 19 5 = w 3
theorem R2.fe {c c' : Nat → Int → Int} {w w' : Int → Int} (h : R2 c w) (h1 : FE 2 c c') (h2 : FW 2 w w') : R2 c' w' := by
  unfold R2
  rw [h1.p19_3 3 (by omega) (by omega), h1.p19_3 4 (by omega) (by omega), h1.p19_3 5 (by omega) (by omega), h2 1 (by omega) (by omega) (ja45_1 (by omega)), h2 2 (by omega) (by omega) (ja45_1 (by omega)), h2 3 (by omega) (by omega) (ja45_1 (by omega))]
  exact h
theorem SE.fe {B : Int} {c c' : Nat → Int → Int} {w w' : Int → Int} (h : SE B c w) (h1 : FE 4 c c') (h2 : FW 4 w w') : SE B c' w' := h.of (fun i i0 i1 => h1.p39_0 i i0 i1) (fun i i0 i1 => h2 i (by omega) (by omega) (ja45_1614 ⟨i0, i1⟩))
theorem fw1 {w w' : Int → Int} (h2 : FW 1 w w') : ∀ i : Int, 287 ≤ i → i ≤ 787 → w' i = w i := fun i i0 i1 => h2 i (by omega) (by omega) (ja45_287 ⟨i0, i1⟩)
theorem CR.fe {c c' : Nat → Int → Int} {w w' : Int → Int} (h : CR c w) (hb : CB c) (h1 : FE 1 c c') (h2 : FW 1 w w') : CR c' w' :=
  (h.w hb (fw1 h2)).cg hb (fun i i0 i1 => h1.p12_0 i i0 (by omega)) (fun i i0 i1 => h1.p13_0 i i0 (by omega)) (fun i i0 i1 => h1.p14_0 i i0 (by omega)) (fun i i0 i1 => h1.p15_0 i i0 (by omega))
    (fun i i0 i1 => h1.p16_0 i i0 (by omega)) (fun i i0 i1 => h1.p17_0 i i0 (by omega)) (fun i i0 i1 => h1.p18_0 i i0 (by omega)) h1.p11_7
def MR (B : Int) (c : Nat → Int → Int) (w : Int → Int) : Prop := c 8 9 = w 0 ∧ R2 c w ∧ SE B c w ∧ CR c w
theorem MR.up {B B' : Int} {c : Nat → Int → Int} {w : Int → Int} (h : MR B c w) (hb : B ≤ B') : MR B' c w := ⟨h.1, h.2.1, h.2.2.1.up hb, h.2.2.2⟩
theorem MR.all {B : Int} {c c' : Nat → Int → Int} {w w' : Int → Int} (h : MR B c w) (hb : CB c) (h1 : ∀ n, FE n c c') (h2 : ∀ i, 0 ≤ i → i ≤ 1618 → w' i = w i) : MR B c' w' :=
  ⟨time_fe h.1 (h1 11) (FW.all h2 11), h.2.1.fe (h1 2) (FW.all h2 2), h.2.2.1.fe (h1 4) (FW.all h2 4), h.2.2.2.fe hb (h1 1) (FW.all h2 1)⟩
def Rel2 (B : Int) (c r : zM) : Prop := MR B (c 0) (r 4 45) ∧ c 4 40 4 = r 4 44 3 ∧ (r 4 44 3 = 1 → MR B (c 1) (r 4 47)) ∧ TA c r ∧ FT c r
theorem Rel2.up {B B' : Int} {c r : zM} (h : Rel2 B c r) (hb : B ≤ B') : Rel2 B' c r := ⟨h.1.up hb, h.2.1, fun e => (h.2.2.1 e).up hb, h.2.2.2⟩
theorem Rel2.r {B : Int} {c r r' : zM} (h : Rel2 B c r) (e44 : r' 4 44 = r 4 44) (e45 : r' 4 45 = r 4 45) (e47 : r' 4 47 = r 4 47) (e48 : r' 4 48 = r 4 48) : Rel2 B c r' := by
  unfold Rel2 TA FT at h ⊢
  rw [e44, e45, e47, e48]
  exact h
theorem Rel2.c {B : Int} {c c' r : zM} (h : Rel2 B c r) (e0 : c' 0 = c 0) (e1 : c' 1 = c 1) (e40 : c' 4 40 = c 4 40) (e41 : c' 4 41 = c 4 41) (e42 : c' 4 42 = c 4 42) : Rel2 B c' r := by
  unfold Rel2 TA FT at h ⊢
  rw [e0, e1, e40, e41, e42]
  exact h
/-- behind a call of the class what hangs on the reference's part is as it was -/
theorem Rel2.rj {L G : List Nat} {B B' : Int} {c m1 : zM} (h : Rel2 B c c) (k : J (zQ L G) c B' m1) (hl : ([44, 45, 47, 48].all fun k => (jp k).all fun x => !L.contains x.2.2.1.toNat) = true) (h0 : L.contains 0 = false) : Rel2 B c m1 := by
  have ha : ∀ k, k ∈ [44, 45, 47, 48] → ((jp k).all fun x => !L.contains x.2.2.1.toNat) = true := List.all_eq_true.mp hl
  exact h.r (k.row 44 (ha 44 (by simp)) h0 4) (k.row 45 (ha 45 (by simp)) h0 4) (k.row 47 (ha 47 (by simp)) h0 4) (k.row 48 (ha 48 (by simp)) h0 4)
/-- behind one of the reference's what hangs on the class' part -/
theorem Rel2.cj {L : List Nat} {B B' : Int} {m1 m2 : zM} (h : Rel2 B m1 m2) (k : J (zQ L [4]) m1 B' m2) (hl : ([40, 41, 42].all fun k => (jp k).all fun x => !L.contains x.2.2.1.toNat) = true) (h0 : L.contains 0 = false) : Rel2 B m2 m2 := by
  have ha : ∀ k, k ∈ [40, 41, 42] → ((jp k).all fun x => !L.contains x.2.2.1.toNat) = true := List.all_eq_true.mp hl
  exact h.c (jy k rfl) (jy k rfl) (k.row 40 (ha 40 (by simp)) h0 4) (k.row 41 (ha 41 (by simp)) h0 4) (k.row 42 (ha 42 (by simp)) h0 4)
def okL (L L' G : List Nat) : Bool := !G.contains 1 && !L.contains 14 && !L.contains 15 && !L.contains 16 && !L'.contains 34 && !L'.contains 35 && !L'.contains 36 && !L'.contains 0 && ((jp 47).all fun x => !L'.contains x.2.2.1.toNat)
theorem TA.fe {L L' G G' : List Nat} {B B' : Int} {c c' r r' : zM} (h : TA c r) (hl : c 4 41 3 ≤ 300) (k : J (zQ L G) c B c') (k' : J (zQ L' G') r B' r') (h1 : L.contains 15 = false) (h2 : L'.contains 35 = false) : TA c' r' := by
  have e1 : c' 4 41 3 = c 4 41 3 := jx k 15 ja41_3 h1
  refine ⟨?_, fun i i0 i1 => ?_⟩
  · rw [e1, jx k' 35 ja44_5 h2]
    exact h.1
  · rw [e1] at i1
    rw [jx k 15 (ja42_0 ⟨i0, by omega⟩) h1, jx k' 35 (ja48_0 ⟨i0, by omega⟩) h2]
    exact h.2 i i0 i1
theorem FT.fe {L L' G G' : List Nat} {B B' : Int} {c c' r r' : zM} (h : FT c r) (k : J (zQ L G) c B c') (k' : J (zQ L' G') r B' r') (h1 : L.contains 16 = false) (h2 : L'.contains 36 = false) : FT c' r' := by
  unfold FT
  rw [jx k 16 (ja41_4 (by omega)) h1, jx k 16 (ja41_4 (by omega)) h1, jx k' 36 (ja44_6 (by omega)) h2, jx k' 36 (ja44_6 (by omega)) h2]
  exact h
theorem Rel2.mk {L L' G : List Nat} {B Bc Br B1 : Int} {c c' r r' : zM} (h : Rel2 B c r) (hc : OM B c) (k : J (zQ L G) c Bc c') (k' : J (zQ L' [4]) r Br r') (hb : B ≤ B1) (hm : MR B1 (c' 0) (r' 4 45)) (ok : okL L L' G = true) : Rel2 B1 c' r' := by
  unfold okL at ok
  simp only [Bool.and_eq_true, Bool.not_eq_true'] at ok
  obtain ⟨⟨⟨⟨⟨⟨⟨⟨o1, o2⟩, o3⟩, o4⟩, o5⟩, o6⟩, o7⟩, o8⟩, o9⟩ := ok
  have hl : 0 ≤ c 4 41 3 ∧ c 4 41 3 ≤ 300 := r41_3 hc.2.o 4
  have e3 : r' 4 44 3 = r 4 44 3 := jx k' 34 ja44_3 o5
  refine ⟨hm, ?_, fun e => ?_, h.2.2.2.1.fe hl.2 k k' o3 o6, h.2.2.2.2.fe k k' o4 o7⟩
  · rw [e3, jx k 14 (ja40_0 (by omega)) o2]
    exact h.2.1
  · rw [jy k o1, k'.row 47 o9 o8]
    exact (h.2.2.1 (by rw [← e3]; exact e)).up hb
/-! the reference thinks, and all is as it was -/
theorem OM.aside {B : Int} {r : zM} (h : OM B r) : OM B (z_cpy r 4 46 4 45 0 0 1619) := by
  have j1 : J (zQ [38] [4]) r B (z_cpy r 4 46 4 45 0 0 1619) := (h.2.j (L := [38]) (G := [4])).cp rfl (jq_of rfl) (by decide) (fun k _ => ⟨fun _ h => h, fun _ h => h⟩) (fun i hi h => h (by rw [ja46 (by omega)]; simp)) (fun h => h (by simp))
  exact ⟨mok_aside h.1, j1.jb⟩
theorem f208_46 {m : zM} {B : Int} (h : OM B m) (hB : B + 11 ≤ 1000000000) : OM (B + 11) (f208_1 m) ∧ f208_1 m 4 46 = m 4 46 := by
  obtain ⟨k1, k2⟩ := q208_1 h.1 h.2 hB
  exact ⟨⟨k1, k2.jb⟩, k2.row 46 rfl rfl 4⟩
theorem r302_46 {k : zM → Int × zM} {a b : Int} : ∀ (n : Nat) (y : Int) (m : zM) (B : Int), OM B m → y ≤ a → a - y < n → B + 11 * (a - y) ≤ 1000000000 → ∃ m', fl302_41_1 k a b n y m = k m' ∧ m' 4 46 = m 4 46
  | 0, y, m, B, h, h1, h2, hB => by omega
  | n + 1, y, m, B, h, h1, h2, hB => by
    show ∃ m', fl302_41_1_b (fl302_41_1 k a b n) k a b y m = k m' ∧ _
    unfold fl302_41_1_b
    by_cases h0 : a ≤ y
    · rw [if_pos h0]
      exact ⟨m, rfl, rfl⟩
    · rw [if_neg h0, zs_a]
      obtain ⟨g1, g2⟩ := f208_46 h (by omega)
      obtain ⟨m', e, e2⟩ := r302_46 (k := k) (a := a) (b := b) n (y + 1) (f208_1 m) (B + 11) g1 (by omega) (by omega) (by omega)
      exact ⟨m', e, e2.trans g2⟩
theorem would_w {r : zM} {B a b : Int} (h : OM B r) (hB : B + 9911 ≤ 1000000000) : ∀ i, 0 ≤ i → i ≤ 1618 → (f302_1 a b r).2 4 45 i = r 4 45 i := by
  intro i i0 i1
  unfold f302_1
  by_cases h1 : a < 1
  · rw [if_pos h1]
  rw [if_neg h1]
  by_cases h2 : a ≤ 900
  case neg => rw [if_neg h2]
  rw [if_pos h2]
  by_cases h3 : b < 0
  · rw [if_pos h3]
  rw [if_neg h3]
  by_cases h4 : b ≤ 6
  case neg => rw [if_neg h4]
  rw [if_pos h4, zs_a]
  obtain ⟨m', e, e2⟩ := r302_46 (k := fun m518 => zn (f303_1 b m518) fun v524 => zs (z_cpy m518 4 45 4 46 0 0 1619) fun m525 => (v524, m525)) (a := a) (b := b) (zfu 901) 0 _ B h.aside (by omega) (by rw [zfu_eq]; omega) (by omega)
  rw [e]
  simp only [zn_a, zs_a]
  rw [cpy_in _ (by omega), e2, cpy_in _ (by omega), show i - 0 + 0 - 0 + 0 = i by omega]
theorem r309_46 {k : Int → zM → Int × zM} : ∀ (n : Nat) (y : Int) (m : zM) (B : Int), OM B m → y ≤ 3600 → 3600 - y < n → B + 11 * (3600 - y) ≤ 1000000000 → ∃ y' m', fl309_13_1 k n y m = k y' m' ∧ m' 4 46 = m 4 46
  | 0, y, m, B, h, h1, h2, hB => by omega
  | n + 1, y, m, B, h, h1, h2, hB => by
    show ∃ y' m', fl309_13_1_b (fl309_13_1 k n) k y m = k y' m' ∧ _
    unfold fl309_13_1_b
    by_cases h0 : 3600 ≤ y
    · rw [if_pos h0]
      exact ⟨y, m, rfl, rfl⟩
    rw [if_neg h0]
    by_cases h3 : m 4 45 12 = 0
    case neg =>
      rw [if_neg h3]
      exact ⟨y, m, rfl, rfl⟩
    rw [if_pos h3, zs_a]
    obtain ⟨g1, g2⟩ := f208_46 h (by omega)
    obtain ⟨y', m', e, e2⟩ := r309_46 (k := k) n (y + 1) (f208_1 m) (B + 11) g1 (by omega) (by omega) (by omega)
    exact ⟨y', m', e, e2.trans g2⟩
theorem lasts_w {r : zM} {B : Int} (h : OM B r) (hB : B + 39611 ≤ 1000000000) : ∀ i, 0 ≤ i → i ≤ 1618 → (f309_1 r).2 4 45 i = r 4 45 i := by
  intro i i0 i1
  unfold f309_1
  rw [zs_a]
  obtain ⟨y', m', e, e2⟩ := r309_46 (k := fun y504 m505 => zn (if (m505 4 45 12) = 1 then (1) else (0)) fun v512 => zs (z_cpy m505 4 45 4 46 0 0 1619) fun m517 => zn (if v512 = 0 then ((-1)) else (y504)) fun v521 => (v521, m517)) (zfu 3601) 0 _ B h.aside (by omega) (by rw [zfu_eq]; omega) (by omega)
  rw [e]
  simp only [zn_a, zs_a]
  rw [cpy_in _ (by omega), e2, cpy_in _ (by omega), show i - 0 + 0 - 0 + 0 = i by omega]
def sq5 (r1 : zM) (x : Int × zM) : Prop := ∀ i, 1614 ≤ i → i ≤ 1618 → x.2 4 45 i = r1 4 45 i
theorem sq5.ite {r1 : zM} (p : Prop) [Decidable p] (x y : Int × zM) (hx : p → sq5 r1 x) (hy : ¬ p → sq5 r1 y) : sq5 r1 (if p then x else y) := by
  by_cases h : p
  · rw [if_pos h]
    exact hx h
  · rw [if_neg h]
    exact hy h
/-- set leaves the seal but for what was refused -/
theorem set_S {c r : zM} {B a b : Int} (ha : I32 a) (hb : I32 b) (hc : OM B c) (hr : OM B r) (hB : B + 2 ≤ 1000000000) (hs : SE B (c 0) (r 4 45)) (h : CR (c 0) (r 4 45)) : SE (B + 1) ((f73_1 a b c).2 0) ((f280_1 a b r).2 4 45) := by
  obtain ⟨v, c1, r1, e1, e2, hv, oc, ro, se, cr, fc, fr⟩ := shut_R hc hr (by omega) hs h
  have up : ∀ j y, j < 1614 → ∀ i, 1614 ≤ i → z_upd r1 4 45 j y 4 45 i = r1 4 45 i := fun j y hj i hi => by rw [zu_row, fu_i _ _ (by omega)]
  obtain ⟨k1, k2⟩ := q232_1 64 ro.1 ro.2 (by omega) (by omega)
  have u2 : ∀ y, 1 ≤ y → y ≤ 3600 → ∀ i, 1614 ≤ i → i ≤ 1618 → f233_1 (z_upd (f232_1 64 r1) 4 45 8 y) 4 45 i = r1 4 45 i := fun y y0 y1 i i0 i1 => by
    have p1 : OM (B + 1) (f232_1 64 r1) := ⟨k1, k2.jb⟩
    have p2 := u45_8 (g := 4) (x := y) p1 ⟨y0, y1⟩
    obtain ⟨j3, j4⟩ := q233_1 p2.1 p2.2 (by omega)
    rw [jx j4 24 (ja45_1614 ⟨i0, i1⟩) rfl, zu_row, fu_i _ _ (by omega), jx k2 24 (ja45_1614 ⟨i0, i1⟩) rfl]
  refine se.of (fun i i0 i1 => ?_) (fun i i0 i1 => ?_)
  · unfold f73_1
    rw [e1]
    simp only [zb_a]
    by_cases h0 : v = 0
    · rw [if_pos h0]
      obtain ⟨-, g2, -⟩ := q74_1 0 a b oc.1 oc.2 (by omega) (by omega) ha hb
      exact jx g2 4 (ja39_0 ⟨i0, i1⟩) rfl
    · rw [if_neg h0]
  · refine (?_ : sq5 r1 (f280_1 a b r)) i i0 i1
    unfold f280_1
    rw [e2]
    simp only [zb_a, zs_a]
    repeat' (refine sq5.ite _ _ _ (fun _ => ?_) (fun _ => ?_))
    all_goals first
      | exact fun _ _ _ => rfl
      | exact fun i i0 _ => up _ _ (by omega) i i0
      | exact fun i i0 i1 => u2 b (by omega) (by omega) i i0 i1
end
section
/-! The logbook on both sides. -/
def LG (c : Nat → Int → Int) (w : Int → Int) : Prop := c 37 1 = w 16 ∧ 0 ≤ w 16 ∧ ∀ i, 0 ≤ i → i < min (w 16) 40 → ∀ k, 0 ≤ k → k < 3 → c 38 ((w 16 - 1 - i) % 40 * 3 + k) = w (1487 + 3 * (min (w 16) 40 - 1 - i) + k)
def v3 (t b x k : Int) : Int := if k = 0 then t else if k = 1 then b else x
theorem LG.add {c c' : Nat → Int → Int} {w w' : Int → Int} {t b x : Int} (h : LG c w) (h37 : c' 37 1 = c 37 1 + 1) (h38 : ∀ i, c' 38 i = if c 37 1 % 40 * 3 ≤ i ∧ i < c 37 1 % 40 * 3 + 3 then v3 t b x (i - c 37 1 % 40 * 3) else c 38 i)
    (hw : w' 16 = w 16 + 1) (hn : ∀ k, 0 ≤ k → k < 3 → w' (1487 + 3 * (min (w 16 + 1) 40 - 1) + k) = v3 t b x k)
    (ho : ∀ j k, 0 ≤ j → j < min (w 16 + 1) 40 - 1 → 0 ≤ k → k < 3 → w' (1487 + 3 * j + k) = if w 16 < 40 then w (1487 + 3 * j + k) else w (1487 + 3 * (j + 1) + k)) : LG c' w' := by
  obtain ⟨h1, h2, h3⟩ := h
  refine ⟨by omega, by omega, fun i i0 i1 k k0 k1 => ?_⟩
  rw [hw] at i1 ⊢
  rw [h38, h1]
  by_cases e : i = 0
  · subst e
    rw [if_pos (by omega), show min (w 16 + 1) 40 - 1 - 0 = min (w 16 + 1) 40 - 1 by omega, hn k k0 k1]
    congr 1
    omega
  · rw [if_neg (by omega), ho _ k (by omega) (by omega) k0 k1]
    have h4 := h3 (i - 1) (by omega) (by omega) k k0 k1
    rw [show w 16 + 1 - 1 - i = w 16 - 1 - (i - 1) by omega, h4]
    by_cases e2 : w 16 < 40
    · rw [if_pos e2]
      congr 1
      omega
    · rw [if_neg e2]
      congr 1
      omega
theorem LG.fe {c c' : Nat → Int → Int} {w w' : Int → Int} (h : LG c w) (h1 : FE 6 c c') (h2 : FW 6 w w') : LG c' w' := by
  obtain ⟨a1, a2, a3⟩ := h
  have e16 : w' 16 = w 16 := h2 16 (by omega) (by omega) ja45_16
  refine ⟨by rw [h1.p37_1, e16]; exact a1, by omega, fun i i0 i1 k k0 k1 => ?_⟩
  rw [e16] at i1 ⊢
  rw [h1.p38_0 _ (by omega) (by omega), h2 _ (by omega) (by omega) (ja45_1487 (by omega))]
  exact a3 i i0 i1 k k0 k1
/-- a line more: the class -/
theorem log_c (m : zM) (g : Nat) (t b x : Int) : f55_1 g t b x m g 37 1 = m g 37 1 + 1 ∧ (∀ i, f55_1 g t b x m g 38 i = if m g 37 1 % 40 * 3 ≤ i ∧ i < m g 37 1 % 40 * 3 + 3 then v3 t b x (i - m g 37 1 % 40 * 3) else m g 38 i) ∧ (∀ g' k, (g' ≠ g ∨ (k ≠ 37 ∧ k ≠ 38)) → f55_1 g t b x m g' k = m g' k) ∧ (∀ i, i ≠ 1 → f55_1 g t b x m g 37 i = m g 37 i) := by
  unfold f55_1
  simp only [zs_a]
  refine ⟨?_, fun i => ?_, fun g' k h => ?_, fun i hi => ?_⟩
  · rw [zu_row, fu_s, zu_k _ _ _ (by decide), zu_k _ _ _ (by decide), zu_k _ _ _ (by decide)]
  · rw [zu_k _ _ _ (show (38 : Nat) ≠ 37 by decide), zu_row, zu_row, zu_row]
    unfold fu v3
    repeat' split
    all_goals first | rfl | omega
  · rcases h with h | h
    · rw [zu_g _ _ _ h, zu_g _ _ _ h, zu_g _ _ _ h, zu_g _ _ _ h]
    · rw [zu_k _ _ _ h.1, zu_k _ _ _ h.2, zu_k _ _ _ h.2, zu_k _ _ _ h.2]
  · rw [zu_row, fu_i _ _ hi, zu_k _ _ _ (by decide), zu_k _ _ _ (by decide), zu_k _ _ _ (by decide)]
theorem shl223 {k : zM → zM} {a b : Int} : ∀ (n : Nat) (y : Int) (m : zM), 3 ≤ y → y ≤ 120 → 120 - y < n → ∃ m', fl223_17_1 k a b n y m = k m' ∧ (∀ g k, (g ≠ 4 ∨ k ≠ 45) → m' g k = m g k) ∧ (∀ i, 1484 + y ≤ i → i < 1604 → m' 4 45 i = m 4 45 (i + 3)) ∧ (∀ i, (i < 1484 + y ∨ 1604 ≤ i) → m' 4 45 i = m 4 45 i)
  | 0, y, m, h0, h1, h2 => by omega
  | n + 1, y, m, h0, h1, h2 => by
    show ∃ m', fl223_17_1_b (fl223_17_1 k a b n) k a b y m = k m' ∧ _
    unfold fl223_17_1_b
    by_cases h : 120 ≤ y
    · rw [if_pos h]
      exact ⟨m, rfl, fun _ _ _ => rfl, fun i i0 i1 => by omega, fun _ _ => rfl⟩
    · rw [if_neg h, zs_a]
      obtain ⟨m', e, e1, e2, e3⟩ := shl223 (k := k) (a := a) (b := b) n (y + 1) (z_upd m 4 45 (1487 + y - 3) (m 4 45 (1487 + y))) (by omega) (by omega) (by omega)
      refine ⟨m', e, fun g k' hk => ?_, fun i i0 i1 => ?_, fun i hi => ?_⟩
      · rw [e1 g k' hk]
        rcases hk with hk | hk
        · rw [zu_g _ _ _ hk]
        · rw [zu_k _ _ _ hk]
      · by_cases e4 : i = 1484 + y
        · rw [e3 i (by omega), zu_row, show i = 1487 + y - 3 by omega, fu_s, show 1487 + y - 3 + 3 = 1487 + y by omega]
        · rw [e2 i (by omega) i1, zu_row, fu_i _ _ (by omega)]
      · rw [e3 i (by omega), zu_row, fu_i _ _ (by omega)]
/-- a line more: the reference -/
theorem log_r (m : zM) (b x : Int) (h0 : 0 ≤ m 4 45 16) : f223_1 b x m 4 45 16 = m 4 45 16 + 1 ∧ (∀ k, 0 ≤ k → k < 3 → f223_1 b x m 4 45 (1487 + 3 * (min (m 4 45 16 + 1) 40 - 1) + k) = v3 (m 4 45 0) b x k) ∧
    (∀ j k, 0 ≤ j → j < min (m 4 45 16 + 1) 40 - 1 → 0 ≤ k → k < 3 → f223_1 b x m 4 45 (1487 + 3 * j + k) = if m 4 45 16 < 40 then m 4 45 (1487 + 3 * j + k) else m 4 45 (1487 + 3 * (j + 1) + k)) ∧
    (∀ g k, (g ≠ 4 ∨ k ≠ 45) → f223_1 b x m g k = m g k) ∧ (∀ i, i ≠ 16 → (i < 1487 ∨ 1606 < i) → f223_1 b x m 4 45 i = m 4 45 i) := by
  unfold f223_1
  by_cases h : m 4 45 16 < 40
  · rw [if_pos h]
    simp only [zs_a]
    refine ⟨?_, fun k k0 k1 => ?_, fun j k j0 j1 k0 k1 => ?_, fun g k hk => ?_, fun i i0 i1 => ?_⟩
    · rw [zu_row, fu_s, zu_row, fu_i _ _ (by omega), zu_row, fu_i _ _ (by omega), zu_row, fu_i _ _ (by omega)]
    · simp only [zu_row]
      unfold fu v3
      repeat' split
      all_goals first | rfl | omega
    · rw [if_pos h]
      rw [zu_row, fu_i _ _ (by omega), zu_row, fu_i _ _ (by omega), zu_row, fu_i _ _ (by omega), zu_row, fu_i _ _ (by omega)]
    · rcases hk with hk | hk
      · rw [zu_g _ _ _ hk, zu_g _ _ _ hk, zu_g _ _ _ hk, zu_g _ _ _ hk]
      · rw [zu_k _ _ _ hk, zu_k _ _ _ hk, zu_k _ _ _ hk, zu_k _ _ _ hk]
    · rw [zu_row, fu_i _ _ i0, zu_row, fu_i _ _ (by omega), zu_row, fu_i _ _ (by omega), zu_row, fu_i _ _ (by omega)]
  · rw [if_neg h]
    obtain ⟨m1, e, e1, e2, e3⟩ := shl223 (k := fun m516 => zn (if (m516 4 45 16) < 40 then ((m516 4 45 16)) else (39)) fun v523 => zs (z_upd m516 4 45 (1487 + (3 * v523)) (m516 4 45 0)) fun m529 => zs (z_upd m529 4 45 ((1487 + (3 * v523)) + 1) b) fun m531 => zs (z_upd m531 4 45 ((1487 + (3 * v523)) + 2) x) fun m533 => zs (z_upd m533 4 45 16 ((m533 4 45 16) + 1)) fun m536 => m536) (a := b) (b := x) (zfu 118) 3 m (by omega) (by omega) (by rw [zfu_eq]; omega)
    rw [e]
    simp only [zs_a, zn_a]
    have q16 : m1 4 45 16 = m 4 45 16 := e3 16 (by omega)
    have q0 : m1 4 45 0 = m 4 45 0 := e3 0 (by omega)
    rw [if_neg (show ¬ m1 4 45 16 < 40 by omega)]
    refine ⟨?_, fun k k0 k1 => ?_, fun j k j0 j1 k0 k1 => ?_, fun g k hk => ?_, fun i i0 i1 => ?_⟩
    · rw [zu_row, fu_s, zu_row, fu_i _ _ (by omega), zu_row, fu_i _ _ (by omega), zu_row, fu_i _ _ (by omega), q16]
    · rw [q0]
      simp only [zu_row]
      unfold fu v3
      repeat' split
      all_goals first | rfl | omega
    · rw [if_neg h]
      rw [zu_row, fu_i _ _ (by omega), zu_row, fu_i _ _ (by omega), zu_row, fu_i _ _ (by omega), zu_row, fu_i _ _ (by omega), e2 _ (by omega) (by omega), show 1487 + 3 * j + k + 3 = 1487 + 3 * (j + 1) + k by omega]
    · rcases id hk with hk' | hk'
      · rw [zu_g _ _ _ hk', zu_g _ _ _ hk', zu_g _ _ _ hk', zu_g _ _ _ hk', e1 g k hk]
      · rw [zu_k _ _ _ hk', zu_k _ _ _ hk', zu_k _ _ _ hk', zu_k _ _ _ hk', e1 g k hk]
    · rw [zu_row, fu_i _ _ i0, zu_row, fu_i _ _ (by omega), zu_row, fu_i _ _ (by omega), zu_row, fu_i _ _ (by omega), e3 i (by omega)]
/-- a line more on both sides -/
theorem LG.log {c r : zM} {g : Nat} {t b x : Int} (h : LG (c g) (r 4 45)) (ht : t = r 4 45 0) : LG (f55_1 g t b x c g) (f223_1 b x r 4 45) := by
  obtain ⟨c1, c2, -, -⟩ := log_c c g t b x
  obtain ⟨r1, r2, r3, -, -⟩ := log_r r b x h.2.1
  refine h.add c1 c2 r1 (fun k k0 k1 => ?_) r3
  rw [r2 k k0 k1, ht]
end
section
/-! Bits of small numbers. -/
def zorN (x y : Int) : Int := ((x.toNat ||| y.toNat : Nat) : Int)
theorem zor_eq {x y : Int} (hx : 0 ≤ x ∧ x < 2147483648) (hy : 0 ≤ y ∧ y < 2147483648) : zor x y = zorN x y := by
  have e0 : zor x y = (Int32.ofInt x ||| Int32.ofInt y).toBitVec.toInt := rfl
  have e1 : (Int32.ofInt x ||| Int32.ofInt y).toBitVec.toNat = (Int32.ofInt x).toBitVec.toNat ||| (Int32.ofInt y).toBitVec.toNat := BitVec.toNat_or _ _
  have e2 : (Int32.ofInt x).toBitVec.toNat = x.toNat := by
    have h : (Int32.ofInt x).toBitVec.toNat = (x % 4294967296).toNat := BitVec.toNat_ofInt (n := 32) x
    rw [h]
    omega
  have e3 : (Int32.ofInt y).toBitVec.toNat = y.toNat := by
    have h : (Int32.ofInt y).toBitVec.toNat = (y % 4294967296).toNat := BitVec.toNat_ofInt (n := 32) y
    rw [h]
    omega
  rw [e2, e3] at e1
  have h4 : x.toNat ||| y.toNat < 2 ^ 31 := Nat.or_lt_two_pow (by omega) (by omega)
  rw [e0, BitVec.toInt_eq_toNat_cond, e1, if_pos (by omega)]
  rfl
theorem zorL_eq {x y : Int} (hx : 0 ≤ x ∧ x < 2147483648) (hy : 0 ≤ y ∧ y < 2147483648) : zorL x y = zorN x y := by
  have e0 : zorL x y = (Int64.ofInt x ||| Int64.ofInt y).toBitVec.toInt := rfl
  have e1 : (Int64.ofInt x ||| Int64.ofInt y).toBitVec.toNat = (Int64.ofInt x).toBitVec.toNat ||| (Int64.ofInt y).toBitVec.toNat := BitVec.toNat_or _ _
  have e2 : (Int64.ofInt x).toBitVec.toNat = x.toNat := by
    have h : (Int64.ofInt x).toBitVec.toNat = (x % 18446744073709551616).toNat := BitVec.toNat_ofInt (n := 64) x
    rw [h]
    omega
  have e3 : (Int64.ofInt y).toBitVec.toNat = y.toNat := by
    have h : (Int64.ofInt y).toBitVec.toNat = (y % 18446744073709551616).toNat := BitVec.toNat_ofInt (n := 64) y
    rw [h]
    omega
  rw [e2, e3] at e1
  have h4 : x.toNat ||| y.toNat < 2 ^ 31 := Nat.or_lt_two_pow (by omega) (by omega)
  rw [e0, BitVec.toInt_eq_toNat_cond, e1, if_pos (by omega)]
  rfl
theorem zorN_lt {x y : Int} (k : Nat) (hx : 0 ≤ x ∧ x < (2 ^ k : Nat)) (hy : 0 ≤ y ∧ y < (2 ^ k : Nat)) : 0 ≤ zorN x y ∧ zorN x y < (2 ^ k : Nat) := by
  have h := Nat.or_lt_two_pow (n := k) (x := x.toNat) (y := y.toNat) (by omega) (by omega)
  unfold zorN
  omega
theorem zorN_b {x y : Int} (hx : 0 ≤ x ∧ x < 256) (hy : 0 ≤ y ∧ y < 256) : 0 ≤ zorN x y ∧ zorN x y < 256 := zorN_lt 8 hx hy
theorem zorN_32 {x y : Int} (hx : 0 ≤ x ∧ x < 32) (hy : 0 ≤ y ∧ y < 32) : 0 ≤ zorN x y ∧ zorN x y < 32 := zorN_lt 5 hx hy
theorem zorN_0 {x : Int} (hx : 0 ≤ x) : zorN x 0 = x := by
  unfold zorN
  rw [show (0 : Int).toNat = 0 from rfl, Nat.or_zero]
  omega
theorem zorN_self {x y : Int} (hx : 0 ≤ x) : zorN (zorN x y) y = zorN x y := by
  unfold zorN
  rw [Int.toNat_natCast, Nat.or_assoc, Nat.or_self]
theorem zorN_rot {x y z : Int} : zorN (zorN x y) z = zorN (zorN x z) y := by
  unfold zorN
  rw [Int.toNat_natCast, Int.toNat_natCast, Nat.or_assoc, Nat.or_comm y.toNat, ← Nat.or_assoc]
/-- what is told of a block: both ways -/
theorem stat_eq {m off told z1 z2 : Int} (hm : 0 ≤ m ∧ m < 32) (ht : told = 0 ∨ told = 64) (p1 p2 : Prop) [Decidable p1] [Decidable p2] :
    (zn (if off ≤ 0 then m else zn (zor m 32) fun z => z) fun a => zn (if p1 then a else zn (zor a 128) fun z => z) fun a => zn (zor a told) fun a => zn (if p2 then a else zn (zor a 128) fun z => z) fun a => a) =
    (zn (if off ≤ 0 then (0 : Int) else 32) fun v => zn (zorL m v) fun a => zn (zorL a told) fun a => zn (if (if p1 then (0 : Int) else 1) = 1 then (128 : Int) else if p2 then 0 else 128) fun v => zn (zorL a v) fun a => a) ∧
    (0 ≤ (zn (if off ≤ 0 then (0 : Int) else 32) fun v => zn (zorL m v) fun a => zn (zorL a told) fun a => zn (if (if p1 then (0 : Int) else 1) = 1 then (128 : Int) else if p2 then 0 else 128) fun v => zn (zorL a v) fun a => a) ∧ (zn (if off ≤ 0 then (0 : Int) else 32) fun v => zn (zorL m v) fun a => zn (zorL a told) fun a => zn (if (if p1 then (0 : Int) else 1) = 1 then (128 : Int) else if p2 then 0 else 128) fun v => zn (zorL a v) fun a => a) < 256) := by
  simp only [zn_a]
  have r32 : zor m 32 = zorN m 32 := zor_eq (by omega) (by omega)
  have l32 : zorL m 32 = zorN m 32 := zorL_eq (by omega) (by omega)
  have l0 : zorL m 0 = m := by rw [zorL_eq (by omega) (by omega), zorN_0 hm.1]
  have b32 := zorN_b (x := m) (y := 32) (by omega) (by omega)
  obtain ⟨a, ea, e1, e2⟩ : ∃ a, (0 ≤ a ∧ a < 256) ∧ (if off ≤ 0 then m else zor m 32) = a ∧ zorL m (if off ≤ 0 then (0 : Int) else 32) = a := by
    by_cases h : off ≤ 0
    · rw [if_pos h, if_pos h]
      exact ⟨m, by omega, rfl, l0⟩
    · rw [if_neg h, if_neg h, r32, l32]
      exact ⟨_, b32, rfl, rfl⟩
  rw [e1, e2]
  clear e1 e2 r32 l32 l0 b32
  have k1 : zor a 128 = zorN a 128 := zor_eq (by omega) (by omega)
  have kb1 := zorN_b (x := a) (y := 128) ea (by omega)
  have k2 : zorL a told = zorN a told := zorL_eq (by omega) (by omega)
  have k2' : zor a told = zorN a told := zor_eq (by omega) (by omega)
  have kb2 := zorN_b (x := a) (y := told) ea (by omega)
  have k3 : zor (zorN a 128) told = zorN (zorN a 128) told := zor_eq (by omega) (by omega)
  have kb3 := zorN_b (x := zorN a 128) (y := told) kb1 (by omega)
  have k4 : zorL (zorN a told) 128 = zorN (zorN a told) 128 := zorL_eq (by omega) (by omega)
  have kb4 := zorN_b (x := zorN a told) (y := 128) kb2 (by omega)
  have k4' : zor (zorN a told) 128 = zorN (zorN a told) 128 := zor_eq (by omega) (by omega)
  have k5 : zor (zorN (zorN a 128) told) 128 = zorN (zorN (zorN a 128) told) 128 := zor_eq (by omega) (by omega)
  have k6 : zorL (zorN a told) 0 = zorN a told := by rw [zorL_eq (by omega) (by omega), zorN_0 kb2.1]
  rw [k2]
  by_cases h1 : p1
  · rw [if_pos h1, if_pos h1, if_neg (show ¬ (0 : Int) = 1 by decide), k2']
    by_cases h2 : p2
    · rw [if_pos h2, if_pos h2, k6]
      exact ⟨rfl, kb2⟩
    · rw [if_neg h2, if_neg h2, k4, k4']
      exact ⟨rfl, kb4⟩
  · rw [if_neg h1, if_neg h1, if_pos (show (1 : Int) = 1 from rfl), k1, k3, k4]
    refine ⟨?_, kb4⟩
    by_cases h2 : p2
    · rw [if_pos h2]
      exact zorN_rot
    · rw [if_neg h2, k5, zorN_rot (x := a), zorN_self kb2.1]
end
section
/-! The load and the block on both sides. -/
def LL (n : Int) (a28 w : Int → Int) : Prop := (∀ i, 0 ≤ i → i < min n 64 → ∀ k, 0 ≤ k → k < 6 → a28 ((n - 1 - i) % 64 * 6 + k) = w (788 + 6 * (min n 64 - 1 - i) + k)) ∧ (∀ j, n ≤ j → j < 64 → ∀ k, 0 ≤ k → k < 6 → a28 (j * 6 + k) = 0)
/-- the block that goes on -/
def LB (c : Nat → Int → Int) (w : Int → Int) : Prop := c 27 3 = w 22 ∧ c 27 4 = w 23 ∧ c 27 5 = w 24 ∧ c 27 6 = w 25 ∧ c 27 7 = w 26 ∧ c 27 8 = w 27 ∧ 0 ≤ w 25 ∧ w 25 ≤ 1000000000 ∧ 0 ≤ w 26 ∧ w 26 ≤ 1000000000 ∧ 0 ≤ w 27 ∧ w 27 < 32
def LD (c : Nat → Int → Int) (w : Int → Int) : Prop := c 27 2 = w 17 ∧ 0 ≤ w 17 ∧ LL (w 17) (c 28) w ∧ (∀ k, 0 ≤ k → k < 4 → c 29 k = w (1607 + k)) ∧ LB c w
/-- whether the block began beside its beginning -/
def OD (c : Nat → Int → Int) (w : Int → Int) : Prop := w 21 = if c 27 9 % w 8 = 0 then 0 else 1
def v6 (t a b d e s k : Int) : Int := if k = 0 then t else if k = 1 then a else if k = 2 then b else if k = 3 then d else if k = 4 then e else s
theorem LD.fe {c c' : Nat → Int → Int} {w w' : Int → Int} (h : LD c w) (h1 : FE 7 c c') (h2 : FW 7 w w') : LD c' w' := by
  obtain ⟨a1, a2, ⟨a3, a4⟩, a5, b1, b2, b3, b4, b5, b6, b7⟩ := h
  have e17 : w' 17 = w 17 := h2 17 (by omega) (by omega) ja45_17
  have eb : ∀ i, 21 ≤ i → i ≤ 27 → w' i = w i := fun i i0 i1 => h2 i (by omega) (by omega) (ja45_21 ⟨i0, i1⟩)
  refine ⟨by rw [h1.p27_2 2 (by omega) (by omega), e17]; exact a1, by omega, ⟨fun i i0 i1 k k0 k1 => ?_, fun j j0 j1 k k0 k1 => ?_⟩, fun k k0 k1 => ?_, ?_⟩
  · rw [e17] at i1 ⊢
    rw [h1.p28_0 _ (by omega) (by omega), h2 _ (by omega) (by omega) (ja45_788 (by omega))]
    exact a3 i i0 i1 k k0 k1
  · rw [h1.p28_0 _ (by omega) (by omega)]
    exact a4 j (by omega) j1 k k0 k1
  · rw [h1.p29_0 k k0 (by omega), h2 _ (by omega) (by omega) (ja45_1607 (by omega))]
    exact a5 k k0 k1
  · unfold LB
    rw [h1.p27_2 3 (by omega) (by omega), h1.p27_2 4 (by omega) (by omega), h1.p27_2 5 (by omega) (by omega), h1.p27_2 6 (by omega) (by omega), h1.p27_2 7 (by omega) (by omega), h1.p27_2 8 (by omega) (by omega), eb 22 (by omega) (by omega), eb 23 (by omega) (by omega), eb 24 (by omega) (by omega), eb 25 (by omega) (by omega), eb 26 (by omega) (by omega), eb 27 (by omega) (by omega)]
    exact ⟨b1, b2, b3, b4, b5, b6, b7⟩
theorem LL.add {n : Int} {a a' w w' : Int → Int} {f : Int → Int} (h : LL n a w) (hn0 : 0 ≤ n) (ha : ∀ i, a' i = if n % 64 * 6 ≤ i ∧ i < n % 64 * 6 + 6 then f (i - n % 64 * 6) else a i)
    (hn : ∀ k, 0 ≤ k → k < 6 → w' (788 + 6 * (min (n + 1) 64 - 1) + k) = f k)
    (ho : ∀ j k, 0 ≤ j → j < min (n + 1) 64 - 1 → 0 ≤ k → k < 6 → w' (788 + 6 * j + k) = if n < 64 then w (788 + 6 * j + k) else w (788 + 6 * (j + 1) + k)) : LL (n + 1) a' w' := by
  obtain ⟨h3, h4⟩ := h
  refine ⟨fun i i0 i1 k k0 k1 => ?_, fun j j0 j1 k k0 k1 => ?_⟩
  · rw [ha]
    by_cases e : i = 0
    · subst e
      rw [if_pos (by omega), show min (n + 1) 64 - 1 - 0 = min (n + 1) 64 - 1 by omega, hn k k0 k1]
      congr 1
      omega
    · rw [if_neg (by omega), ho _ k (by omega) (by omega) k0 k1]
      have h5 := h3 (i - 1) (by omega) (by omega) k k0 k1
      rw [show n + 1 - 1 - i = n - 1 - (i - 1) by omega, h5]
      by_cases e2 : n < 64
      · rw [if_pos e2]
        congr 1
        omega
      · rw [if_neg e2]
        congr 1
        omega
  · rw [ha, if_neg (by omega)]
    exact h4 j (by omega) j1 k k0 k1
/-! the class: a line more -/
theorem lost62 {k : zM → zM} {g : Nat} {b1 b2 p : Int} : ∀ (n : Nat) (y : Int) (m : zM), 0 ≤ y → y ≤ 4 → 4 - y < n → ∃ m', fl62_14_1 k g b1 b2 p n y m = k m' ∧ (∀ g' k, (g' ≠ g ∨ k ≠ 29) → m' g' k = m g' k) ∧ (∀ i, y ≤ i → i < 4 → m' g 29 i = w64 (m g 29 i + m g 28 (p + 1 + i))) ∧ (∀ i, (i < y ∨ 4 ≤ i) → m' g 29 i = m g 29 i)
  | 0, y, m, h0, h1, h2 => by omega
  | n + 1, y, m, h0, h1, h2 => by
    show ∃ m', fl62_14_1_b (fl62_14_1 k g b1 b2 p n) k g b1 b2 p y m = k m' ∧ _
    unfold fl62_14_1_b
    by_cases h : 4 ≤ y
    · rw [if_pos h]
      exact ⟨m, rfl, fun _ _ _ => rfl, fun i i0 i1 => by omega, fun _ _ => rfl⟩
    · rw [if_neg h, zn_a, zs_a]
      obtain ⟨m', e, e1, e2, e3⟩ := lost62 (k := k) (g := g) (b1 := b1) (b2 := b2) (p := p) n (y + 1) (z_upd m g 29 y (w64 (m g 29 y + m g 28 (p + 1 + y)))) (by omega) (by omega) (by omega)
      refine ⟨m', e, fun g' k' hk => ?_, fun i i0 i1 => ?_, fun i hi => ?_⟩
      · rw [e1 g' k' hk]
        rcases hk with hk | hk
        · rw [zu_g _ _ _ hk]
        · rw [zu_k _ _ _ hk]
      · by_cases e4 : i = y
        · rw [e3 i (by omega), zu_row, e4, fu_s]
        · rw [e2 i (by omega) i1, zu_row, fu_i _ _ e4, zu_k _ _ _ (by decide)]
      · rw [e3 i (by omega), zu_row, fu_i _ _ (by omega)]
theorem line_c (m : zM) (g : Nat) (t s : Int) : (∀ i, f62_1 g t s m g 28 i = if m g 27 2 % 64 * 6 ≤ i ∧ i < m g 27 2 % 64 * 6 + 6 then v6 t (m g 27 3) (m g 27 4) (m g 27 5) (m g 27 6) s (i - m g 27 2 % 64 * 6) else m g 28 i) ∧
    (∀ k, 0 ≤ k → k < 4 → f62_1 g t s m g 29 k = w64 (m g 29 k + m g 28 (m g 27 2 % 64 * 6 + 1 + k))) ∧ f62_1 g t s m g 27 2 = m g 27 2 + 1 ∧ (∀ i, i ≠ 2 → f62_1 g t s m g 27 i = m g 27 i) ∧ (∀ g' k, (g' ≠ g ∨ (k ≠ 27 ∧ k ≠ 28 ∧ k ≠ 29)) → f62_1 g t s m g' k = m g' k) := by
  unfold f62_1
  obtain ⟨m1, e, e1, e2, e3⟩ := lost62 (k := fun m502 => zs (z_upd m502 g 28 ((((m g 27 2) % 64) * 6) + 0) t) fun m506 => zs (z_upd m506 g 28 ((((m g 27 2) % 64) * 6) + 1) (m506 g 27 3)) fun m508 => zs (z_upd m508 g 28 ((((m g 27 2) % 64) * 6) + 2) (m508 g 27 4)) fun m510 => zs (z_upd m510 g 28 ((((m g 27 2) % 64) * 6) + 3) (m510 g 27 5)) fun m512 => zs (z_upd m512 g 28 ((((m g 27 2) % 64) * 6) + 4) (m512 g 27 6)) fun m515 => zs (z_upd m515 g 28 ((((m g 27 2) % 64) * 6) + 5) s) fun m517 => zs (z_upd m517 g 27 2 ((m517 g 27 2) + 1)) fun m520 => m520) (g := g) (b1 := t) (b2 := s) (p := m g 27 2 % 64 * 6) (zfu 5) 0 m (by omega) (by omega) (by rw [zfu_eq]; omega)
  rw [e]
  have q27 : m1 g 27 = m g 27 := e1 g 27 (.inr (by decide))
  have q28 : m1 g 28 = m g 28 := e1 g 28 (.inr (by decide))
  simp only [zs_a]
  refine ⟨fun i => ?_, fun k k0 k1 => ?_, ?_, fun i hi => ?_, fun g' k h => ?_⟩
  · simp only [zu_row, zu_k _ _ _ (show (28 : Nat) ≠ 27 by decide), zu_k _ _ _ (show (27 : Nat) ≠ 28 by decide), q27, q28]
    unfold fu v6
    repeat' split
    all_goals first | rfl | omega
  · simp only [zu_k _ _ _ (show (29 : Nat) ≠ 27 by decide), zu_k _ _ _ (show (29 : Nat) ≠ 28 by decide)]
    exact e2 k k0 k1
  · simp only [zu_row, zu_k _ _ _ (show (27 : Nat) ≠ 28 by decide), q27, fu_s]
  · simp only [zu_row, zu_k _ _ _ (show (27 : Nat) ≠ 28 by decide), q27]
    rw [fu_i _ _ hi]
  · rcases h with h | h
    · simp only [zu_g _ _ _ h]
      exact e1 g' k (.inl h)
    · simp only [zu_k _ _ _ h.1, zu_k _ _ _ h.2.1]
      exact e1 g' k (.inr h.2.2)
/-- the block's numbers are nought -/
def nul27 (m m' : zM) (g : Nat) (t : Int) : Prop := (∀ i, 3 ≤ i → i ≤ 8 → m' g 27 i = 0) ∧ m' g 27 9 = t ∧ (∀ i, (i < 3 ∨ 9 < i) → m' g 27 i = m g 27 i) ∧ (∀ g' k, (g' ≠ g ∨ k ≠ 27) → m' g' k = m g' k)
theorem nul27_ok (m : zM) (g : Nat) (t : Int) : nul27 m (z_upd (z_upd (z_upd (z_upd (z_upd (z_upd (z_upd m g 27 3 0) g 27 4 0) g 27 5 0) g 27 6 0) g 27 7 0) g 27 8 0) g 27 9 t) g t := by
  refine ⟨fun i i0 i1 => ?_, ?_, fun i hi => ?_, fun g' k h => ?_⟩
  · simp only [zu_row]
    unfold fu
    repeat' split
    all_goals first | rfl | omega
  · rw [zu_row, fu_s]
  · simp only [zu_row]
    rw [fu_i _ _ (by omega), fu_i _ _ (by omega), fu_i _ _ (by omega), fu_i _ _ (by omega), fu_i _ _ (by omega), fu_i _ _ (by omega), fu_i _ _ (by omega)]
  · rcases h with h | h
    · simp only [zu_g _ _ _ h]
    · simp only [zu_k _ _ _ h]
/-! the reference: a block begins -/
theorem nul233 {k : zM → zM} : ∀ (n : Nat) (y : Int) (m : zM), 22 ≤ y → y ≤ 28 → 28 - y < n → ∃ m', fl233_3_1 k n y m = k m' ∧ (∀ g k, (g ≠ 4 ∨ k ≠ 45) → m' g k = m g k) ∧ (∀ i, y ≤ i → i ≤ 27 → m' 4 45 i = 0) ∧ (∀ i, (i < y ∨ 27 < i) → m' 4 45 i = m 4 45 i)
  | 0, y, m, h0, h1, h2 => by omega
  | n + 1, y, m, h0, h1, h2 => by
    show ∃ m', fl233_3_1_b (fl233_3_1 k n) k y m = k m' ∧ _
    unfold fl233_3_1_b
    by_cases h : 27 < y
    · rw [if_pos h]
      exact ⟨m, rfl, fun _ _ _ => rfl, fun i i0 i1 => by omega, fun _ _ => rfl⟩
    · rw [if_neg h, zs_a]
      obtain ⟨m', e, e1, e2, e3⟩ := nul233 (k := k) n (y + 1) (z_upd m 4 45 y 0) (by omega) (by omega) (by omega)
      refine ⟨m', e, fun g' k' hk => ?_, fun i i0 i1 => ?_, fun i hi => ?_⟩
      · rw [e1 g' k' hk]
        rcases hk with hk | hk
        · rw [zu_g _ _ _ hk]
        · rw [zu_k _ _ _ hk]
      · by_cases e4 : i = y
        · rw [e3 i (by omega), zu_row, e4, fu_s]
        · exact e2 i (by omega) i1
      · rw [e3 i (by omega), zu_row, fu_i _ _ (by omega)]
theorem begin_r (m : zM) : (∀ i, 22 ≤ i → i ≤ 27 → f233_1 m 4 45 i = 0) ∧ f233_1 m 4 45 21 = (if m 4 45 0 % m 4 45 8 = 0 then 0 else 1) ∧ (∀ i, (i < 21 ∨ 27 < i) → f233_1 m 4 45 i = m 4 45 i) ∧ (∀ g k, (g ≠ 4 ∨ k ≠ 45) → f233_1 m g k = m g k) := by
  unfold f233_1
  obtain ⟨m1, e, e1, e2, e3⟩ := nul233 (k := fun m501 => zn (((m501 4 45 0) % (m501 4 45 8))) fun z507 => zn (if z507 = 0 then (0) else (1)) fun v510 => zs (z_upd m501 4 45 21 v510) fun m515 => m515) (zfu 7) 22 m (by omega) (by omega) (by rw [zfu_eq]; omega)
  rw [e]
  simp only [zn_a, zs_a]
  refine ⟨fun i i0 i1 => ?_, ?_, fun i hi => ?_, fun g k h => ?_⟩
  · rw [zu_row, fu_i _ _ (by omega)]
    exact e2 i i0 i1
  · rw [zu_row, fu_s, e3 0 (by omega), e3 8 (by omega)]
  · rw [zu_row, fu_i _ _ (by omega)]
    exact e3 i (by omega)
  · rw [← e1 g k h]
    rcases h with h | h
    · rw [zu_g _ _ _ h]
    · rw [zu_k _ _ _ h]
end
section
/-! The end of a block on both sides. -/
theorem shl151 {k : zM → zM} {a b : Int} : ∀ (n : Nat) (y : Int) (m : zM), 6 ≤ y → y ≤ 384 → 384 - y < n → ∃ m', fl232_151_1 k a b n y m = k m' ∧ (∀ g k, (g ≠ 4 ∨ k ≠ 45) → m' g k = m g k) ∧ (∀ i, 782 + y ≤ i → i < 1166 → m' 4 45 i = m 4 45 (i + 6)) ∧ (∀ i, (i < 782 + y ∨ 1166 ≤ i) → m' 4 45 i = m 4 45 i)
  | 0, y, m, h0, h1, h2 => by omega
  | n + 1, y, m, h0, h1, h2 => by
    show ∃ m', fl232_151_1_b (fl232_151_1 k a b n) k a b y m = k m' ∧ _
    unfold fl232_151_1_b
    by_cases h : 384 ≤ y
    · rw [if_pos h]
      exact ⟨m, rfl, fun _ _ _ => rfl, fun i i0 i1 => by omega, fun _ _ => rfl⟩
    · rw [if_neg h, zs_a]
      obtain ⟨m', e, e1, e2, e3⟩ := shl151 (k := k) (a := a) (b := b) n (y + 1) (z_upd m 4 45 (788 + y - 6) (m 4 45 (788 + y))) (by omega) (by omega) (by omega)
      refine ⟨m', e, fun g k' hk => ?_, fun i i0 i1 => ?_, fun i hi => ?_⟩
      · rw [e1 g k' hk]
        rcases hk with hk | hk
        · rw [zu_g _ _ _ hk]
        · rw [zu_k _ _ _ hk]
      · by_cases e4 : i = 782 + y
        · rw [e3 i (by omega), zu_row, show i = 788 + y - 6 by omega, fu_s, show 788 + y - 6 + 6 = 788 + y by omega]
        · rw [e2 i (by omega) i1, zu_row, fu_i _ _ (by omega)]
      · rw [e3 i (by omega), zu_row, fu_i _ _ (by omega)]
theorem lost112 {k : zM → zM} {a b : Int} : ∀ (n : Nat) (y : Int) (m : zM), 0 ≤ y → y ≤ 4 → 4 - y < n → ∃ m', fl232_112_1 k a b n y m = k m' ∧ (∀ g k, (g ≠ 4 ∨ k ≠ 45) → m' g k = m g k) ∧ (∀ i, y ≤ i → i < 4 → m' 4 45 (1607 + i) = w64 (m 4 45 (1607 + i) + m 4 45 (788 + (1 + i)))) ∧ (∀ i, (i < 1607 + y ∨ 1611 ≤ i) → m' 4 45 i = m 4 45 i)
  | 0, y, m, h0, h1, h2 => by omega
  | n + 1, y, m, h0, h1, h2 => by
    show ∃ m', fl232_112_1_b (fl232_112_1 k a b n) k a b y m = k m' ∧ _
    unfold fl232_112_1_b
    by_cases h : 4 ≤ y
    · rw [if_pos h]
      exact ⟨m, rfl, fun _ _ _ => rfl, fun i i0 i1 => by omega, fun _ _ => rfl⟩
    · rw [if_neg h, zn_a, zn_a, zs_a]
      have e9 : f234_1 0 (1 + y) m = m 4 45 (788 + (1 + y)) := by
        unfold f234_1
        congr 1
      rw [e9]
      obtain ⟨m', e, e1, e2, e3⟩ := lost112 (k := k) (a := a) (b := b) n (y + 1) (z_upd m 4 45 (1607 + y) (w64 (m 4 45 (1607 + y) + m 4 45 (788 + (1 + y))))) (by omega) (by omega) (by omega)
      refine ⟨m', e, fun g k' hk => ?_, fun i i0 i1 => ?_, fun i hi => ?_⟩
      · rw [e1 g k' hk]
        rcases hk with hk | hk
        · rw [zu_g _ _ _ hk]
        · rw [zu_k _ _ _ hk]
      · by_cases e4 : i = y
        · rw [e3 _ (by omega), zu_row, e4, fu_s]
        · rw [e2 i (by omega) i1, zu_row, fu_i _ _ (by omega), fu_i _ _ (by omega)]
      · rw [e3 i (by omega), zu_row, fu_i _ _ (by omega)]
/-- the six numbers of a line are put -/
noncomputable def put6 (m : zM) (p s : Int) : zM := zs (z_upd m 4 45 17 ((m 4 45 17) + 1)) fun m541 => zs (z_upd m541 4 45 (788 + (6 * p)) (m541 4 45 0)) fun m544 => zs (z_upd m544 4 45 ((788 + (6 * p)) + 1) (m544 4 45 22)) fun m546 => zs (z_upd m546 4 45 ((788 + (6 * p)) + 2) (m546 4 45 23)) fun m548 => zs (z_upd m548 4 45 ((788 + (6 * p)) + 3) (m548 4 45 24)) fun m550 => zs (z_upd m550 4 45 ((788 + (6 * p)) + 4) (m550 4 45 25)) fun m552 => zs (z_upd m552 4 45 ((788 + (6 * p)) + 5) s) fun m554 => m554
theorem put6_e (m : zM) {p : Int} (s : Int) (hp : 0 ≤ p) : put6 m p s = z_upd (z_upd (z_upd (z_upd (z_upd (z_upd (z_upd m 4 45 17 (m 4 45 17 + 1)) 4 45 (788 + 6 * p) (m 4 45 0)) 4 45 (788 + 6 * p + 1) (m 4 45 22)) 4 45 (788 + 6 * p + 2) (m 4 45 23)) 4 45 (788 + 6 * p + 3) (m 4 45 24)) 4 45 (788 + 6 * p + 4) (m 4 45 25)) 4 45 (788 + 6 * p + 5) s := by
  unfold put6
  simp only [zs_a]
  have a0 : z_upd m 4 45 17 (m 4 45 17 + 1) 4 45 0 = m 4 45 0 := by rw [zu_row, fu_i _ _ (by omega)]
  rw [a0]
  have a1 : z_upd (z_upd m 4 45 17 (m 4 45 17 + 1)) 4 45 (788 + 6 * p) (m 4 45 0) 4 45 22 = m 4 45 22 := by rw [zu_row, fu_i _ _ (by omega), zu_row, fu_i _ _ (by omega)]
  rw [a1]
  have a2 : z_upd (z_upd (z_upd m 4 45 17 (m 4 45 17 + 1)) 4 45 (788 + 6 * p) (m 4 45 0)) 4 45 (788 + 6 * p + 1) (m 4 45 22) 4 45 23 = m 4 45 23 := by rw [zu_row, fu_i _ _ (by omega), zu_row, fu_i _ _ (by omega), zu_row, fu_i _ _ (by omega)]
  rw [a2]
  have a3 : z_upd (z_upd (z_upd (z_upd m 4 45 17 (m 4 45 17 + 1)) 4 45 (788 + 6 * p) (m 4 45 0)) 4 45 (788 + 6 * p + 1) (m 4 45 22)) 4 45 (788 + 6 * p + 2) (m 4 45 23) 4 45 24 = m 4 45 24 := by rw [zu_row, fu_i _ _ (by omega), zu_row, fu_i _ _ (by omega), zu_row, fu_i _ _ (by omega), zu_row, fu_i _ _ (by omega)]
  rw [a3]
  have a4 : z_upd (z_upd (z_upd (z_upd (z_upd m 4 45 17 (m 4 45 17 + 1)) 4 45 (788 + 6 * p) (m 4 45 0)) 4 45 (788 + 6 * p + 1) (m 4 45 22)) 4 45 (788 + 6 * p + 2) (m 4 45 23)) 4 45 (788 + 6 * p + 3) (m 4 45 24) 4 45 25 = m 4 45 25 := by rw [zu_row, fu_i _ _ (by omega), zu_row, fu_i _ _ (by omega), zu_row, fu_i _ _ (by omega), zu_row, fu_i _ _ (by omega), zu_row, fu_i _ _ (by omega)]
  rw [a4]
theorem put6_ok (m : zM) {p : Int} (s : Int) (hp : 0 ≤ p ∧ p < 64) : put6 m p s 4 45 17 = m 4 45 17 + 1 ∧ (∀ k, 0 ≤ k → k < 6 → put6 m p s 4 45 (788 + 6 * p + k) = v6 (m 4 45 0) (m 4 45 22) (m 4 45 23) (m 4 45 24) (m 4 45 25) s k) ∧ (∀ i, i ≠ 17 → ¬ (788 + 6 * p ≤ i ∧ i < 794 + 6 * p) → put6 m p s 4 45 i = m 4 45 i) ∧ (∀ g k, (g ≠ 4 ∨ k ≠ 45) → put6 m p s g k = m g k) := by
  rw [put6_e m s hp.1]
  refine ⟨?_, fun k k0 k1 => ?_, fun i i0 i1 => ?_, fun g k h => ?_⟩
  · simp only [zu_row]
    rw [fu_i _ _ (by omega), fu_i _ _ (by omega), fu_i _ _ (by omega), fu_i _ _ (by omega), fu_i _ _ (by omega), fu_i _ _ (by omega), fu_s]
  · simp only [zu_row]
    unfold fu v6
    repeat' split
    all_goals first | rfl | omega
  · simp only [zu_row]
    rw [fu_i _ _ (by omega), fu_i _ _ (by omega), fu_i _ _ (by omega), fu_i _ _ (by omega), fu_i _ _ (by omega), fu_i _ _ (by omega), fu_i _ _ i0]
  · rcases h with h | h
    · simp only [zu_g _ _ _ h]
    · simp only [zu_k _ _ _ h]
/-- what is told of a block, as the reference has it -/
noncomputable def stR (a : Int) (m : zM) : Int := zn (if (m 4 45 26) ≤ 0 then (0 : Int) else 32) fun v506 => zn (zorL (m 4 45 27) v506) fun z511 => zn (zorL z511 a) fun z512 => zn (if (m 4 45 21) = 1 then (128 : Int) else (zn (((m 4 45 0) % (m 4 45 8))) fun z517 => if z517 = 0 then (0) else (128))) fun v520 => zn (zorL z512 v520) fun z525 => z525
/-- a line more: the reference -/
theorem line_r (m : zM) (a : Int) (h17 : 0 ≤ m 4 45 17) (h0 : w64 (m 4 45 25 + m 4 45 26) ≠ 0) : ∃ m1, f232_1 a m = (if a = 0 then f236_1 (f233_1 m1) else f233_1 m1) ∧ m1 4 45 17 = m 4 45 17 + 1 ∧
    (∀ k, 0 ≤ k → k < 6 → m1 4 45 (788 + 6 * (min (m 4 45 17 + 1) 64 - 1) + k) = v6 (m 4 45 0) (m 4 45 22) (m 4 45 23) (m 4 45 24) (m 4 45 25) (stR a m) k) ∧
    (∀ j k, 0 ≤ j → j < min (m 4 45 17 + 1) 64 - 1 → 0 ≤ k → k < 6 → m1 4 45 (788 + 6 * j + k) = if m 4 45 17 < 64 then m 4 45 (788 + 6 * j + k) else m 4 45 (788 + 6 * (j + 1) + k)) ∧
    (∀ k, 0 ≤ k → k < 4 → m1 4 45 (1607 + k) = if m 4 45 17 < 64 then m 4 45 (1607 + k) else w64 (m 4 45 (1607 + k) + m 4 45 (788 + (1 + k)))) ∧
    (∀ i, i ≠ 17 → (i < 788 ∨ 1171 < i) → (i < 1607 ∨ 1610 < i) → m1 4 45 i = m 4 45 i) ∧ (∀ g k, (g ≠ 4 ∨ k ≠ 45) → m1 g k = m g k) := by
  have e235 : ∀ q : zM, f235_1 q = if q 4 45 17 < 64 then q 4 45 17 else 64 := fun q => rfl
  have hst : ∀ (f : Int → zM), (zn (if (m 4 45 26) ≤ 0 then (0 : Int) else 32) fun v506 => zn (zorL (m 4 45 27) v506) fun z511 => zn (zorL z511 a) fun z512 => zn (if (m 4 45 21) = 1 then (128 : Int) else (zn (((m 4 45 0) % (m 4 45 8))) fun z517 => if z517 = 0 then (0) else (128))) fun v520 => zn (zorL z512 v520) fun z525 => f z525) = f (stR a m) := fun f => rfl
  unfold f232_1
  rw [zn_a, if_neg h0]
  rw [hst]
  by_cases h : m 4 45 17 < 64
  · rw [if_pos h]
    refine ⟨put6 m (m 4 45 17) (stR a m), ?_, ?_⟩
    · rw [e235, zn_a, if_pos h, if_neg (by omega)]
      rfl
    · obtain ⟨p1, p2, p3, p4⟩ := put6_ok m (stR a m) (p := m 4 45 17) (by omega)
      refine ⟨p1, fun k k0 k1 => ?_, fun j k j0 j1 k0 k1 => ?_, fun k k0 k1 => ?_, fun i i0 i1 i2 => p3 i i0 (by omega), p4⟩
      · rw [show min (m 4 45 17 + 1) 64 - 1 = m 4 45 17 by omega]
        exact p2 k k0 k1
      · rw [if_pos h]
        exact p3 _ (by omega) (by omega)
      · rw [if_pos h]
        exact p3 _ (by omega) (by omega)
  · rw [if_neg h]
    obtain ⟨m1, e, e1, e2, e3⟩ := lost112 (k := fun m569 => fl232_151_1 (fun m573 => zn (f235_1 m573) fun v579 => zn (if 64 ≤ v579 then (63) else (zn (f235_1 m573) fun v583 => v583)) fun v584 => zs (z_upd m573 4 45 17 ((m573 4 45 17) + 1)) fun m590 => zs (z_upd m590 4 45 (788 + (6 * v584)) (m590 4 45 0)) fun m593 => zs (z_upd m593 4 45 ((788 + (6 * v584)) + 1) (m593 4 45 22)) fun m595 => zs (z_upd m595 4 45 ((788 + (6 * v584)) + 2) (m595 4 45 23)) fun m597 => zs (z_upd m597 4 45 ((788 + (6 * v584)) + 3) (m597 4 45 24)) fun m599 => zs (z_upd m599 4 45 ((788 + (6 * v584)) + 4) (m599 4 45 25)) fun m601 => zs (z_upd m601 4 45 ((788 + (6 * v584)) + 5) (stR a m)) fun m603 => zs (f233_1 m603) fun m605 => zs (if a = 0 then (zs (f236_1 m605) fun m610 => m610) else (m605)) fun m614 => m614) a (stR a m) (zfu 379) 6 m569) (a := a) (b := stR a m) (zfu 5) 0 m (by omega) (by omega) (by rw [zfu_eq]; omega)
    obtain ⟨m2, g, g1, g2, g3⟩ := shl151 (k := fun m573 => zn (f235_1 m573) fun v579 => zn (if 64 ≤ v579 then (63) else (zn (f235_1 m573) fun v583 => v583)) fun v584 => zs (z_upd m573 4 45 17 ((m573 4 45 17) + 1)) fun m590 => zs (z_upd m590 4 45 (788 + (6 * v584)) (m590 4 45 0)) fun m593 => zs (z_upd m593 4 45 ((788 + (6 * v584)) + 1) (m593 4 45 22)) fun m595 => zs (z_upd m595 4 45 ((788 + (6 * v584)) + 2) (m595 4 45 23)) fun m597 => zs (z_upd m597 4 45 ((788 + (6 * v584)) + 3) (m597 4 45 24)) fun m599 => zs (z_upd m599 4 45 ((788 + (6 * v584)) + 4) (m599 4 45 25)) fun m601 => zs (z_upd m601 4 45 ((788 + (6 * v584)) + 5) (stR a m)) fun m603 => zs (f233_1 m603) fun m605 => zs (if a = 0 then (zs (f236_1 m605) fun m610 => m610) else (m605)) fun m614 => m614) (a := a) (b := stR a m) (zfu 379) 6 m1 (by omega) (by omega) (by rw [zfu_eq]; omega)
    have q : ∀ i, i < 788 → m2 4 45 i = m 4 45 i := fun i hi => by rw [g3 i (by omega), e3 i (by omega)]
    refine ⟨put6 m2 63 (stR a m), ?_, ?_⟩
    · rw [e]
      try dsimp only
      rw [g, e235, zn_a, if_neg (show ¬ m2 4 45 17 < 64 by rw [q 17 (by omega)]; exact h), if_pos (by omega)]
      rfl
    · obtain ⟨p1, p2, p3, p4⟩ := put6_ok m2 (stR a m) (p := 63) (by omega)
      rw [q 17 (by omega)] at p1
      rw [q 0 (by omega), q 22 (by omega), q 23 (by omega), q 24 (by omega), q 25 (by omega)] at p2
      refine ⟨p1, fun k k0 k1 => ?_, fun j k j0 j1 k0 k1 => ?_, fun k k0 k1 => ?_, fun i i0 i1 i2 => ?_, fun g' k hk => ?_⟩
      · rw [show min (m 4 45 17 + 1) 64 - 1 = 63 by omega]
        exact p2 k k0 k1
      · rw [if_neg h, p3 _ (by omega) (by omega), g2 _ (by omega) (by omega), e3 _ (by omega)]
        congr 1
        omega
      · rw [if_neg h, p3 _ (by omega) (by omega), g3 _ (by omega), e2 k k0 k1]
      · rw [p3 i i0 (by omega), g3 i (by omega), e3 i (by omega)]
      · rw [p4 g' k hk, g1 g' k hk, e1 g' k hk]
/-- the class' status -/
theorem end_c (m : zM) (g : Nat) (t blk told : Int) (h6 : 0 ≤ m g 27 6 ∧ m g 27 6 ≤ 1000000000) (h7 : 0 ≤ m g 27 7 ∧ m g 27 7 ≤ 1000000000) :
    nul27 (if m g 27 6 + m g 27 7 ≤ 0 then m else f62_1 g t (zn (if m g 27 7 ≤ 0 then m g 27 8 else zn (zor (m g 27 8) 32) fun z => z) fun a => zn (if m g 27 9 % blk = 0 then a else zn (zor a 128) fun z => z) fun a => zn (zor a told) fun a => zn (if t % blk = 0 then a else zn (zor a 128) fun z => z) fun a => a) m) (f60_1 g t blk told m) g t := by
  unfold f60_1
  rw [zn_a, w32_id (by omega)]
  simp only [zs_a]
  exact nul27_ok _ g t
theorem r64_1607 {B : Int} {m : zM} (h : OM B m) {i : Int} (hi : 1607 ≤ i ∧ i ≤ 1610) : -9223372036854775808 ≤ m 4 45 i ∧ m 4 45 i ≤ 9223372036854775807 := by
  have h1 := h.2 4 45 i (jq_of rfl)
  unfold jl jh at h1
  rw [jf_no hi (jb 45) rfl] at h1
  exact h1
/-- what goes on of it, and whether the line is there -/
theorem ends_T {c r : zM} {g : Nat} {t blk told : Int} (hr : ∀ i, 1607 ≤ i ∧ i ≤ 1610 → -9223372036854775808 ≤ r 4 45 i ∧ r 4 45 i ≤ 9223372036854775807) (h : LD (c g) (r 4 45)) (ho : OD (c g) (r 4 45)) (ht : t = r 4 45 0) (hb : blk = r 4 45 8) (hto : told = 0 ∨ told = 64) :
    ∃ r1, (if r 4 45 25 + r 4 45 26 = 0 then f232_1 told r = r1 else f232_1 told r = (if told = 0 then f236_1 r1 else r1)) ∧ LD (f60_1 g t blk told c g) (r1 4 45) ∧ f60_1 g t blk told c g 27 9 = t ∧ r1 4 45 21 = (if r 4 45 0 % r 4 45 8 = 0 then 0 else 1) ∧
      (∀ g' k, (g' ≠ g ∨ (k ≠ 27 ∧ k ≠ 28 ∧ k ≠ 29)) → f60_1 g t blk told c g' k = c g' k) ∧ (∀ i, i ≠ 17 → (i < 21 ∨ 27 < i) → (i < 788 ∨ 1171 < i) → (i < 1607 ∨ 1610 < i) → r1 4 45 i = r 4 45 i) ∧ (∀ g k, (g ≠ 4 ∨ k ≠ 45) → r1 g k = r g k) ∧ (if r 4 45 25 + r 4 45 26 = 0 then r1 4 45 17 = r 4 45 17 else r1 4 45 17 = r 4 45 17 + 1 ∧ r1 4 45 (788 + 6 * (min (r 4 45 17 + 1) 64 - 1)) = r 4 45 0) := by
  obtain ⟨a1, a2, a3, a4, b3, b4, b5, b6, b7, b8, b9, b10, b11, b12, b13, b14⟩ := h
  obtain ⟨n1, n2, n3, n4⟩ := end_c c g t blk told (by omega) (by omega)
  by_cases hz : r 4 45 25 + r 4 45 26 = 0
  · rw [if_pos (show c g 27 6 + c g 27 7 ≤ 0 by omega)] at n3 n4
    obtain ⟨g1, g2, g3, g4⟩ := begin_r r
    refine ⟨f233_1 r, ?_, ?_, n2, g2, fun g' k hk => n4 g' k (by omega), fun i i0 i1 i2 i3 => g3 i i1, g4, ?_⟩
    · rw [if_pos hz]
      unfold f232_1
      rw [zn_a, w64_id (by omega), if_pos hz]
      rfl
    · unfold LD LB
      rw [n1 3 (by omega) (by omega), n1 4 (by omega) (by omega), n1 5 (by omega) (by omega), n1 6 (by omega) (by omega), n1 7 (by omega) (by omega), n1 8 (by omega) (by omega), g1 22 (by omega) (by omega), g1 23 (by omega) (by omega), g1 24 (by omega) (by omega), g1 25 (by omega) (by omega), g1 26 (by omega) (by omega), g1 27 (by omega) (by omega), n3 2 (by omega), g3 17 (by omega), n4 g 28 (.inr (by decide)), n4 g 29 (.inr (by decide))]
      refine ⟨a1, a2, ⟨fun i i0 i1 k k0 k1 => ?_, a3.2⟩, fun k k0 k1 => ?_, rfl, rfl, rfl, rfl, rfl, rfl, by omega, by omega, by omega, by omega, by omega, by omega⟩
      · rw [g3 _ (by omega)]
        exact a3.1 i i0 i1 k k0 k1
      · rw [g3 _ (by omega)]
        exact a4 k k0 k1
    · rw [if_pos hz]
      exact g3 17 (by omega)
  · rw [if_neg (show ¬ c g 27 6 + c g 27 7 ≤ 0 by omega)] at n3 n4
    obtain ⟨m1, e, l17, ln, lo, ll, lx, lg⟩ := line_r r told a2 (by rw [w64_id (by omega)]; exact hz)
    obtain ⟨g1, g2, g3, g4⟩ := begin_r m1
    have hst := (stat_eq (m := c g 27 8) (off := c g 27 7) (told := told) (z1 := 0) (z2 := 0) (by omega) hto (c g 27 9 % blk = 0) (t % blk = 0)).1
    obtain ⟨p1, p2, p3, p4, p5⟩ := line_c c g t (zn (if c g 27 7 ≤ 0 then c g 27 8 else zn (zor (c g 27 8) 32) fun z => z) fun a => zn (if c g 27 9 % blk = 0 then a else zn (zor a 128) fun z => z) fun a => zn (zor a told) fun a => zn (if t % blk = 0 then a else zn (zor a 128) fun z => z) fun a => a)
    generalize (zn (if c g 27 7 ≤ 0 then c g 27 8 else zn (zor (c g 27 8) 32) fun z => z) fun a => zn (if c g 27 9 % blk = 0 then a else zn (zor a 128) fun z => z) fun a => zn (zor a told) fun a => zn (if t % blk = 0 then a else zn (zor a 128) fun z => z) fun a => a) = S at n3 n4 hst p1 p2 p3 p4 p5
    have hS : S = stR told r := by
      rw [hst]
      unfold stR
      simp only [zn_a]
      unfold OD at ho
      rw [b7, b8, ho, ht, hb]
    rw [hS] at p1 p2 p3 p4 p5 n3 n4
    have q : ∀ k, k ≠ 27 → f60_1 g t blk told c g k = f62_1 g t (stR told r) c g k := fun k hk => n4 g k (.inr hk)
    have L : LL (r 4 45 17 + 1) (f62_1 g t (stR told r) c g 28) (m1 4 45) := by
      refine a3.add a2 (f := v6 t (c g 27 3) (c g 27 4) (c g 27 5) (c g 27 6) (stR told r)) (fun i => ?_) (fun k k0 k1 => ?_) lo
      · rw [p1 i, a1]
      · rw [ln k k0 k1, ht, b3, b4, b5, b6]
    refine ⟨f233_1 m1, ?_, ?_, n2, ?_, fun g' k hk => ?_, fun i i0 i1 i2 i3 => ?_, fun g' k hk => ?_, ?_⟩
    · rw [if_neg hz]
      exact e
    · unfold LD LB
      rw [n1 3 (by omega) (by omega), n1 4 (by omega) (by omega), n1 5 (by omega) (by omega), n1 6 (by omega) (by omega), n1 7 (by omega) (by omega), n1 8 (by omega) (by omega), g1 22 (by omega) (by omega), g1 23 (by omega) (by omega), g1 24 (by omega) (by omega), g1 25 (by omega) (by omega), g1 26 (by omega) (by omega), g1 27 (by omega) (by omega), n3 2 (by omega), g3 17 (by omega), q 28 (by decide), q 29 (by decide), p3, l17]
      refine ⟨by omega, by omega, ⟨fun i i0 i1 k k0 k1 => ?_, L.2⟩, fun k k0 k1 => ?_, rfl, rfl, rfl, rfl, rfl, rfl, by omega, by omega, by omega, by omega, by omega, by omega⟩
      · rw [g3 _ (by omega)]
        exact L.1 i i0 i1 k k0 k1
      · rw [g3 _ (by omega), ll k k0 k1, p2 k k0 k1, a4 k k0 k1, a1]
        by_cases h64 : r 4 45 17 < 64
        · rw [if_pos h64, show r 4 45 17 % 64 * 6 + 1 + k = r 4 45 17 * 6 + (1 + k) by omega, a3.2 _ (Int.le_refl _) h64 (1 + k) (by omega) (by omega)]
          have h9 := hr (1607 + k) (by omega)
          rw [Int.add_zero, w64_id h9]
        · rw [if_neg h64]
          have h9 := a3.1 63 (by omega) (by omega) (1 + k) (by omega) (by omega)
          rw [show r 4 45 17 % 64 * 6 + 1 + k = (r 4 45 17 - 1 - 63) % 64 * 6 + (1 + k) by omega, h9, show 788 + 6 * (min (r 4 45 17) 64 - 1 - 63) + (1 + k) = 788 + (1 + k) by omega]
    · rw [g2, lx 0 (by omega) (by omega) (by omega), lx 8 (by omega) (by omega) (by omega)]
    · rw [n4 g' k (by omega)]
      exact p5 g' k hk
    · rw [g3 i i1, lx i i0 i2 i3]
    · rw [g4 g' k hk, lg g' k hk]
    · rw [if_neg hz, g3 17 (by omega), l17, g3 _ (by omega)]
      refine ⟨by first | rfl | trivial, ?_⟩
      have h9 := ln 0 (by omega) (by omega)
      rw [Int.add_zero] at h9
      exact h9
end
section
/-! The demand on both sides. -/
def DM (c : Nat → Int → Int) (w : Int → Int) : Prop := c 30 2 = w 19 ∧ c 30 3 = w 20 ∧ (∀ t, 0 ≤ t → t < 4 → c 31 t = w (32 + t)) ∧ ∀ t, 0 ≤ t → t < 4 → c 32 t = w (36 + t)
theorem DM.fe {c c' : Nat → Int → Int} {w w' : Int → Int} (h : DM c w) (h1 : FE 8 c c') (h2 : FW 8 w w') : DM c' w' := by
  obtain ⟨a1, a2, a3, a4⟩ := h
  refine ⟨by rw [h1.p30_2 2 (by omega) (by omega), h2 19 (by omega) (by omega) (ja45_19 (by omega))]; exact a1, by rw [h1.p30_2 3 (by omega) (by omega), h2 20 (by omega) (by omega) (ja45_19 (by omega))]; exact a2, fun t t0 t1 => ?_, fun t t0 t1 => ?_⟩
  · rw [h1.p31_0 t t0 (by omega), h2 _ (by omega) (by omega) (ja45_32 (by omega))]
    exact a3 t t0 t1
  · rw [h1.p32_0 t t0 (by omega), h2 _ (by omega) (by omega) (ja45_32 (by omega))]
    exact a4 t t0 t1
theorem w64_bmod (x : Int) : w64 x = x.bmod 18446744073709551616 := Int64.toInt_ofInt
theorem w64_iff {x y : Int} (hy : -9223372036854775808 ≤ y ∧ y ≤ 9223372036854775807) : w64 x = y ↔ (x - y) % 18446744073709551616 = 0 := by
  rw [w64_bmod, Int.bmod_def]
  split <;> constructor <;> intro h <;> omega
theorem w64_swap {a b d : Int} (hb : -9223372036854775808 ≤ b ∧ b ≤ 9223372036854775807) (hd : -9223372036854775808 ≤ d ∧ d ≤ 9223372036854775807) : w64 (a - b) = d ↔ w64 (a - d) = b := by
  rw [w64_iff hd, w64_iff hb, show a - b - d = a - d - b by omega]
theorem c64_28 {B : Int} {m : zM} (h : OM B m) (g : Nat) (i : Int) : -9223372036854775808 ≤ m g 28 i ∧ m g 28 i ≤ 9223372036854775807 := by
  have h1 := h.2 g 28 i (jq_of rfl)
  have e : jb 28 = [] := rfl
  unfold jl jh at h1
  rw [e] at h1
  exact h1
theorem win_loop {c r : zM} {g : Nat} {win blk : Int} {k95 : zM} {k112 : Int → zM} (h28 : ∀ i, -9223372036854775808 ≤ c g 28 i ∧ c g 28 i ≤ 9223372036854775807) (hblk : 1 ≤ r 4 45 8 ∧ r 4 45 8 ≤ 3600) (h : LD (c g) (r 4 45)) (hw : win = r 4 45 9) (hb : blk = r 4 45 8) (hwn : 1 ≤ win ∧ win ≤ min (r 4 45 17) 64) : ∀ (n n2 n3 : Nat) (y s : Int), 0 ≤ y → y ≤ win → win - y < n → win - y < n2 → win - y < n3 →
    (fl65_12_1 (fun _ => 0) (fun _ => 0) 1 g win blk c n y = 0 ∧ fl236_24_1 k95 k112 (min (r 4 45 17) 64) r n2 s y = k95) ∨
    (fl65_12_1 (fun _ => 0) (fun _ => 0) 1 g win blk c n y = 1 ∧ fl236_24_1 k95 k112 (min (r 4 45 17) 64) r n2 s y = k112 (fl68_5_1 (fun v => v) g 0 win c n3 s y)) := by
  obtain ⟨a1, a2, a3, -⟩ := h
  intro n
  induction n with
  | zero =>
    intro n2 n3 y s h0 h1 h2 h3 h4
    omega
  | succ n ih =>
    intro n2 n3 y s h0 h1 h2 h3 h4
    obtain ⟨n2, rfl⟩ : ∃ q, n2 = q + 1 := ⟨n2 - 1, by omega⟩
    obtain ⟨n3, rfl⟩ : ∃ q, n3 = q + 1 := ⟨n3 - 1, by omega⟩
    show (fl65_12_1_b (fl65_12_1 (fun _ => 0) (fun _ => 0) 1 g win blk c n) (fun _ => 0) (fun _ => 0) 1 g win blk c y = 0 ∧ fl236_24_1_b (fl236_24_1 k95 k112 (min (r 4 45 17) 64) r n2) k95 k112 (min (r 4 45 17) 64) r s y = k95) ∨ (fl65_12_1_b (fl65_12_1 (fun _ => 0) (fun _ => 0) 1 g win blk c n) (fun _ => 0) (fun _ => 0) 1 g win blk c y = 1 ∧ fl236_24_1_b (fl236_24_1 k95 k112 (min (r 4 45 17) 64) r n2) k95 k112 (min (r 4 45 17) 64) r s y = k112 (fl68_5_1_b (fl68_5_1 (fun v => v) g 0 win c n3) (fun v => v) g 0 win c s y))
    unfold fl65_12_1_b fl236_24_1_b fl68_5_1_b
    by_cases e : win ≤ y
    · rw [if_pos e, if_neg (show ¬ y < r 4 45 9 by omega), if_pos (show 0 + win ≤ y by omega)]
      exact .inr ⟨rfl, rfl⟩
    have e5 := a3.1 y h0 (by omega) 5 (by omega) (by omega)
    have e0 := a3.1 y h0 (by omega) 0 (by omega) (by omega)
    have e1 := a3.1 y h0 (by omega) 1 (by omega) (by omega)
    have q5 : c g 28 ((c g 27 2 - 1 - y) % 64 * 6 + 5) = f234_1 (min (r 4 45 17) 64 - 1 - y) 5 r := by rw [a1, e5]; rfl
    have q0 : c g 28 ((c g 27 2 - 1 - y) % 64 * 6 + 0) = f234_1 (min (r 4 45 17) 64 - 1 - y) 0 r := by rw [a1, e0]; rfl
    have q1 : c g 28 ((c g 27 2 - 1 - y) % 64 * 6 + 1) = f234_1 (min (r 4 45 17) 64 - 1 - y) 1 r := by rw [a1, e1]; rfl
    rw [if_neg e, if_pos (show y < r 4 45 9 by omega), if_neg (show ¬ 0 + win ≤ y by omega)]
    simp only [zn_a]
    rw [q5, q0, q1]
    by_cases f1 : zandL (f234_1 (min (r 4 45 17) 64 - 1 - y) 5 r) 192 = 0
    case neg =>
      rw [if_neg f1, if_neg f1]
      exact .inl ⟨rfl, rfl⟩
    rw [if_pos f1, if_pos f1]
    by_cases f2 : y ≤ 0
    · rw [if_pos f2, if_pos f2]
      exact ih n2 n3 (y + 1) _ (by omega) (by omega) (by omega) (by omega) (by omega)
    rw [if_neg f2, if_neg f2]
    have p0 := a3.1 (y - 1) (by omega) (by omega) 0 (by omega) (by omega)
    have s0 : c g 28 ((c g 27 2 - 1 - (y - 1)) % 64 * 6 + 0) = f234_1 (min (r 4 45 17) 64 - 1 - y + 1) 0 r := by
      rw [a1, p0]
      unfold f234_1
      congr 1
      omega
    rw [s0, hb]
    have hx : -9223372036854775808 ≤ f234_1 (min (r 4 45 17) 64 - 1 - y) 0 r ∧ f234_1 (min (r 4 45 17) 64 - 1 - y) 0 r ≤ 9223372036854775807 := by rw [← q0]; exact h28 _
    by_cases f3 : w64 (f234_1 (min (r 4 45 17) 64 - 1 - y + 1) 0 r - f234_1 (min (r 4 45 17) 64 - 1 - y) 0 r) = r 4 45 8
    · rw [if_pos f3, if_pos ((w64_swap hx (by omega)).mp f3), ← hb]
      exact ih n2 n3 (y + 1) _ (by omega) (by omega) (by omega) (by omega) (by omega)
    · rw [if_neg f3, if_neg (fun h9 => f3 ((w64_swap hx (by omega)).mpr h9))]
      exact .inl ⟨rfl, rfl⟩
noncomputable def dmK (m : zM) (y511 : Int) : zM := zs (z_upd m 4 45 19 y511) fun m516 => zs (z_upd m516 4 45 20 (m516 4 45 0)) fun m519 => zn (f217_1 ((m519 4 45 0) - 1) m519) fun v524 => if y511 ≤ (m519 4 45 (32 + v524)) then (m519) else (zs (z_upd m519 4 45 (32 + v524) y511) fun m527 => zs (z_upd m527 4 45 (36 + v524) (m527 4 45 0)) fun m530 => m530)
theorem f236_k (m : zM) : f236_1 m = if f235_1 m < m 4 45 9 then m else fl236_24_1 m (dmK m) (f235_1 m) m (zfu 7) 0 0 := rfl
noncomputable def dcK (g0 g1 : Nat) (a4 v507 : Int) (m : zM) : zM := zs (z_upd m g0 30 2 v507) fun m508 => zn (w32 (m508 g1 28 ((((((m508 g1 27 2) - 1) - 0) % 64) * 6) + 0))) fun z511 => zs (z_upd m508 g0 30 3 z511) fun m512 => zs (if (m512 g0 30 2) ≤ (m512 g0 31 a4) then (m512) else (zs (z_upd m512 g0 31 a4 (m512 g0 30 2)) fun m516 => zs (z_upd m516 g0 32 a4 (m516 g0 30 3)) fun m519 => m519)) fun m522 => m522
theorem f64_k (g0 g1 : Nat) (a2 a3 a4 : Int) (m : zM) : f64_1 g0 g1 a2 a3 a4 m = if f65_1 g1 a2 a3 m = 0 then m else dcK g0 g1 a4 (f68_1 g1 0 a2 m) m := rfl
theorem f65_k (g : Nat) (a1 a2 : Int) (m : zM) : f65_1 g a1 a2 m = if a1 ≤ min (m g 27 2) 64 then fl65_12_1 (fun _ => 0) (fun _ => 0) 1 g a1 a2 m (zfu 7) 0 else 0 := rfl
theorem dem_T {c r : zM} {g : Nat} {win blk tar : Int} (h28 : ∀ i, -9223372036854775808 ≤ c g 28 i ∧ c g 28 i ≤ 9223372036854775807) (h8 : 1 ≤ r 4 45 8 ∧ r 4 45 8 ≤ 3600) (hwb : 1 ≤ r 4 45 9 ∧ r 4 45 9 ≤ 6) (ht0 : 0 ≤ r 4 45 0 ∧ r 4 45 0 ≤ 2000000000) (h : LD (c g) (r 4 45)) (hd : DM (c g) (r 4 45)) (hw : win = r 4 45 9) (hb : blk = r 4 45 8) (ht : 0 ≤ tar ∧ tar < 4) (h1 : 1 ≤ r 4 45 17) (hl : r 4 45 (788 + 6 * (min (r 4 45 17) 64 - 1)) = r 4 45 0)
    (htar : ∀ m : zM, (∀ i, 287 ≤ i → i ≤ 787 → m 4 45 i = r 4 45 i) → f217_1 (r 4 45 0 - 1) m = tar) :
    DM (f64_1 g g win blk tar c g) (f236_1 r 4 45) ∧ (∀ g' k, (g' ≠ g ∨ (k ≠ 30 ∧ k ≠ 31 ∧ k ≠ 32)) → f64_1 g g win blk tar c g' k = c g' k) ∧ (∀ i, i ≠ 19 → i ≠ 20 → (i < 32 ∨ 39 < i) → f236_1 r 4 45 i = r 4 45 i) ∧ (∀ g k, (g ≠ 4 ∨ k ≠ 45) → f236_1 r g k = r g k) := by
  have a1 := h.1
  have e235 : f235_1 r = min (r 4 45 17) 64 := by
    show (if r 4 45 17 < 64 then r 4 45 17 else 64) = _
    split <;> omega
  rw [f64_k, f65_k, f236_k, e235, a1]
  by_cases f1 : win ≤ min (r 4 45 17) 64
  case neg =>
    rw [if_neg f1, if_pos rfl, if_pos (show min (r 4 45 17) 64 < r 4 45 9 by omega)]
    exact ⟨hd, fun _ _ _ => rfl, fun _ _ _ _ => rfl, fun _ _ _ => rfl⟩
  rw [if_pos f1, if_neg (show ¬ min (r 4 45 17) 64 < r 4 45 9 by omega)]
  rcases win_loop (c := c) (k95 := r) (k112 := dmK r) h28 h8 h hw hb (by omega) (zfu 7) (zfu 7) (zfu 128) 0 0 (by omega) (by omega) (by rw [zfu_eq]; omega) (by rw [zfu_eq]; omega) (by rw [zfu_eq]; omega) with ⟨g1, g2⟩ | ⟨g1, g2⟩
  · rw [g1, g2, if_pos rfl]
    exact ⟨hd, fun _ _ _ => rfl, fun _ _ _ _ => rfl, fun _ _ _ => rfl⟩
  · rw [g1, g2, if_neg (show ¬ (1 : Int) = 0 by decide)]
    have es : f68_1 g 0 win c = fl68_5_1 (fun v => v) g 0 win c (zfu 128) 0 0 := rfl
    rw [← es]
    generalize f68_1 g 0 win c = S
    unfold dcK dmK
    simp only [zn_a, zs_a]
    have q27 : ∀ i, z_upd c g 30 2 S g 27 i = c g 27 i := fun i => by rw [zu_k _ _ _ (by decide)]
    have q28 : ∀ i, z_upd c g 30 2 S g 28 i = c g 28 i := fun i => by rw [zu_k _ _ _ (by decide)]
    have e0 := h.2.2.1.1 0 (by omega) (by omega) 0 (by omega) (by omega)
    rw [q27, q28, a1, e0, show 788 + 6 * (min (r 4 45 17) 64 - 1 - 0) + 0 = 788 + 6 * (min (r 4 45 17) 64 - 1) by omega, hl, w32_id (by omega)]
    have u0 : z_upd (z_upd r 4 45 19 S) 4 45 20 (z_upd r 4 45 19 S 4 45 0) 4 45 0 = r 4 45 0 := by rw [zu_row, fu_i _ _ (by decide), zu_row, fu_i _ _ (by decide)]
    have u1 : z_upd r 4 45 19 S 4 45 0 = r 4 45 0 := by rw [zu_row, fu_i _ _ (by decide)]
    rw [u0, u1]
    rw [htar _ (fun i i0 i1 => by rw [zu_row, fu_i _ _ (by omega), zu_row, fu_i _ _ (by omega)])]
    obtain ⟨d1, d2, d3, d4⟩ := hd
    have c2 : z_upd (z_upd c g 30 2 S) g 30 3 (r 4 45 0) g 30 2 = S := by rw [zu_row, fu_i _ _ (by decide), zu_row, fu_s]
    have c3 : z_upd (z_upd c g 30 2 S) g 30 3 (r 4 45 0) g 30 3 = r 4 45 0 := by rw [zu_row, fu_s]
    have c31 : ∀ t, z_upd (z_upd c g 30 2 S) g 30 3 (r 4 45 0) g 31 t = c g 31 t := fun t => by rw [zu_k _ _ _ (by decide), zu_k _ _ _ (by decide)]
    have c32 : ∀ t, z_upd (z_upd c g 30 2 S) g 30 3 (r 4 45 0) g 32 t = c g 32 t := fun t => by rw [zu_k _ _ _ (by decide), zu_k _ _ _ (by decide)]
    have co : ∀ g' k, (g' ≠ g ∨ k ≠ 30) → z_upd (z_upd c g 30 2 S) g 30 3 (r 4 45 0) g' k = c g' k := fun g' k hk => by
      rcases hk with hk | hk
      · rw [zu_g _ _ _ hk, zu_g _ _ _ hk]
      · rw [zu_k _ _ _ hk, zu_k _ _ _ hk]
    have r19 : z_upd (z_upd r 4 45 19 S) 4 45 20 (r 4 45 0) 4 45 19 = S := by rw [zu_row, fu_i _ _ (by decide), zu_row, fu_s]
    have r20 : z_upd (z_upd r 4 45 19 S) 4 45 20 (r 4 45 0) 4 45 20 = r 4 45 0 := by rw [zu_row, fu_s]
    have ro : ∀ i, i ≠ 19 → i ≠ 20 → z_upd (z_upd r 4 45 19 S) 4 45 20 (r 4 45 0) 4 45 i = r 4 45 i := fun i h1 h2 => by rw [zu_row, fu_i _ _ h2, zu_row, fu_i _ _ h1]
    have rg : ∀ g k, (g ≠ 4 ∨ k ≠ 45) → z_upd (z_upd r 4 45 19 S) 4 45 20 (r 4 45 0) g k = r g k := fun g' k hk => by
      rcases hk with hk | hk
      · rw [zu_g _ _ _ hk, zu_g _ _ _ hk]
      · rw [zu_k _ _ _ hk, zu_k _ _ _ hk]
    rw [c2, c31, ro (32 + tar) (by omega) (by omega), d3 tar ht.1 ht.2]
    generalize z_upd (z_upd c g 30 2 S) g 30 3 (r 4 45 0) = c1 at c2 c3 c31 c32 co ⊢
    generalize z_upd (z_upd r 4 45 19 S) 4 45 20 (r 4 45 0) = r1 at r19 r20 ro rg ⊢
    by_cases f2 : S ≤ r 4 45 (32 + tar)
    · rw [if_pos f2, if_pos f2]
      refine ⟨⟨by omega, by omega, fun t t0 t1 => ?_, fun t t0 t1 => ?_⟩, fun g' k hk => co g' k (by omega), fun i i0 i1 i2 => ro i i0 i1, rg⟩
      · rw [c31, ro _ (by omega) (by omega)]
        exact d3 t t0 t1
      · rw [c32, ro _ (by omega) (by omega)]
        exact d4 t t0 t1
    · rw [if_neg f2, if_neg f2]
      have z1 : z_upd c1 g 31 tar S g 30 3 = c1 g 30 3 := by rw [zu_k _ _ _ (by decide)]
      have z2 : z_upd r1 4 45 (32 + tar) S 4 45 0 = r 4 45 0 := by rw [zu_row, fu_i _ _ (by omega), ro 0 (by decide) (by decide)]
      rw [z1, z2, c3]
      refine ⟨⟨?_, ?_, fun t t0 t1 => ?_, fun t t0 t1 => ?_⟩, fun g' k hk => ?_, fun i i0 i1 i2 => ?_, fun g' k hk => ?_⟩
      · rw [zu_k _ _ _ (show (30 : Nat) ≠ 32 by decide), zu_k _ _ _ (show (30 : Nat) ≠ 31 by decide), zu_row, fu_i _ _ (by omega), zu_row, fu_i _ _ (by omega), c2, r19]
      · rw [zu_k _ _ _ (show (30 : Nat) ≠ 32 by decide), zu_k _ _ _ (show (30 : Nat) ≠ 31 by decide), zu_row, fu_i _ _ (by omega), zu_row, fu_i _ _ (by omega), c3, r20]
      · rw [zu_k _ _ _ (show (31 : Nat) ≠ 32 by decide), zu_row, zu_row, show fu (z_upd r1 4 45 (32 + tar) S 4 45) (36 + tar) (r 4 45 0) (32 + t) = z_upd r1 4 45 (32 + tar) S 4 45 (32 + t) from fu_i _ _ (by omega), zu_row]
        by_cases e : t = tar
        · rw [e, fu_s, fu_s]
        · rw [fu_i _ _ e, fu_i _ _ (by omega), c31, ro _ (by omega) (by omega)]
          exact d3 t t0 t1
      · rw [zu_row, zu_row, zu_k _ _ _ (show (32 : Nat) ≠ 31 by decide)]
        by_cases e : t = tar
        · rw [e, fu_s, fu_s]
        · rw [fu_i _ _ e, fu_i _ _ (by omega), zu_row, fu_i _ _ (by omega), c32, ro _ (by omega) (by omega)]
          exact d4 t t0 t1
      · rw [← co g' k (by omega)]
        rcases hk with hk | hk
        · rw [zu_g _ _ _ hk, zu_g _ _ _ hk]
        · rw [zu_k _ _ _ hk.2.2, zu_k _ _ _ hk.2.1]
      · rw [zu_row, fu_i _ _ (by omega), zu_row, fu_i _ _ (by omega), ro i i0 i1]
      · rw [← rg g' k hk]
        rcases hk with hk | hk
        · rw [zu_g _ _ _ hk, zu_g _ _ _ hk]
        · rw [zu_k _ _ _ hk, zu_k _ _ _ hk]
end
section
/-! The marks on both sides. -/
def onV (w : Int → Int) : Int := w 40 + 2 * w 41 + 4 * w 42 + 8 * w 43 + 16 * w 44
def b01 (w : Int → Int) : Prop := ∀ m, 0 ≤ m → m < 5 → w (40 + m) = 0 ∨ w (40 + m) = 1
theorem tab_bit : ∀ n : Fin 32, ∀ m : Fin 5, zand (zshr (n.val : Int) (m.val : Int)) 1 = ((n.val / 2 ^ m.val % 2 : Nat) : Int) := by decide +kernel
theorem tab_on : ∀ n : Fin 32, ∀ m : Fin 5, n.val / 2 ^ m.val % 2 = 0 → zor (n.val : Int) (zshl 1 (m.val : Int)) = ((n.val + 2 ^ m.val : Nat) : Int) := by decide +kernel
theorem tab_off : ∀ n : Fin 32, ∀ m : Fin 5, n.val / 2 ^ m.val % 2 = 1 → zand (n.val : Int) (zxor (zshl 1 (m.val : Int)) (-1)) = ((n.val - 2 ^ m.val : Nat) : Int) := by decide +kernel
theorem tab_all : ∀ b0 b1 b2 b3 b4 : Fin 2, zorL (zorL (zorL (zorL (zorL 0 (zshlL (b0.val : Int) 0)) (zshlL (b1.val : Int) 1)) (zshlL (b2.val : Int) 2)) (zshlL (b3.val : Int) 3)) (zshlL (b4.val : Int) 4) = (b0.val : Int) + 2 * (b1.val : Int) + 4 * (b2.val : Int) + 8 * (b3.val : Int) + 16 * (b4.val : Int) := by decide +kernel
theorem b01.at {w : Int → Int} (h : b01 w) : (w 40 = 0 ∨ w 40 = 1) ∧ (w 41 = 0 ∨ w 41 = 1) ∧ (w 42 = 0 ∨ w 42 = 1) ∧ (w 43 = 0 ∨ w 43 = 1) ∧ (w 44 = 0 ∨ w 44 = 1) := ⟨h 0 (by omega) (by omega), h 1 (by omega) (by omega), h 2 (by omega) (by omega), h 3 (by omega) (by omega), h 4 (by omega) (by omega)⟩
theorem onV_r {w : Int → Int} (h : b01 w) : 0 ≤ onV w ∧ onV w < 32 := by
  have := h.at
  unfold onV
  omega
/-- the bit of a mark -/
theorem onV_bit {w : Int → Int} (h : b01 w) {m : Int} (h0 : 0 ≤ m) (h1 : m < 5) : zand (zshr (onV w) m) 1 = w (40 + m) := by
  obtain ⟨r0, r1⟩ := onV_r h
  have t := tab_bit ⟨(onV w).toNat, by omega⟩ ⟨m.toNat, by omega⟩
  try dsimp only at t
  rw [show ((onV w).toNat : Int) = onV w by omega, show (m.toNat : Int) = m by omega] at t
  rw [t]
  have := h.at
  unfold onV
  rcases (show m = 0 ∨ m = 1 ∨ m = 2 ∨ m = 3 ∨ m = 4 by omega) with rfl | rfl | rfl | rfl | rfl
  · show (((w 40 + 2 * w 41 + 4 * w 42 + 8 * w 43 + 16 * w 44).toNat / 1 % 2 : Nat) : Int) = w 40
    omega
  · show (((w 40 + 2 * w 41 + 4 * w 42 + 8 * w 43 + 16 * w 44).toNat / 2 % 2 : Nat) : Int) = w 41
    omega
  · show (((w 40 + 2 * w 41 + 4 * w 42 + 8 * w 43 + 16 * w 44).toNat / 4 % 2 : Nat) : Int) = w 42
    omega
  · show (((w 40 + 2 * w 41 + 4 * w 42 + 8 * w 43 + 16 * w 44).toNat / 8 % 2 : Nat) : Int) = w 43
    omega
  · show (((w 40 + 2 * w 41 + 4 * w 42 + 8 * w 43 + 16 * w 44).toNat / 16 % 2 : Nat) : Int) = w 44
    omega
theorem onV_fu {w : Int → Int} {m x : Int} (h0 : 0 ≤ m) (h1 : m < 5) : onV (fu w (40 + m) x) = onV w + (x - w (40 + m)) * (2 ^ m.toNat : Nat) := by
  unfold onV
  rcases (show m = 0 ∨ m = 1 ∨ m = 2 ∨ m = 3 ∨ m = 4 by omega) with rfl | rfl | rfl | rfl | rfl
  · show fu w 40 x 40 + 2 * fu w 40 x 41 + 4 * fu w 40 x 42 + 8 * fu w 40 x 43 + 16 * fu w 40 x 44 = _ + (x - w 40) * 1
    rw [fu_s, fu_i _ _ (by decide), fu_i _ _ (by decide), fu_i _ _ (by decide), fu_i _ _ (by decide)]
    omega
  · show fu w 41 x 40 + 2 * fu w 41 x 41 + 4 * fu w 41 x 42 + 8 * fu w 41 x 43 + 16 * fu w 41 x 44 = _ + (x - w 41) * 2
    rw [fu_s, fu_i _ _ (by decide), fu_i _ _ (by decide), fu_i _ _ (by decide), fu_i _ _ (by decide)]
    omega
  · show fu w 42 x 40 + 2 * fu w 42 x 41 + 4 * fu w 42 x 42 + 8 * fu w 42 x 43 + 16 * fu w 42 x 44 = _ + (x - w 42) * 4
    rw [fu_s, fu_i _ _ (by decide), fu_i _ _ (by decide), fu_i _ _ (by decide), fu_i _ _ (by decide)]
    omega
  · show fu w 43 x 40 + 2 * fu w 43 x 41 + 4 * fu w 43 x 42 + 8 * fu w 43 x 43 + 16 * fu w 43 x 44 = _ + (x - w 43) * 8
    rw [fu_s, fu_i _ _ (by decide), fu_i _ _ (by decide), fu_i _ _ (by decide), fu_i _ _ (by decide)]
    omega
  · show fu w 44 x 40 + 2 * fu w 44 x 41 + 4 * fu w 44 x 42 + 8 * fu w 44 x 43 + 16 * fu w 44 x 44 = _ + (x - w 44) * 16
    rw [fu_s, fu_i _ _ (by decide), fu_i _ _ (by decide), fu_i _ _ (by decide), fu_i _ _ (by decide)]
    omega
theorem b01.fu {w : Int → Int} (h : b01 w) {m x : Int} (hx : x = 0 ∨ x = 1) : b01 (fu w (40 + m) x) := fun k h0 h1 => by
  by_cases e : k = m
  · rw [e, fu_s]
    exact hx
  · rw [fu_i _ _ (by omega)]
    exact h k h0 h1
theorem bitN {w : Int → Int} (h : b01 w) {m : Int} (h0 : 0 ≤ m) (h1 : m < 5) : (onV w).toNat / 2 ^ m.toNat % 2 = (w (40 + m)).toNat := by
  obtain ⟨r0, r1⟩ := onV_r h
  have t := tab_bit ⟨(onV w).toNat, by omega⟩ ⟨m.toNat, by omega⟩
  try dsimp only at t
  rw [show ((onV w).toNat : Int) = onV w by omega, show (m.toNat : Int) = m by omega, onV_bit h h0 h1] at t
  omega
/-- a mark comes -/
theorem onV_on {w : Int → Int} (h : b01 w) {m : Int} (h0 : 0 ≤ m) (h1 : m < 5) (hz : w (40 + m) = 0) : zor (onV w) (zshl 1 m) = onV (fu w (40 + m) 1) := by
  obtain ⟨r0, r1⟩ := onV_r h
  have hb := bitN h h0 h1
  have t := tab_on ⟨(onV w).toNat, by omega⟩ ⟨m.toNat, by omega⟩ (by dsimp only; rw [hb, hz]; rfl)
  try dsimp only at t
  rw [show ((onV w).toNat : Int) = onV w by omega, show (m.toNat : Int) = m by omega] at t
  rw [t, onV_fu h0 h1, hz]
  omega
theorem onV_off {w : Int → Int} (h : b01 w) {m : Int} (h0 : 0 ≤ m) (h1 : m < 5) (hz : w (40 + m) = 1) : zand (onV w) (zxor (zshl 1 m) (-1)) = onV (fu w (40 + m) 0) := by
  obtain ⟨r0, r1⟩ := onV_r h
  have hb := bitN h h0 h1
  have t := tab_off ⟨(onV w).toNat, by omega⟩ ⟨m.toNat, by omega⟩ (by dsimp only; rw [hb, hz]; rfl)
  try dsimp only at t
  rw [show ((onV w).toNat : Int) = onV w by omega, show (m.toNat : Int) = m by omega] at t
  have := h.at
  have e : (2 ^ m.toNat : Nat) ≤ (onV w).toNat := by
    unfold onV
    rcases (show m = 0 ∨ m = 1 ∨ m = 2 ∨ m = 3 ∨ m = 4 by omega) with rfl | rfl | rfl | rfl | rfl
    · have hz : w 40 = 1 := hz
      show 1 ≤ _
      omega
    · have hz : w 41 = 1 := hz
      show 2 ≤ _
      omega
    · have hz : w 42 = 1 := hz
      show 4 ≤ _
      omega
    · have hz : w 43 = 1 := hz
      show 8 ≤ _
      omega
    · have hz : w 44 = 1 := hz
      show 16 ≤ _
      omega
  rw [t, onV_fu h0 h1, hz]
  omega
/-- all marks, as the reference puts them together -/
theorem on_r {m : zM} (h : b01 (m 4 45)) : f231_1 m = onV (m 4 45) := by
  have h9 := h.at
  have e : f231_1 m = zorL (zorL (zorL (zorL (zorL 0 (zshlL (m 4 45 40) 0)) (zshlL (m 4 45 41) 1)) (zshlL (m 4 45 42) 2)) (zshlL (m 4 45 43) 3)) (zshlL (m 4 45 44) 4) := by
    unfold f231_1
    rw [zfu_eq]
    rfl
  rw [e]
  have t := tab_all ⟨(m 4 45 40).toNat, by omega⟩ ⟨(m 4 45 41).toNat, by omega⟩ ⟨(m 4 45 42).toNat, by omega⟩ ⟨(m 4 45 43).toNat, by omega⟩ ⟨(m 4 45 44).toNat, by omega⟩
  try dsimp only at t
  rw [show ((m 4 45 40).toNat : Int) = m 4 45 40 by omega, show ((m 4 45 41).toNat : Int) = m 4 45 41 by omega, show ((m 4 45 42).toNat : Int) = m 4 45 42 by omega, show ((m 4 45 43).toNat : Int) = m 4 45 43 by omega, show ((m 4 45 44).toNat : Int) = m 4 45 44 by omega] at t
  exact t
def MK (c : Nat → Int → Int) (w : Int → Int) : Prop := b01 w ∧ c 33 3 = onV w ∧ (∀ m, 0 ≤ m → m < 5 → c 34 m = w (45 + m)) ∧ (∀ m, 0 ≤ m → m < 5 → c 35 m = w (50 + m)) ∧ (∀ m, 0 ≤ m → m < 5 → c 36 m = w (55 + m))
theorem b01.of {w w' : Int → Int} (h : b01 w) (e : ∀ i, 40 ≤ i → i ≤ 44 → w' i = w i) : b01 w' := fun m h0 h1 => by
  rw [e _ (by omega) (by omega)]
  exact h m h0 h1
theorem onV_of {w w' : Int → Int} (e : ∀ i, 40 ≤ i → i ≤ 44 → w' i = w i) : onV w' = onV w := by
  unfold onV
  rw [e 40 (by omega) (by omega), e 41 (by omega) (by omega), e 42 (by omega) (by omega), e 43 (by omega) (by omega), e 44 (by omega) (by omega)]
theorem MK.fe {c c' : Nat → Int → Int} {w w' : Int → Int} (h : MK c w) (h1 : FE 9 c c') (h2 : FW 9 w w') : MK c' w' := by
  obtain ⟨a1, a2, a3, a4, a5⟩ := h
  have ew : ∀ i, 40 ≤ i → i ≤ 59 → w' i = w i := fun i i0 i1 => h2 i (by omega) (by omega) (ja45_40 ⟨i0, i1⟩)
  refine ⟨a1.of (fun i i0 i1 => ew i i0 (by omega)), by rw [h1.p33_3, onV_of (fun i i0 i1 => ew i i0 (by omega))]; exact a2, fun m m0 m1 => ?_, fun m m0 m1 => ?_, fun m m0 m1 => ?_⟩
  · rw [h1.p34_0 m m0 (by omega), ew _ (by omega) (by omega)]
    exact a3 m m0 m1
  · rw [h1.p35_0 m m0 (by omega), ew _ (by omega) (by omega)]
    exact a4 m m0 m1
  · rw [h1.p36_0 m m0 (by omega), ew _ (by omega) (by omega)]
    exact a5 m m0 m1
/-- the class: one mark, asked -/
theorem isOn_c {m : zM} {g : Nat} {w : Int → Int} {y : Int} (hb : b01 w) (ho : m g 33 3 = onV w) (h0 : 0 ≤ y) (h1 : y < 5) : f40_1 g y m = w (40 + y) := by
  unfold f40_1
  simp only [zn_a]
  rw [ho, onV_bit hb h0 h1]
  have := hb y h0 h1
  split <;> omega
end
section
/-! Marks turn; seconds pass over them. -/
def K0 (c : Nat → Int → Int) (w : Int → Int) : Prop := b01 w ∧ c 33 3 = onV w ∧ ∀ m, 0 ≤ m → m < 5 → c 34 m = w (45 + m)
/-- but for marks, log: class -/
def CK (g : Nat) (c c' : zM) : Prop := ∀ g' k, (g' ≠ g ∨ (k ≠ 33 ∧ k ≠ 34 ∧ k ≠ 37 ∧ k ≠ 38)) → c' g' k = c g' k
/-- but for one mark, log: reference -/
def RK (y : Int) (r r' : zM) : Prop := (∀ i, i ≠ 40 + y → i ≠ 45 + y → i ≠ 16 → (i < 1487 ∨ 1606 < i) → r' 4 45 i = r 4 45 i) ∧ ∀ g k, (g ≠ 4 ∨ k ≠ 45) → r' g k = r g k
theorem turn_on {c r : zM} {g : Nat} {y t : Int} (h : K0 (c g) (r 4 45)) (hl : LG (c g) (r 4 45)) (h0 : 0 ≤ y) (h1 : y < 5) (ht : t = r 4 45 0) (hz : r 4 45 (40 + y) = 0) (hb : 0 ≤ r 4 45 (45 + y) ∧ r 4 45 (45 + y) ≤ 1000000000) :
    K0 (f57_1 g g y 1 t c g) (f228_1 y r 4 45) ∧ LG (f57_1 g g y 1 t c g) (f228_1 y r 4 45) ∧ f228_1 y r 4 45 (40 + y) = 1 ∧ CK g c (f57_1 g g y 1 t c) ∧ RK y r (f228_1 y r) ∧ f228_1 y r 4 45 (45 + y) = r 4 45 (45 + y) + 1 := by
  obtain ⟨b, o, k⟩ := h
  unfold f57_1 f228_1
  rw [if_neg (by decide)]
  simp only [zn_a, zs_a]
  have e34 : z_upd c g 33 3 (zor (c g 33 3) (zshl 1 y)) g 34 y = r 4 45 (45 + y) := by rw [zu_k _ _ _ (by decide), k y h0 h1]
  have e45 : z_upd r 4 45 (40 + y) 1 4 45 (45 + y) = r 4 45 (45 + y) := by rw [zu_row, fu_i _ _ (by omega)]
  rw [e34, e45, w32_id (by omega), w64_id (by omega)]
  have d33 : z_upd (z_upd c g 33 3 (zor (c g 33 3) (zshl 1 y))) g 34 y (r 4 45 (45 + y) + 1) g 33 3 = onV (fu (r 4 45) (40 + y) 1) := by rw [zu_k _ _ _ (by decide), zu_row, fu_s, o, onV_on b h0 h1 hz]
  have d34 : ∀ m, 0 ≤ m → m < 5 → z_upd (z_upd c g 33 3 (zor (c g 33 3) (zshl 1 y))) g 34 y (r 4 45 (45 + y) + 1) g 34 m = if m = y then r 4 45 (45 + y) + 1 else r 4 45 (45 + m) := fun m m0 m1 => by
    rw [zu_row, zu_k _ _ _ (by decide)]
    by_cases e : m = y
    · rw [e, fu_s, if_pos rfl]
    · rw [fu_i _ _ e, if_neg e, k m m0 m1]
  have dg : ∀ g' k, (g' ≠ g ∨ (k ≠ 33 ∧ k ≠ 34)) → z_upd (z_upd c g 33 3 (zor (c g 33 3) (zshl 1 y))) g 34 y (r 4 45 (45 + y) + 1) g' k = c g' k := fun g' k hk => by
    rcases hk with hk | hk
    · rw [zu_g _ _ _ hk, zu_g _ _ _ hk]
    · rw [zu_k _ _ _ hk.2, zu_k _ _ _ hk.1]
  have dw : ∀ i, z_upd (z_upd r 4 45 (40 + y) 1) 4 45 (45 + y) (r 4 45 (45 + y) + 1) 4 45 i = if i = 45 + y then r 4 45 (45 + y) + 1 else fu (r 4 45) (40 + y) 1 i := fun i => by
    rw [zu_row, zu_row]
    rfl
  have dr : ∀ g k, (g ≠ 4 ∨ k ≠ 45) → z_upd (z_upd r 4 45 (40 + y) 1) 4 45 (45 + y) (r 4 45 (45 + y) + 1) g k = r g k := fun g' k hk => by
    rcases hk with hk | hk
    · rw [zu_g _ _ _ hk, zu_g _ _ _ hk]
    · rw [zu_k _ _ _ hk, zu_k _ _ _ hk]
  generalize z_upd (z_upd c g 33 3 (zor (c g 33 3) (zshl 1 y))) g 34 y (r 4 45 (45 + y) + 1) = c1 at d33 d34 dg ⊢
  generalize z_upd (z_upd r 4 45 (40 + y) 1) 4 45 (45 + y) (r 4 45 (45 + y) + 1) = r1 at dw dr ⊢
  have l1 : LG (c1 g) (r1 4 45) := by
    obtain ⟨g1, g2, g3⟩ := hl
    refine ⟨?_, ?_, fun i i0 i1 k k0 k1 => ?_⟩
    · rw [dg g 37 (by omega), dw 16, if_neg (by omega), fu_i _ _ (by omega)]
      exact g1
    · rw [dw 16, if_neg (by omega), fu_i _ _ (by omega)]
      exact g2
    · rw [dw 16, if_neg (by omega), fu_i _ _ (by omega)] at i1 ⊢
      rw [dg g 38 (by omega), dw _, if_neg (by omega), fu_i _ _ (by omega)]
      exact g3 i i0 i1 k k0 k1
  have t1 : t = r1 4 45 0 := by rw [dw 0, if_neg (by omega), fu_i _ _ (by omega)]; exact ht
  obtain ⟨a1, a2, a3, a4⟩ := log_c c1 g t y 0
  obtain ⟨s1, s2, s3, s4, s5⟩ := log_r r1 y 0 l1.2.1
  have w1 : ∀ i, 40 ≤ i → i ≤ 59 → f223_1 y 0 r1 4 45 i = r1 4 45 i := fun i i0 i1 => s5 i (by omega) (by omega)
  have b1 : b01 (r1 4 45) := fun m m0 m1 => by
    rw [dw _, if_neg (by omega)]
    exact b.fu (.inr rfl) m m0 m1
  refine ⟨⟨b1.of (fun i i0 i1 => w1 i i0 (by omega)), ?_, fun m m0 m1 => ?_⟩, l1.log t1, ?_, fun g' k hk => ?_, ⟨fun i i0 i1 i2 i3 => ?_, fun g' k hk => ?_⟩, ?_⟩
  · rw [a3 g 33 (.inr (by decide)), d33, onV_of (fun i i0 i1 => w1 i i0 (by omega))]
    exact (onV_of (fun i i0 i1 => by rw [dw i, if_neg (by omega)])).symm
  · rw [a3 g 34 (.inr (by decide)), d34 m m0 m1, w1 _ (by omega) (by omega), dw _]
    by_cases e : m = y
    · rw [if_pos e, if_pos (by omega)]
    · rw [if_neg e, if_neg (by omega), fu_i _ _ (by omega)]
  · rw [w1 _ (by omega) (by omega), dw _, if_neg (by omega), fu_s]
  · rw [a3 g' k (by omega)]
    exact dg g' k (by omega)
  · rw [s5 i i2 i3, dw i, if_neg i1, fu_i _ _ i0]
  · rw [s4 g' k hk]
    exact dr g' k hk
  · rw [w1 _ (by omega) (by omega), dw _, if_pos rfl]
theorem turn_off {c r : zM} {g : Nat} {y t : Int} (h : K0 (c g) (r 4 45)) (hl : LG (c g) (r 4 45)) (h0 : 0 ≤ y) (h1 : y < 5) (ht : t = r 4 45 0) (hz : r 4 45 (40 + y) = 1) :
    K0 (f57_1 g g y 0 t c g) (f229_1 y r 4 45) ∧ LG (f57_1 g g y 0 t c g) (f229_1 y r 4 45) ∧ f229_1 y r 4 45 (40 + y) = 0 ∧ CK g c (f57_1 g g y 0 t c) ∧ RK y r (f229_1 y r) ∧ f229_1 y r 4 45 (45 + y) = r 4 45 (45 + y) := by
  obtain ⟨b, o, k⟩ := h
  unfold f57_1 f229_1
  rw [if_pos rfl]
  simp only [zn_a, zs_a]
  have d33 : z_upd c g 33 3 (zand (c g 33 3) (zxor (zshl 1 y) (-1))) g 33 3 = onV (fu (r 4 45) (40 + y) 0) := by rw [zu_row, fu_s, o, onV_off b h0 h1 hz]
  have dg : ∀ g' k, (g' ≠ g ∨ k ≠ 33) → z_upd c g 33 3 (zand (c g 33 3) (zxor (zshl 1 y) (-1))) g' k = c g' k := fun g' k hk => by
    rcases hk with hk | hk
    · rw [zu_g _ _ _ hk]
    · rw [zu_k _ _ _ hk]
  have dw : ∀ i, z_upd r 4 45 (40 + y) 0 4 45 i = fu (r 4 45) (40 + y) 0 i := fun i => by rw [zu_row]
  have dr : ∀ g k, (g ≠ 4 ∨ k ≠ 45) → z_upd r 4 45 (40 + y) 0 g k = r g k := fun g' k hk => by
    rcases hk with hk | hk
    · rw [zu_g _ _ _ hk]
    · rw [zu_k _ _ _ hk]
  generalize z_upd c g 33 3 (zand (c g 33 3) (zxor (zshl 1 y) (-1))) = c1 at d33 dg ⊢
  generalize z_upd r 4 45 (40 + y) 0 = r1 at dw dr ⊢
  have l1 : LG (c1 g) (r1 4 45) := by
    obtain ⟨g1, g2, g3⟩ := hl
    refine ⟨?_, ?_, fun i i0 i1 k k0 k1 => ?_⟩
    · rw [dg g 37 (by omega), dw 16, fu_i _ _ (by omega)]
      exact g1
    · rw [dw 16, fu_i _ _ (by omega)]
      exact g2
    · rw [dw 16, fu_i _ _ (by omega)] at i1 ⊢
      rw [dg g 38 (by omega), dw _, fu_i _ _ (by omega)]
      exact g3 i i0 i1 k k0 k1
  have t1 : t = r1 4 45 0 := by rw [dw 0, fu_i _ _ (by omega)]; exact ht
  obtain ⟨a1, a2, a3, a4⟩ := log_c c1 g t (y + 10) 0
  rw [show (10 : Int) + y = y + 10 by omega]
  obtain ⟨s1, s2, s3, s4, s5⟩ := log_r r1 (y + 10) 0 l1.2.1
  have w1 : ∀ i, 40 ≤ i → i ≤ 59 → f223_1 (y + 10) 0 r1 4 45 i = r1 4 45 i := fun i i0 i1 => s5 i (by omega) (by omega)
  have b1 : b01 (r1 4 45) := fun m m0 m1 => by
    rw [dw _]
    exact b.fu (.inl rfl) m m0 m1
  refine ⟨⟨b1.of (fun i i0 i1 => w1 i i0 (by omega)), ?_, fun m m0 m1 => ?_⟩, l1.log t1, ?_, fun g' k hk => ?_, ⟨fun i i0 i1 i2 i3 => ?_, fun g' k hk => ?_⟩, ?_⟩
  · rw [a3 g 33 (.inr (by decide)), d33, onV_of (fun i i0 i1 => w1 i i0 (by omega))]
    exact (onV_of (fun i i0 i1 => by rw [dw i])).symm
  · rw [a3 g 34 (.inr (by decide)), dg g 34 (.inr (by decide)), w1 _ (by omega) (by omega), dw _, fu_i _ _ (by omega), k m m0 m1]
  · rw [w1 _ (by omega) (by omega), dw _, fu_s]
  · rw [a3 g' k (by omega)]
    exact dg g' k (by omega)
  · rw [s5 i i2 i3, dw i, fu_i _ _ i0]
  · rw [s4 g' k hk]
    exact dr g' k hk
  · rw [w1 _ (by omega) (by omega), dw _, fu_i _ _ (by omega)]
end
section
/-! Seconds pass over the marks: one mark after the other. -/
noncomputable def cB (g g4 : Nat) (n seen delay t y : Int) (m : zM) : zM := zn (f40_1 g y m) fun v564 => zs (if y < 2 then (m) else (zn (zshr seen y) fun z566 => zn (zand z566 1) fun z567 => zn (if z567 = 1 then (1) else (0)) fun v569 => zn (if v569 = 0 then (0) else (zn (w32 ((m g 36 y) + n)) fun z576 => z576)) fun v577 => zs (z_upd m g 36 y v577) fun m582 => if v564 = 0 then (if v569 = 0 then (m582) else (if (m582 g 36 y) ≤ delay then (m582) else (zs (f57_1 g g4 y 1 t m582) fun m589 => m589))) else (if v569 = 0 then (zs (f57_1 g g4 y 0 t m582) fun m594 => m594) else (m582)))) fun m598 => zn (f40_1 g y m598) fun v604 => zs (if v604 = 0 then (m598) else (zn (if v564 = 0 then (1) else (n)) fun v608 => zn (w32 ((m598 g 35 y) + v608)) fun z613 => zs (z_upd m598 g 35 y z613) fun m614 => m614)) fun m617 => m617
theorem f56_s {k : zM → zM} {g g4 : Nat} {n seen delay t : Int} (q : Nat) (y : Int) (m : zM) (h : y < 5) : fl56_3_1 k g g4 n seen delay t (q + 1) y m = fl56_3_1 k g g4 n seen delay t q (y + 1) (cB g g4 n seen delay t y m) := by
  show fl56_3_1_b (fl56_3_1 k g g4 n seen delay t q) k g g4 n seen delay t y m = _
  unfold fl56_3_1_b
  rw [if_neg (by omega)]
  rfl
theorem f56_u (g g4 : Nat) (n seen delay t : Int) (m : zM) : f56_1 g g4 n seen delay t m = cB g g4 n seen delay t 4 (cB g g4 n seen delay t 3 (cB g g4 n seen delay t 2 (cB g g4 n seen delay t 1 (cB g g4 n seen delay t 0 m)))) := by
  unfold f56_1
  rw [zfu_eq]
  refine (f56_s 5 0 m (by omega)).trans ((f56_s 4 1 _ (by omega)).trans ((f56_s 3 2 _ (by omega)).trans ((f56_s 2 3 _ (by omega)).trans ((f56_s 1 4 _ (by omega)).trans ?_))))
  show fl56_3_1_b (fl56_3_1 (fun m501 => m501) g g4 n seen delay t 0) (fun m501 => m501) g g4 n seen delay t 5 _ = _
  unfold fl56_3_1_b
  rw [if_pos (by omega)]
noncomputable def rB (y s : Int) (m : zM) : zM := zn (if s = 0 then (0) else (zn (w64 ((m 4 45 (55 + y)) + 1)) fun z575 => z575)) fun v576 => zs (z_upd m 4 45 (55 + y) v576) fun m581 => zn (if (m581 4 45 (55 + y)) ≤ (m581 4 45 7) then (0) else (1)) fun v586 => zs (if v586 = 0 then (m581) else (if (m581 4 45 (40 + y)) = 0 then (zs (f228_1 y m581) fun m594 => m594) else (m581))) fun m598 => zs (if s = 0 then (if (m598 4 45 (40 + y)) = 1 then (zs (f229_1 y m598) fun m605 => m605) else (m598)) else (m598)) fun m609 => m609
/-- what the reference finds of a mark -/
noncomputable def soR (y : Int) (m : zM) : Int := if y = 2 then f225_1 m else if y = 3 then f226_1 m else f227_1 m
theorem f224_s {k : zM → zM} (q : Nat) (y : Int) (m : zM) (h : y < 5) : fl224_2_1 k (q + 1) y m = fl224_2_1 k q (y + 1) (rB y (soR y m) m) := by
  show fl224_2_1_b (fl224_2_1 k q) k y m = _
  unfold fl224_2_1_b
  rw [if_neg (by omega)]
  rfl
def MI (y j : Int) (so : Int → Int) (c : Nat → Int → Int) (w : Int → Int) : Prop := K0 c w ∧
  (∀ m, 0 ≤ m → m < 5 → if m < y then c 35 m = w (50 + m) + w (40 + m) else w (50 + m) = c 35 m + if w (40 + m) = 1 then j else 0) ∧
  (∀ m, 0 ≤ m → m < 5 → w (55 + m) = if m < y ∨ m < 2 then c 36 m else if so m = 1 then c 36 m + j else if j = 0 then c 36 m else 0)
/-- bounds for those still to come -/
def MB (y : Int) (w : Int → Int) : Prop := ∀ m, y ≤ m → m < 5 → (0 ≤ w (45 + m) ∧ w (45 + m) ≤ 1000000000) ∧ (0 ≤ w (50 + m) ∧ w (50 + m) ≤ 1000000000) ∧ (0 ≤ w (55 + m) ∧ w (55 + m) ≤ 1000000000)
theorem LG.pt {c c' : Nat → Int → Int} {w w' : Int → Int} (h : LG c w) (hc : ∀ k, k = 37 ∨ k = 38 → c' k = c k) (hw : ∀ i, i = 16 ∨ (1487 ≤ i ∧ i ≤ 1606) → w' i = w i) : LG c' w' := by
  obtain ⟨g1, g2, g3⟩ := h
  have e := hw 16 (.inl rfl)
  refine ⟨by rw [hc 37 (.inl rfl), e]; exact g1, by omega, fun i i0 i1 k k0 k1 => ?_⟩
  rw [e] at i1 ⊢
  rw [hc 38 (.inr rfl), hw _ (.inr (by omega))]
  exact g3 i i0 i1 k k0 k1
theorem K0.pt {c c' : Nat → Int → Int} {w w' : Int → Int} (h : K0 c w) (hc : ∀ k, k = 33 ∨ k = 34 → c' k = c k) (hw : ∀ i, 40 ≤ i → i ≤ 49 → w' i = w i) : K0 c' w' := by
  obtain ⟨g1, g2, g3⟩ := h
  refine ⟨g1.of (fun i i0 i1 => hw i i0 (by omega)), ?_, fun m m0 m1 => ?_⟩
  · rw [hc 33 (.inl rfl), onV_of (fun i i0 i1 => hw i i0 (by omega))]
    exact g2
  · rw [hc 34 (.inr rfl), hw _ (by omega) (by omega)]
    exact g3 m m0 m1
/-- class: but for marks and log -/
def CM (g : Nat) (c c' : zM) : Prop := ∀ g' k, (g' ≠ g ∨ k < 33 ∨ 38 < k) → c' g' k = c g' k
def RM9 (r r' : zM) : Prop := (∀ i, i ≠ 16 → (i < 40 ∨ 59 < i) → (i < 1487 ∨ 1606 < i) → r' 4 45 i = r 4 45 i) ∧ ∀ g k, (g ≠ 4 ∨ k ≠ 45) → r' g k = r g k
theorem mstep {c r : zM} {g : Nat} {y j n seen delay t : Int} {so : Int → Int} (h : MI y j so (c g) (r 4 45)) (hl : LG (c g) (r 4 45)) (hB : MB y (r 4 45)) (hy : 2 ≤ y ∧ y < 5) (hn : n = j + 1) (hj : 0 ≤ j ∧ j ≤ 100000) (ht : t = r 4 45 0) (hd : delay = r 4 45 7) (hd0 : 0 ≤ delay)
    (hso : so y = 0 ∨ so y = 1) (hsc : (if zand (zshr seen y) 1 = 1 then (1 : Int) else 0) = so y) (hq : r 4 45 (40 + y) = 1 → so y = 0 → j = 0) :
    MI (y + 1) j so (cB g g n seen delay t y c g) (rB y (so y) r 4 45) ∧ LG (cB g g n seen delay t y c g) (rB y (so y) r 4 45) ∧ CM g c (cB g g n seen delay t y c) ∧ RM9 r (rB y (so y) r) ∧ (∀ m, y < m → m < 5 → rB y (so y) r 4 45 (40 + m) = r 4 45 (40 + m) ∧ rB y (so y) r 4 45 (45 + m) = r 4 45 (45 + m) ∧ rB y (so y) r 4 45 (50 + m) = r 4 45 (50 + m) ∧ rB y (so y) r 4 45 (55 + m) = r 4 45 (55 + m)) ∧ (j ≠ 0 → ∀ m, 0 ≤ m → m < 5 → r 4 45 (40 + m) = 1 → rB y (so y) r 4 45 (40 + m) = 1) ∧ (∀ m, 0 ≤ m → m < 5 → rB y (so y) r 4 45 (50 + m) = r 4 45 (50 + m)) ∧ (∀ m, 0 ≤ m → m < 5 → (r 4 45 (45 + m) ≤ rB y (so y) r 4 45 (45 + m) ∧ rB y (so y) r 4 45 (45 + m) ≤ r 4 45 (45 + m) + if m = y then 1 else 0) ∧ (m ≠ y → rB y (so y) r 4 45 (55 + m) = r 4 45 (55 + m)) ∧ (m = y → 0 ≤ rB y (so y) r 4 45 (55 + m) ∧ rB y (so y) r 4 45 (55 + m) ≤ r 4 45 (55 + m) + 1)) := by
  obtain ⟨k0, s0, l0⟩ := h
  obtain ⟨b1, b2, b3⟩ := hB y (Int.le_refl _) hy.2
  have sy := s0 y (by omega) hy.2
  have ly := l0 y (by omega) hy.2
  rw [if_neg (by omega)] at sy
  rw [if_neg (by omega)] at ly
  have o : f40_1 g y c = r 4 45 (40 + y) := isOn_c k0.1 k0.2.1 (by omega) hy.2
  have ob := k0.1 y (by omega) hy.2
  -- lengths
  obtain ⟨L, hL⟩ : ∃ L, L = if so y = 0 then 0 else r 4 45 (55 + y) + 1 := ⟨_, rfl⟩
  have eL : (if so y = 0 then (0 : Int) else w32 (c g 36 y + n)) = L := by
    rw [hL]
    rcases hso with e | e
    · rw [if_pos e, if_pos e]
    · rw [if_neg (by omega), if_neg (by omega)]
      rw [if_pos e] at ly
      rw [show c g 36 y + n = r 4 45 (55 + y) + 1 by omega, w32_id (by omega)]
  have eR : (if so y = 0 then (0 : Int) else w64 (r 4 45 (55 + y) + 1)) = L := by
    rw [hL]
    rcases hso with e | e
    · rw [if_pos e, if_pos e]
    · rw [if_neg (by omega), if_neg (by omega), w64_id (by omega)]
  obtain ⟨c1, ec1⟩ : ∃ q, q = z_upd c g 36 y L := ⟨_, rfl⟩
  obtain ⟨r1, er1⟩ : ∃ q, q = z_upd r 4 45 (55 + y) L := ⟨_, rfl⟩
  have cg1 : ∀ g' k, (g' ≠ g ∨ k ≠ 36) → c1 g' k = c g' k := fun g' k hk => by
    rw [ec1]
    rcases hk with hk | hk
    · rw [zu_g _ _ _ hk]
    · rw [zu_k _ _ _ hk]
  have c36 : ∀ m, c1 g 36 m = if m = y then L else c g 36 m := fun m => by rw [ec1, zu_row]; rfl
  have rw1 : ∀ i, i ≠ 55 + y → r1 4 45 i = r 4 45 i := fun i hi => by rw [er1, zu_row, fu_i _ _ hi]
  have r55 : r1 4 45 (55 + y) = L := by rw [er1, zu_row, fu_s]
  have rg1 : ∀ g k, (g ≠ 4 ∨ k ≠ 45) → r1 g k = r g k := fun g' k hk => by
    rw [er1]
    rcases hk with hk | hk
    · rw [zu_g _ _ _ hk]
    · rw [zu_k _ _ _ hk]
  have k1 : K0 (c1 g) (r1 4 45) := k0.pt (fun k hk => cg1 g k (by omega)) (fun i i0 i1 => rw1 i (by omega))
  have l1 : LG (c1 g) (r1 4 45) := hl.pt (fun k hk => cg1 g k (by omega)) (fun i hi => rw1 i (by omega))
  have t1 : t = r1 4 45 0 := by rw [rw1 0 (by omega)]; exact ht
  -- the two sides behind the turning
  obtain ⟨c2, r2, o2, hc2, hr2, k2, l2, x1, x2, x3, x5, x4⟩ : ∃ c2 r2 o2, (if r 4 45 (40 + y) = 0 then (if so y = 0 then c1 else if c1 g 36 y ≤ delay then c1 else f57_1 g g y 1 t c1) else (if so y = 0 then f57_1 g g y 0 t c1 else c1)) = c2 ∧
      (zs (if (if L ≤ delay then (0 : Int) else 1) = 0 then r1 else (if r1 4 45 (40 + y) = 0 then f228_1 y r1 else r1)) fun m598 => if so y = 0 then (if m598 4 45 (40 + y) = 1 then f229_1 y m598 else m598) else m598) = r2 ∧ K0 (c2 g) (r2 4 45) ∧ LG (c2 g) (r2 4 45) ∧ CK g c1 c2 ∧ RK y r1 r2 ∧ r2 4 45 (40 + y) = o2 ∧ (r1 4 45 (45 + y) ≤ r2 4 45 (45 + y) ∧ r2 4 45 (45 + y) ≤ r1 4 45 (45 + y) + 1) ∧
      ((o2 = 0 ∧ (so y = 0 ∨ r 4 45 (40 + y) = 0)) ∨ (o2 = 1 ∧ so y = 1)) := by
    have r40 : r1 4 45 (40 + y) = r 4 45 (40 + y) := rw1 _ (by omega)
    rcases hso with e | e
    · have e0 : L = 0 := by rw [hL, if_pos e]
      rw [if_pos (show L ≤ delay by omega), if_pos rfl]
      simp only [zs_a]
      rw [if_pos e]
      rcases ob with e2 | e2
      · rw [if_pos e2, if_pos e, if_neg (by omega)]
        exact ⟨c1, r1, 0, rfl, rfl, k1, l1, fun _ _ _ => rfl, ⟨fun _ _ _ _ _ => rfl, fun _ _ _ => rfl⟩, by omega, by omega, .inl ⟨rfl, .inl e⟩⟩
      · rw [if_neg (show ¬ r 4 45 (40 + y) = 0 by omega), if_pos e, if_pos (show r1 4 45 (40 + y) = 1 by omega)]
        try rw [if_pos e]
        obtain ⟨q1, q2, q3, q4, q5, q6⟩ := turn_off k1 l1 (by omega) hy.2 t1 (by omega)
        exact ⟨_, _, 0, rfl, rfl, q1, q2, q4, q5, q3, by omega, .inl ⟨rfl, .inl e⟩⟩
    · rw [if_neg (show ¬ so y = 0 by omega), if_neg (show ¬ so y = 0 by omega)]
      simp only [zs_a]
      rw [if_neg (show ¬ so y = 0 by omega)]
      rcases ob with e2 | e2
      · rw [if_pos e2, c36 y, if_pos rfl]
        by_cases e3 : L ≤ delay
        · rw [if_pos e3, if_pos e3, if_pos rfl]
          exact ⟨c1, r1, 0, rfl, rfl, k1, l1, fun _ _ _ => rfl, ⟨fun _ _ _ _ _ => rfl, fun _ _ _ => rfl⟩, by omega, by omega, .inl ⟨rfl, .inr e2⟩⟩
        · rw [if_neg e3, if_neg e3, if_neg (by decide), if_pos (by omega)]
          obtain ⟨q1, q2, q3, q4, q5, q6⟩ := turn_on k1 l1 (by omega) hy.2 t1 (by omega) (by rw [rw1 _ (by omega)]; exact b1)
          exact ⟨_, _, 1, rfl, rfl, q1, q2, q4, q5, q3, by omega, .inr ⟨rfl, e⟩⟩
      · rw [if_neg (by omega), if_neg (show ¬ r1 4 45 (40 + y) = 0 by omega)]
        refine ⟨c1, r1, 1, rfl, ?_, k1, l1, fun _ _ _ => rfl, ⟨fun _ _ _ _ _ => rfl, fun _ _ _ => rfl⟩, by omega, by omega, .inr ⟨rfl, e⟩⟩
        split <;> rfl
  have er : rB y (so y) r = r2 := by
    unfold rB
    simp only [zn_a, zs_a]
    rw [eR, ← er1, r55, rw1 7 (by omega), ← hd]
    simp only [zs_a] at hr2
    exact hr2
  have ec : cB g g n seen delay t y c = if o2 = 0 then c2 else z_upd c2 g 35 y (w32 (c2 g 35 y + if r 4 45 (40 + y) = 0 then 1 else n)) := by
    unfold cB
    simp only [zn_a, zs_a]
    rw [if_neg (show ¬ y < 2 by omega), hsc, eL, o, ← ec1, hc2, isOn_c k2.1 k2.2.1 (by omega) hy.2, x3]
  rw [er, ec]
  have w2 : ∀ i, 50 ≤ i → i ≤ 59 → r2 4 45 i = r1 4 45 i := fun i i0 i1 => by
    by_cases e : 45 + y = i
    · omega
    · exact x2.1 i (by omega) (by omega) (by omega) (by omega)
  have c35 : ∀ m, c2 g 35 m = c g 35 m := fun m => by rw [x1 g 35 (by omega), cg1 g 35 (by omega)]
  have c236 : ∀ m, c2 g 36 m = if m = y then L else c g 36 m := fun m => by rw [x1 g 36 (by omega), c36]
  have rm : RM9 r r2 := ⟨fun i i0 i1 i2 => by rw [x2.1 i (by omega) (by omega) i0 i2, rw1 i (by omega)], fun g' k hk => by rw [x2.2 g' k hk, rg1 g' k hk]⟩
  have later : ∀ m, y < m → m < 5 → r2 4 45 (40 + m) = r 4 45 (40 + m) ∧ r2 4 45 (45 + m) = r 4 45 (45 + m) ∧ r2 4 45 (50 + m) = r 4 45 (50 + m) ∧ r2 4 45 (55 + m) = r 4 45 (55 + m) := fun m m0 m1 =>
    ⟨by rw [x2.1 _ (by omega) (by omega) (by omega) (by omega), rw1 _ (by omega)], by rw [x2.1 _ (by omega) (by omega) (by omega) (by omega), rw1 _ (by omega)], by rw [w2 _ (by omega) (by omega), rw1 _ (by omega)], by rw [w2 _ (by omega) (by omega), rw1 _ (by omega)]⟩
  have olds : ∀ m, 0 ≤ m → m < 5 → m ≠ y → r2 4 45 (40 + m) = r 4 45 (40 + m) := fun m m0 m1 hm => by
    rw [x2.1 _ (by omega) (by omega) (by omega) (by omega), rw1 _ (by omega)]
  have q50 : r2 4 45 (50 + y) = r 4 45 (50 + y) := by rw [w2 _ (by omega) (by omega), rw1 _ (by omega)]
  have lens : ∀ m, 0 ≤ m → m < 5 → r2 4 45 (55 + m) = if m < y + 1 ∨ m < 2 then c2 g 36 m else if so m = 1 then c2 g 36 m + j else if j = 0 then c2 g 36 m else 0 := fun m m0 m1 => by
    rw [w2 _ (by omega) (by omega), c236 m]
    by_cases e : m = y
    · rw [if_pos (by omega), if_pos e, e, r55]
    · rw [rw1 _ (by omega), if_neg e, l0 m m0 m1]
      by_cases e2 : m < y ∨ m < 2
      · rw [if_pos e2, if_pos (by omega)]
      · rw [if_neg e2, if_neg (show ¬ (m < y + 1 ∨ m < 2) by omega)]
  have secs : ∀ m, 0 ≤ m → m < 5 → m ≠ y → if m < y + 1 then c g 35 m = r2 4 45 (50 + m) + r2 4 45 (40 + m) else r2 4 45 (50 + m) = c g 35 m + if r2 4 45 (40 + m) = 1 then j else 0 := fun m m0 m1 hm => by
    have h9 := s0 m m0 m1
    rw [olds m m0 m1 hm, w2 _ (by omega) (by omega), rw1 _ (by omega)]
    by_cases e : m < y
    · rw [if_pos (by omega)]
      rw [if_pos e] at h9
      exact h9
    · rw [if_neg (by omega)]
      rw [if_neg e] at h9
      exact h9
  have stay : j ≠ 0 → ∀ m, 0 ≤ m → m < 5 → r 4 45 (40 + m) = 1 → r2 4 45 (40 + m) = 1 := fun hj0 m m0 m1 h9 => by
    by_cases e : m = y
    · subst e
      rw [x3]
      rcases x4 with ⟨-, x4 | x4⟩ | ⟨x4, -⟩
      · exact absurd (hq h9 x4) hj0
      · omega
      · exact x4
    · rw [olds m m0 m1 e]
      exact h9
  have s50 : ∀ m, 0 ≤ m → m < 5 → r2 4 45 (50 + m) = r 4 45 (50 + m) := fun m m0 m1 => by rw [w2 _ (by omega) (by omega), rw1 _ (by omega)]
  have s45 : ∀ m, 0 ≤ m → m < 5 → (r 4 45 (45 + m) ≤ r2 4 45 (45 + m) ∧ r2 4 45 (45 + m) ≤ r 4 45 (45 + m) + if m = y then 1 else 0) ∧ (m ≠ y → r2 4 45 (55 + m) = r 4 45 (55 + m)) ∧ (m = y → 0 ≤ r2 4 45 (55 + m) ∧ r2 4 45 (55 + m) ≤ r 4 45 (55 + m) + 1) := fun m m0 m1 => by
    have e45 : r1 4 45 (45 + y) = r 4 45 (45 + y) := rw1 _ (by omega)
    refine ⟨?_, fun e => by rw [w2 _ (by omega) (by omega), rw1 _ (by omega)], fun e => ?_⟩
    · by_cases e : m = y
      · subst e
        rw [if_pos rfl]
        omega
      · rw [if_neg e, x2.1 (45 + m) (by omega) (by omega) (by omega) (by omega), rw1 _ (by omega)]
        omega
    · subst e
      rw [w2 _ (by omega) (by omega), r55, hL]
      split <;> omega
  by_cases eo : o2 = 0
  · rw [if_pos eo]
    refine ⟨⟨k2, fun m m0 m1 => ?_, lens⟩, l2, fun g' k hk => ?_, rm, later, stay, s50, s45⟩
    · by_cases e : m = y
      · rw [e, if_pos (by omega), c35, q50, x3, eo]
        rcases x4 with ⟨-, x4⟩ | ⟨x4, -⟩
        · rcases ob with e2 | e2
          · rw [if_neg (by omega)] at sy
            omega
          · rw [if_pos e2] at sy
            have hj0 : j = 0 := hq e2 (by omega)
            omega
        · omega
      · rw [c35]
        exact secs m m0 m1 e
    · rw [x1 g' k (by omega), cg1 g' k (by omega)]
  · rw [if_neg eo]
    have o1 : o2 = 1 := by omega
    have so1 : so y = 1 := by omega
    obtain ⟨v, hv⟩ : ∃ v, v = w32 (c2 g 35 y + if r 4 45 (40 + y) = 0 then 1 else n) := ⟨_, rfl⟩
    have ev : v = r 4 45 (50 + y) + 1 := by
      rw [hv, c35]
      rcases ob with e2 | e2
      · rw [if_neg (by omega)] at sy
        rw [if_pos e2, w32_id (by omega)]
        omega
      · rw [if_pos e2] at sy
        rw [if_neg (by omega), w32_id (by omega)]
        omega
    rw [← hv]
    have d : ∀ g' k, (g' ≠ g ∨ k ≠ 35) → z_upd c2 g 35 y v g' k = c2 g' k := fun g' k hk => by
      rcases hk with hk | hk
      · rw [zu_g _ _ _ hk]
      · rw [zu_k _ _ _ hk]
    refine ⟨⟨k2.pt (fun k hk => d g k (by omega)) (fun _ _ _ => rfl), fun m m0 m1 => ?_, fun m m0 m1 => ?_⟩, l2.pt (fun k hk => d g k (by omega)) (fun _ _ => rfl), fun g' k hk => ?_, rm, later, stay, s50, s45⟩
    · by_cases e : m = y
      · rw [e, if_pos (by omega), zu_row, fu_s, q50, x3]
        omega
      · rw [zu_row, fu_i _ _ e, c35]
        exact secs m m0 m1 e
    · rw [d g 36 (by omega)]
      exact lens m m0 m1
    · rw [d g' k (by omega), x1 g' k (by omega), cg1 g' k (by omega)]
end
section
/-! Sums of samples. -/
def sumN (f : Nat → Int) : Nat → Int
  | 0 => 0
  | n + 1 => sumN f n + f n
theorem sumN_congr {f h : Nat → Int} : ∀ n : Nat, (∀ k, k < n → f k = h k) → sumN f n = sumN h n
  | 0, _ => rfl
  | n + 1, e => by
    unfold sumN
    rw [sumN_congr n (fun k hk => e k (by omega)), e n (by omega)]
theorem sumN_add {f h : Nat → Int} : ∀ n : Nat, sumN (fun k => f k + h k) n = sumN f n + sumN h n
  | 0 => rfl
  | n + 1 => by
    show sumN (fun k => f k + h k) n + (f n + h n) = sumN f n + f n + (sumN h n + h n)
    rw [sumN_add n]
    omega
theorem sumN_bd {f : Nat → Int} {b : Int} : ∀ n : Nat, (∀ k, k < n → -b ≤ f k ∧ f k ≤ b) → -(b * n) ≤ sumN f n ∧ sumN f n ≤ b * n
  | 0, _ => by
    show -(b * 0) ≤ (0 : Int) ∧ (0 : Int) ≤ b * 0
    omega
  | n + 1, e => by
    have h1 := sumN_bd n (fun k hk => e k (by omega))
    have h2 := e n (by omega)
    have h3 : b * ((n + 1 : Nat) : Int) = b * (n : Int) + b := by
      rw [Int.natCast_add, Int.mul_add]
      show b * (n : Int) + b * 1 = _
      omega
    rw [h3]
    show -(b * (n : Int) + b) ≤ sumN f n + f n ∧ sumN f n + f n ≤ b * (n : Int) + b
    omega
theorem sumN_nn {f : Nat → Int} : ∀ n : Nat, (∀ k, k < n → 0 ≤ f k) → 0 ≤ sumN f n
  | 0, _ => Int.le_refl _
  | n + 1, e => by
    have h1 := sumN_nn n (fun k hk => e k (by omega))
    have h2 := e n (by omega)
    show 0 ≤ sumN f n + f n
    omega
def tA (w : Int → Int) (f : Int) (k : Nat) : Int := w (95 + 16 * f + (k : Int)) * w (143 + 16 * f + (k : Int))
def tR (w : Int → Int) (N f : Int) (k : Nat) : Int := w (95 + 16 * f + (k : Int)) * w (143 + 16 * f + ((k : Int) + N / 4) % N)
def tS (w : Int → Int) (b f : Int) (k : Nat) : Int := w (b + 16 * f + (k : Int)) * w (b + 16 * f + (k : Int))
def AC (w : Int → Int) (f : Int) : Int := sumN (tA w f) (w 2).toNat
def RE (w : Int → Int) (f : Int) : Int := sumN (tR w (w 2) f) (w 2).toNat
def SQ (w : Int → Int) (b f : Int) : Int := sumN (tS w b f) (w 2).toNat
/-- the numbers' bounds that the wave needs -/
def WB (w : Int → Int) : Prop := 1 ≤ w 1 ∧ w 1 ≤ 3 ∧ 4 ≤ w 2 ∧ w 2 ≤ 16 ∧ 0 ≤ w 3 ∧ w 3 ≤ 47 ∧ ∀ i, 95 ≤ i → i ≤ 286 → -500 ≤ w i ∧ w i ≤ 500
theorem ac_loop {m : zM} {f : Int} {N : Nat} (hN : m 4 45 2 = N) : ∀ (n j : Nat), j ≤ N → N - j < n → fl210_5_1 (fun y => y) f m n (sumN (tA (m 4 45) f) j) j = sumN (tA (m 4 45) f) N
  | 0, j, h0, h1 => by omega
  | n + 1, j, h0, h1 => by
    show fl210_5_1_b (fl210_5_1 (fun y => y) f m n) (fun y => y) f m (sumN (tA (m 4 45) f) j) j = _
    unfold fl210_5_1_b
    by_cases h : m 4 45 2 ≤ (j : Int)
    · rw [if_pos h, show j = N by omega]
    · rw [if_neg h, zn_a]
      have e := ac_loop (f := f) hN n (j + 1) (by omega) (by omega)
      rw [show ((j + 1 : Nat) : Int) = (j : Int) + 1 by omega] at e
      exact e
theorem ac_r {m : zM} (h : WB (m 4 45)) (f : Int) : f210_1 f m = AC (m 4 45) f := by
  have hn := h.2.2.1
  have hn2 := h.2.2.2.1
  exact ac_loop (m := m) (f := f) (N := (m 4 45 2).toNat) (by omega) (zfu 17) 0 (by omega) (by rw [zfu_eq]; omega)
theorem re_loop {m : zM} {f : Int} {N : Nat} (hN : m 4 45 2 = N) : ∀ (n j : Nat), j ≤ N → N - j < n → fl212_5_1 (fun y => y) f m n (sumN (tR (m 4 45) (m 4 45 2) f) j) j = sumN (tR (m 4 45) (m 4 45 2) f) N
  | 0, j, h0, h1 => by omega
  | n + 1, j, h0, h1 => by
    show fl212_5_1_b (fl212_5_1 (fun y => y) f m n) (fun y => y) f m (sumN (tR (m 4 45) (m 4 45 2) f) j) j = _
    unfold fl212_5_1_b
    by_cases h : m 4 45 2 ≤ (j : Int)
    · rw [if_pos h, show j = N by omega]
    · rw [if_neg h, zn_a, zn_a]
      have e := re_loop (f := f) hN n (j + 1) (by omega) (by omega)
      rw [show ((j + 1 : Nat) : Int) = (j : Int) + 1 by omega] at e
      exact e
theorem re_r {m : zM} (h : WB (m 4 45)) (f : Int) : f212_1 f m = RE (m 4 45) f := by
  have hn := h.2.2.1
  have hn2 := h.2.2.2.1
  exact re_loop (m := m) (f := f) (N := (m 4 45 2).toNat) (by omega) (zfu 17) 0 (by omega) (by rw [zfu_eq]; omega)
theorem sq_loop {m : zM} {b f : Int} {N : Nat} (hN : m 4 45 2 = N) : ∀ (n j : Nat), j ≤ N → N - j < n → fl213_5_1 (fun y => y) b f m n (sumN (tS (m 4 45) b f) j) j = sumN (tS (m 4 45) b f) N
  | 0, j, h0, h1 => by omega
  | n + 1, j, h0, h1 => by
    show fl213_5_1_b (fl213_5_1 (fun y => y) b f m n) (fun y => y) b f m (sumN (tS (m 4 45) b f) j) j = _
    unfold fl213_5_1_b
    by_cases h : m 4 45 2 ≤ (j : Int)
    · rw [if_pos h, show j = N by omega]
    · rw [if_neg h, zn_a]
      have e := sq_loop (b := b) (f := f) hN n (j + 1) (by omega) (by omega)
      rw [show ((j + 1 : Nat) : Int) = (j : Int) + 1 by omega] at e
      exact e
theorem sq_r {m : zM} (h : WB (m 4 45)) (b f : Int) : f213_1 b f m = SQ (m 4 45) b f := by
  have hn := h.2.2.1
  have hn2 := h.2.2.2.1
  exact sq_loop (m := m) (b := b) (f := f) (N := (m 4 45 2).toNat) (by omega) (zfu 17) 0 (by omega) (by rw [zfu_eq]; omega)
/-- of all phases together -/
def TG (w : Int → Int) (i : Int) (f : Nat) : Int := if i = 0 then AC w f else if i = 1 then RE w f else if i = 2 then SQ w 95 f else SQ w 143 f
theorem tg_loop {m : zM} (hm : WB (m 4 45)) {i : Int} {P : Nat} (hP : m 4 45 1 = P) : ∀ (n j : Nat), j ≤ P → P - j < n → fl209_5_1 (fun y => y) i m n (sumN (TG (m 4 45) i) j) j = sumN (TG (m 4 45) i) P
  | 0, j, h0, h1 => by omega
  | n + 1, j, h0, h1 => by
    show fl209_5_1_b (fl209_5_1 (fun y => y) i m n) (fun y => y) i m (sumN (TG (m 4 45) i) j) j = _
    unfold fl209_5_1_b
    by_cases h : m 4 45 1 ≤ (j : Int)
    · rw [if_pos h, show j = P by omega]
    · rw [if_neg h]
      simp only [zn_a]
      rw [ac_r hm, re_r hm, sq_r hm, sq_r hm]
      have e := tg_loop hm (i := i) hP n (j + 1) (by omega) (by omega)
      rw [show ((j + 1 : Nat) : Int) = (j : Int) + 1 by omega] at e
      exact e
theorem tg_r {m : zM} (h : WB (m 4 45)) (i : Int) : f209_1 i m = sumN (TG (m 4 45) i) (m 4 45 1).toNat := by
  have hn := h.1
  have hn2 := h.2.1
  exact tg_loop h (i := i) (P := (m 4 45 1).toNat) (by omega) (zfu 4) 0 (by omega) (by rw [zfu_eq]; omega)
/-! whole roots -/
def isRoot (v s : Int) : Prop := 0 ≤ s ∧ s * s ≤ v ∧ v < (s + 1) * (s + 1)
theorem isRoot.uni {v s t : Int} (h : isRoot v s) (h' : isRoot v t) : s = t := by
  obtain ⟨a1, a2, a3⟩ := h
  obtain ⟨b1, b2, b3⟩ := h'
  have key : ∀ x y : Int, 0 ≤ x → 0 ≤ y → x * x ≤ v → v < (y + 1) * (y + 1) → ¬ y + 1 ≤ x := fun x y x0 y0 hx hy hxy => by
    have := Int.mul_le_mul hxy hxy (by omega) x0
    omega
  have k1 := key s t a1 b1 a2 b3
  have k2 := key t s b1 a1 b2 a3
  omega
theorem rt_ref_loop {v : Int} {m : zM} (hv : 0 ≤ v ∧ v < 9000000000000000000) : ∀ (n : Nat) (lo hi : Int), 0 ≤ lo → lo ≤ hi → hi ≤ 3000000000 → lo * lo ≤ v → v < (hi + 1) * (hi + 1) → hi - lo < n → isRoot v (fl214_7_1 (fun y => y) v m n lo hi)
  | 0, lo, hi, h0, h1, h2, h3, h4, h5 => by omega
  | n + 1, lo, hi, h0, h1, h2, h3, h4, h5 => by
    show isRoot v (fl214_7_1_b (fl214_7_1 (fun y => y) v m n) (fun y => y) v m lo hi)
    unfold fl214_7_1_b
    by_cases h : lo < hi
    · rw [if_pos h, zn_a]
      by_cases h6 : (lo + hi + 1) / 2 * ((lo + hi + 1) / 2) ≤ v
      · rw [if_pos h6]
        exact rt_ref_loop hv n _ hi (by omega) (by omega) h2 h6 h4 (by omega)
      · rw [if_neg h6]
        refine rt_ref_loop hv n lo _ h0 (by omega) (by omega) h3 ?_ (by omega)
        rw [show (lo + hi + 1) / 2 - 1 + 1 = (lo + hi + 1) / 2 by omega]
        omega
    · rw [if_neg h]
      have e : lo = hi := by omega
      subst e
      exact ⟨h0, h3, h4⟩
theorem rt_ref {v : Int} (m : zM) (hv : 0 ≤ v ∧ v < 9000000000000000000) : isRoot v (f214_1 v m) := rt_ref_loop hv (zfu 3000000001) 0 3000000000 (by omega) (by omega) (by omega) (by omega) (by omega) (by rw [zfu_eq]; omega)
def p2 (b : Nat) : Int := ((2 ^ b : Nat) : Int)
theorem p2_s (b : Nat) : p2 (b + 1) = 2 * p2 b := by
  have e : (2 ^ (b + 1) : Nat) = 2 ^ b * 2 := Nat.pow_succ 2 b
  unfold p2
  omega
theorem p2_pos (b : Nat) : 1 ≤ p2 b := by
  have e : 0 < (2 ^ b : Nat) := Nat.two_pow_pos b
  unfold p2
  omega
theorem tab_shl : ∀ b : Fin 26, zshlL 1 (b.val : Int) = ((2 ^ b.val : Nat) : Int) := by decide +kernel
theorem rt_cls_loop {v : Int} {m : zM} (hv : 0 ≤ v) : ∀ (b n : Nat) (root : Int), b ≤ 26 → b < n → 0 ≤ root → root + p2 b ≤ 67108864 → root * root ≤ v → v < (root + p2 b) * (root + p2 b) → isRoot v (fl24_6_1 (fun y => y) v m n root ((b : Int) - 1)) := by
  intro b
  induction b with
  | zero =>
    intro n root h0 h1 h2 h3 h4 h5
    obtain ⟨n, rfl⟩ : ∃ q, n = q + 1 := ⟨n - 1, by omega⟩
    show isRoot v (fl24_6_1_b (fl24_6_1 (fun y => y) v m n) (fun y => y) v m root (((0 : Nat) : Int) - 1))
    unfold fl24_6_1_b
    rw [if_pos (by omega)]
    exact ⟨h2, h4, h5⟩
  | succ b ih =>
    intro n root h0 h1 h2 h3 h4 h5
    obtain ⟨n, rfl⟩ : ∃ q, n = q + 1 := ⟨n - 1, by omega⟩
    show isRoot v (fl24_6_1_b (fl24_6_1 (fun y => y) v m n) (fun y => y) v m root (((b + 1 : Nat) : Int) - 1))
    unfold fl24_6_1_b
    have eb : ((b + 1 : Nat) : Int) - 1 = (b : Int) := by omega
    have ps := p2_s b
    have pp := p2_pos b
    have t := tab_shl ⟨b, by omega⟩
    try dsimp only at t
    rw [eb, if_neg (by omega)]
    simp only [zn_a]
    rw [t]
    have et : ((2 ^ b : Nat) : Int) = p2 b := rfl
    rw [et, w64_id (x := root + p2 b) (by omega)]
    have hm : 0 ≤ (root + p2 b) * (root + p2 b) ∧ (root + p2 b) * (root + p2 b) ≤ 67108864 * 67108864 := ⟨Int.mul_nonneg (by omega) (by omega), Int.mul_le_mul (by omega) (by omega) (by omega) (by omega)⟩
    rw [w64_id (x := (root + p2 b) * (root + p2 b)) (by omega), show (b : Int) + -1 = (b : Int) - 1 by omega]
    by_cases h6 : (root + p2 b) * (root + p2 b) ≤ v
    · rw [if_pos h6]
      refine ih n (root + p2 b) (by omega) (by omega) (by omega) (by omega) h6 ?_
      rw [show root + p2 b + p2 b = root + p2 (b + 1) by omega]
      exact h5
    · rw [if_neg h6]
      exact ih n root (by omega) (by omega) h2 (by omega) h4 (by omega)
theorem rt_cls {v : Int} (m : zM) (hv : 0 ≤ v ∧ v < 4503599627370496) : isRoot v (f24_1 v m) := rt_cls_loop hv.1 26 (zfu 27) 0 (by omega) (by rw [zfu_eq]; omega) (by omega) (by decide) (by omega) (by
  have e : p2 26 = 67108864 := by decide
  rw [e]
  omega)
theorem rt_eq {v : Int} (m n : zM) (hv : 0 ≤ v ∧ v < 4503599627370496) : f24_1 v m = f214_1 v n := (rt_cls m hv).uni (rt_ref n (by omega))
end
section
/-! The samples and the period on both sides. -/
/-- sums of the period; samples as they come -/
def WS (c : Nat → Int → Int) (w : Int → Int) : Prop := (∀ f : Nat, (f : Int) < w 1 → c 22 f = AC w f ∧ c 22 (4 + f) = RE w f ∧ c 22 (8 + f) = SQ w 95 f ∧ c 22 (12 + f) = SQ w 143 f) ∧
  c 22 3 = sumN (TG w 0) (w 1).toNat ∧ c 22 7 = sumN (TG w 1) (w 1).toNat ∧ c 22 11 = sumN (TG w 2) (w 1).toNat ∧ c 22 15 = sumN (TG w 3) (w 1).toNat ∧ isRoot (c 22 3 * c 22 3 + c 22 7 * c 22 7) (c 19 6)
def WN (c : Nat → Int → Int) (w : Int → Int) : Prop := w 3 < w 1 * w 2 ∧ ∀ k, 0 ≤ k → k < w 3 → c 20 k = w (191 + 16 * (k % w 1) + k / w 1) ∧ c 21 k = w (239 + 16 * (k % w 1) + k / w 1)
theorem WB.pt {w w' : Int → Int} (h : WB w) (e : ∀ i, (1 ≤ i ∧ i ≤ 3) ∨ (95 ≤ i ∧ i ≤ 286) → w' i = w i) : WB w' := by
  unfold WB
  rw [e 1 (by omega), e 2 (by omega), e 3 (by omega)]
  obtain ⟨a1, a2, a3, a4, a5, a6, a7⟩ := h
  exact ⟨a1, a2, a3, a4, a5, a6, fun i i0 i1 => by rw [e i (by omega)]; exact a7 i i0 i1⟩
theorem WB.of {B : Int} {m : zM} (h : OM B m) : WB (m 4 45) := by
  have h1 := r45_1 h.2.o 4
  have h2 := r45_2 h.2.o 4
  have h3 := r45_3 h.2.o 4
  exact ⟨h1.1, h1.2, h2.1, h2.2, h3.1, h3.2, fun i i0 i1 => r45_95 h.2.o 4 ⟨i0, i1⟩⟩
theorem mul_bd {a b : Int} (ha : -500 ≤ a ∧ a ≤ 500) (hb : -500 ≤ b ∧ b ≤ 500) : -250000 ≤ a * b ∧ a * b ≤ 250000 := by
  have h1 : 0 ≤ (a + 500) * (500 - b) := Int.mul_nonneg (by omega) (by omega)
  have h2 : 0 ≤ (500 - a) * (500 + b) := Int.mul_nonneg (by omega) (by omega)
  have h3 : 0 ≤ (a + 500) * (b + 500) := Int.mul_nonneg (by omega) (by omega)
  have h4 : 0 ≤ (500 - a) * (500 - b) := Int.mul_nonneg (by omega) (by omega)
  have e1 : (a + 500) * (500 - b) = a * 500 - a * b + 250000 - 500 * b := by rw [Int.add_mul, Int.mul_sub, Int.mul_sub]; omega
  have e2 : (500 - a) * (500 + b) = 250000 + 500 * b - a * 500 - a * b := by rw [Int.sub_mul, Int.mul_add, Int.mul_add]; omega
  have e3 : (a + 500) * (b + 500) = a * b + a * 500 + 500 * b + 250000 := by rw [Int.add_mul, Int.mul_add, Int.mul_add]; omega
  have e4 : (500 - a) * (500 - b) = 250000 - 500 * b - a * 500 + a * b := by rw [Int.sub_mul, Int.mul_sub, Int.mul_sub]; omega
  omega
theorem sq_nn (a : Int) : 0 ≤ a * a := by
  by_cases h : 0 ≤ a
  · exact Int.mul_nonneg h h
  · have := Int.mul_nonneg (show 0 ≤ -a by omega) (show 0 ≤ -a by omega)
    rw [Int.neg_mul_neg] at this
    exact this
theorem sum16 {f : Nat → Int} {n : Int} (hn : 4 ≤ n ∧ n ≤ 16) (h : ∀ k : Nat, (k : Int) < n → -250000 ≤ f k ∧ f k ≤ 250000) : -4000000 ≤ sumN f n.toNat ∧ sumN f n.toNat ≤ 4000000 := by
  have h1 := sumN_bd (f := f) (b := 250000) n.toNat (fun k hk => h k (by omega))
  omega
theorem AC_b {w : Int → Int} (h : WB w) {f : Int} (h0 : 0 ≤ f) (h1 : f < 3) : -4000000 ≤ AC w f ∧ AC w f ≤ 4000000 := by
  obtain ⟨-, -, n0, n1, -, -, hw⟩ := h
  exact sum16 ⟨n0, n1⟩ (fun k hk => mul_bd (hw _ (by omega) (by omega)) (hw _ (by omega) (by omega)))
theorem RE_b {w : Int → Int} (h : WB w) {f : Int} (h0 : 0 ≤ f) (h1 : f < 3) : -4000000 ≤ RE w f ∧ RE w f ≤ 4000000 := by
  obtain ⟨-, -, n0, n1, -, -, hw⟩ := h
  refine sum16 ⟨n0, n1⟩ (fun k hk => ?_)
  have e1 : 0 ≤ ((k : Int) + w 2 / 4) % w 2 := Int.emod_nonneg _ (by omega)
  have e2 : ((k : Int) + w 2 / 4) % w 2 < w 2 := Int.emod_lt_of_pos _ (by omega)
  unfold tR
  exact mul_bd (hw _ (by omega) (by omega)) (hw _ (by omega) (by omega))
theorem SQ_b {w : Int → Int} (h : WB w) {b f : Int} (hb : b = 95 ∨ b = 143) (h0 : 0 ≤ f) (h1 : f < 3) : 0 ≤ SQ w b f ∧ SQ w b f ≤ 4000000 := by
  obtain ⟨-, -, n0, n1, -, -, hw⟩ := h
  have h2 : -4000000 ≤ SQ w b f ∧ SQ w b f ≤ 4000000 := sum16 ⟨n0, n1⟩ (fun k hk => mul_bd (hw _ (by omega) (by omega)) (hw _ (by omega) (by omega)))
  exact ⟨sumN_nn _ (fun k _ => sq_nn _), h2.2⟩
theorem TG_b {w : Int → Int} (h : WB w) (i : Int) : -12000000 ≤ sumN (TG w i) (w 1).toNat ∧ sumN (TG w i) (w 1).toNat ≤ 12000000 := by
  have h1 := sumN_bd (f := TG w i) (b := 4000000) (w 1).toNat (fun k hk => by
    have hk3 : (k : Int) < 3 := by have := h.2.1; omega
    have a := AC_b h (f := k) (by omega) hk3
    have b := RE_b h (f := k) (by omega) hk3
    have c := SQ_b h (.inl rfl) (f := k) (by omega) hk3
    have d := SQ_b h (.inr rfl) (f := k) (by omega) hk3
    unfold TG
    repeat' split
    all_goals omega)
  have := h.1
  have := h.2.1
  omega
theorem AC_fw {w w' : Int → Int} (e : ∀ i, (1 ≤ i ∧ i ≤ 2) ∨ (95 ≤ i ∧ i ≤ 190) → w' i = w i) (hb : WB w) {f : Int} (h0 : 0 ≤ f) (h1 : f < 3) : AC w' f = AC w f ∧ RE w' f = RE w f ∧ SQ w' 95 f = SQ w 95 f ∧ SQ w' 143 f = SQ w 143 f := by
  obtain ⟨-, -, n0, n1, -, -, -⟩ := hb
  have e2 := e 2 (by omega)
  unfold AC RE SQ
  rw [e2]
  refine ⟨sumN_congr _ (fun k hk => ?_), sumN_congr _ (fun k hk => ?_), sumN_congr _ (fun k hk => ?_), sumN_congr _ (fun k hk => ?_)⟩
  · unfold tA
    rw [e _ (by omega), e _ (by omega)]
  · have e3 : 0 ≤ ((k : Int) + w 2 / 4) % w 2 := Int.emod_nonneg _ (by omega)
    have e4 : ((k : Int) + w 2 / 4) % w 2 < w 2 := Int.emod_lt_of_pos _ (by omega)
    unfold tR
    rw [e _ (by omega), e _ (by omega)]
  · unfold tS
    rw [e _ (by omega)]
  · unfold tS
    rw [e _ (by omega)]
theorem TG_fw {w w' : Int → Int} (e : ∀ i, (1 ≤ i ∧ i ≤ 2) ∨ (95 ≤ i ∧ i ≤ 190) → w' i = w i) (hb : WB w) (i : Int) : sumN (TG w' i) (w' 1).toNat = sumN (TG w i) (w 1).toNat := by
  rw [e 1 (by omega)]
  refine sumN_congr _ (fun k hk => ?_)
  have := hb.2.1
  obtain ⟨a, b, c, d⟩ := AC_fw e hb (f := k) (by omega) (by omega)
  unfold TG
  rw [a, b, c, d]
theorem WS.fe {c c' : Nat → Int → Int} {w w' : Int → Int} (h : WS c w) (hb : WB w) (h1 : FE 2 c c') (h2 : FW 2 w w') : WS c' w' := by
  have e : ∀ i, (1 ≤ i ∧ i ≤ 2) ∨ (95 ≤ i ∧ i ≤ 190) → w' i = w i := fun i hi => by
    rcases hi with hi | hi
    · exact h2 i (by omega) (by omega) (ja45_1 (by omega))
    · exact h2 i (by omega) (by omega) (ja45_95 (by omega))
  obtain ⟨a0, a1, a2, a3, a4, a5⟩ := h
  have hp := hb.2.1
  refine ⟨fun f hf => ?_, ?_, ?_, ?_, ?_, ?_⟩
  · rw [e 1 (by omega)] at hf
    obtain ⟨q1, q2, q3, q4⟩ := AC_fw e hb (f := f) (by omega) (by omega)
    obtain ⟨b1, b2, b3, b4⟩ := a0 f hf
    rw [h1.p22_0 _ (by omega) (by omega), h1.p22_0 _ (by omega) (by omega), h1.p22_0 _ (by omega) (by omega), h1.p22_0 _ (by omega) (by omega), q1, q2, q3, q4]
    exact ⟨b1, b2, b3, b4⟩
  · rw [h1.p22_0 _ (by omega) (by omega), TG_fw e hb]
    exact a1
  · rw [h1.p22_0 _ (by omega) (by omega), TG_fw e hb]
    exact a2
  · rw [h1.p22_0 _ (by omega) (by omega), TG_fw e hb]
    exact a3
  · rw [h1.p22_0 _ (by omega) (by omega), TG_fw e hb]
    exact a4
  · rw [h1.p22_0 3 (by omega) (by omega), h1.p22_0 7 (by omega) (by omega), h1.p19_3 6 (by omega) (by omega)]
    exact a5
theorem WN.fe {c c' : Nat → Int → Int} {w w' : Int → Int} (h : WN c w) (hb : WB w) (h1 : FE 2 c c') (h2 : FW 2 w w') : WN c' w' := by
  have e1 := h2 1 (by omega) (by omega) (ja45_1 (by omega))
  have e3 := h2 3 (by omega) (by omega) (ja45_1 (by omega))
  have e2 := h2 2 (by omega) (by omega) (ja45_1 (by omega))
  obtain ⟨p0, p1, n0, n1, s0, s1, -⟩ := hb
  refine ⟨by rw [e1, e2, e3]; exact h.1, fun k k0 k1 => ?_⟩
  rw [e3] at k1
  have q0 : 0 ≤ k % w 1 := Int.emod_nonneg _ (by omega)
  have q1 : k % w 1 < w 1 := Int.emod_lt_of_pos _ (by omega)
  have d0 : 0 ≤ k / w 1 := Int.ediv_nonneg k0 (by omega)
  have h9 := h.1
  rw [Int.mul_comm] at h9
  have d3 : k / w 1 < w 2 := Int.ediv_lt_of_lt_mul (by omega) (by omega)
  rw [e1, h1.p20_0 k k0 (by omega), h1.p21_0 k k0 (by omega), h2 _ (by omega) (by omega) (ja45_95 (by omega)), h2 _ (by omega) (by omega) (ja45_95 (by omega))]
  exact h.2 k k0 k1
theorem WS.pt {c c' : Nat → Int → Int} {w w' : Int → Int} (h : WS c w) (hb : WB w) (ec : ∀ i, c' 22 i = c 22 i) (e6 : c' 19 6 = c 19 6) (e : ∀ i, (1 ≤ i ∧ i ≤ 2) ∨ (95 ≤ i ∧ i ≤ 190) → w' i = w i) : WS c' w' := by
  obtain ⟨a0, a1, a2, a3, a4, a5⟩ := h
  have hp := hb.2.1
  unfold WS
  rw [ec 3, ec 7, ec 11, ec 15, e6, TG_fw e hb, TG_fw e hb, TG_fw e hb, TG_fw e hb]
  refine ⟨fun f hf => ?_, a1, a2, a3, a4, a5⟩
  rw [e 1 (by omega)] at hf
  obtain ⟨q1, q2, q3, q4⟩ := AC_fw e hb (f := f) (by omega) (by omega)
  rw [ec, ec, ec, ec, q1, q2, q3, q4]
  exact a0 f hf
end
section
/-! The class sums the period up. -/
def cT (c : Nat → Int → Int) (P N : Int) (q : Nat) (k f : Nat) : Int := match q with
  | 0 => c 20 ((k : Int) * P + f) * c 21 ((k : Int) * P + f)
  | 1 => c 20 ((k : Int) * P + f) * c 21 ((((k : Int) + N / 4) % N) * P + f)
  | 2 => c 20 ((k : Int) * P + f) * c 20 ((k : Int) * P + f)
  | _ => c 21 ((k : Int) * P + f) * c 21 ((k : Int) * P + f)
/-- k whole rows are summed up, and F of the next -/
def IN (c : Nat → Int → Int) (P N : Int) (k F : Nat) (a22 : Int → Int) : Prop := ∀ q : Nat, q < 4 → (∀ f : Nat, (f : Int) < P → a22 ((q : Int) * 4 + f) = sumN (fun j => cT c P N q j f) (if f < F then k + 1 else k)) ∧
  a22 ((q : Int) * 4 + 3) = sumN (fun f => sumN (fun j => cT c P N q j f) k) P.toNat + sumN (fun f => cT c P N q k f) F
def cB5 (c : Nat → Int → Int) : Prop := ∀ i, 0 ≤ i → i < 48 → (-500 ≤ c 20 i ∧ c 20 i ≤ 500) ∧ (-500 ≤ c 21 i ∧ c 21 i ≤ 500)
theorem idx48 {P N : Int} {k f : Int} (hP : 1 ≤ P ∧ P ≤ 3) (hN : 4 ≤ N ∧ N ≤ 16) (k0 : 0 ≤ k) (k1 : k < N) (f0 : 0 ≤ f) (f1 : f < P) : 0 ≤ k * P + f ∧ k * P + f < 48 := by
  rcases (show P = 1 ∨ P = 2 ∨ P = 3 by omega) with rfl | rfl | rfl <;> omega
theorem cT_b {c : Nat → Int → Int} (h : cB5 c) {P N : Int} (hP : 1 ≤ P ∧ P ≤ 3) (hN : 4 ≤ N ∧ N ≤ 16) (q : Nat) {k f : Nat} (hk : (k : Int) < N) (hf : (f : Int) < P) : -250000 ≤ cT c P N q k f ∧ cT c P N q k f ≤ 250000 := by
  obtain ⟨i0, i1⟩ := idx48 hP hN (k := (k : Int)) (f := (f : Int)) (by omega) hk (by omega) hf
  obtain ⟨u, v⟩ := h _ i0 i1
  unfold cT
  split
  · exact mul_bd u v
  · have e1 : 0 ≤ ((k : Int) + N / 4) % N := Int.emod_nonneg _ (by omega)
    have e2 : ((k : Int) + N / 4) % N < N := Int.emod_lt_of_pos _ (by omega)
    obtain ⟨j0, j1⟩ := idx48 hP hN (k := ((k : Int) + N / 4) % N) (f := (f : Int)) e1 e2 (by omega) hf
    exact mul_bd u (h _ j0 j1).2
  · exact mul_bd u u
  · exact mul_bd v v
/-- one number is added -/
theorem add22 (m : zM) (g : Nat) {q f x : Int} (hx : -250000 ≤ x ∧ x ≤ 250000) (hq : 0 ≤ q ∧ q < 4) (hf : 0 ≤ f ∧ f < 3) (h1 : -100000000 ≤ m g 22 (q * 4 + f) ∧ m g 22 (q * 4 + f) ≤ 100000000) (h2 : -100000000 ≤ m g 22 (q * 4 + 3) ∧ m g 22 (q * 4 + 3) ≤ 100000000) :
    (∀ i, f22_1 g q f x m g 22 i = if i = q * 4 + f ∨ i = q * 4 + 3 then m g 22 i + x else m g 22 i) ∧ ∀ g' k, (g' ≠ g ∨ k ≠ 22) → f22_1 g q f x m g' k = m g' k := by
  unfold f22_1
  simp only [zn_a, zs_a]
  have e : z_upd m g 22 (q * 4 + f) (w64 (m g 22 (q * 4 + f) + x)) g 22 (q * 4 + 3) = m g 22 (q * 4 + 3) := by rw [zu_row, fu_i _ _ (by omega)]
  rw [e, w64_id (by omega), w64_id (by omega)]
  refine ⟨fun i => ?_, fun g' k h => ?_⟩
  · rw [zu_row, zu_row]
    by_cases a : i = q * 4 + 3
    · rw [a, fu_s, if_pos (.inr rfl)]
    · rw [fu_i _ _ a]
      by_cases b : i = q * 4 + f
      · rw [b, fu_s, if_pos (.inl rfl)]
      · rw [fu_i _ _ b, if_neg (by omega)]
  · rcases h with h | h
    · rw [zu_g _ _ _ h, zu_g _ _ _ h]
    · rw [zu_k _ _ _ h, zu_k _ _ _ h]
/-- what IN says of sizes -/
theorem IN.bd {c : Nat → Int → Int} {P N : Int} {k F : Nat} {a : Int → Int} (h : IN c P N k F a) (hc : cB5 c) (hP : 1 ≤ P ∧ P ≤ 3) (hN : 4 ≤ N ∧ N ≤ 16) (hk : (k : Int) < N) (hF : (F : Int) ≤ P) {q : Nat} (hq : q < 4) :
    (∀ f : Nat, (f : Int) < P → -100000000 ≤ a ((q : Int) * 4 + f) ∧ a ((q : Int) * 4 + f) ≤ 100000000) ∧ -100000000 ≤ a ((q : Int) * 4 + 3) ∧ a ((q : Int) * 4 + 3) ≤ 100000000 := by
  obtain ⟨h1, h2⟩ := h q hq
  refine ⟨fun f hf => ?_, ?_⟩
  · rw [h1 f hf]
    have b := sumN_bd (f := fun j => cT c P N q j f) (b := 250000) (if f < F then k + 1 else k) (fun j hj => cT_b hc hP hN q (by split at hj <;> omega) hf)
    have : (((if f < F then k + 1 else k) : Nat) : Int) ≤ 17 := by split <;> omega
    omega
  · rw [h2]
    have b := sumN_bd (f := fun f => cT c P N q k f) (b := 250000) F (fun j hj => cT_b hc hP hN q hk (by omega))
    have d := sumN_bd (f := fun f => sumN (fun j => cT c P N q j f) k) (b := 4000000) P.toNat (fun f hf => by
      have e := sumN_bd (f := fun j => cT c P N q j f) (b := 250000) k (fun j hj => cT_b hc hP hN q (by omega) (by omega))
      omega)
    omega
theorem sumIf (f : Nat → Int) (k : Nat) (p q : Prop) [Decidable p] [Decidable q] (x : Int) (h : (q ∧ ¬ p ∧ x = f k) ∨ ((p ↔ q) ∧ x = 0)) : sumN f (if p then k + 1 else k) + x = sumN f (if q then k + 1 else k) := by
  rcases h with ⟨a, b, e⟩ | ⟨a, e⟩
  · rw [if_pos a, if_neg b, e]
    rfl
  · rw [e]
    by_cases hp : p
    · rw [if_pos hp, if_pos (a.mp hp)]
      omega
    · rw [if_neg hp, if_neg (fun h => hp (a.mpr h))]
      omega
theorem sumup_in {g : Nat} {kk : zM → zM} {c : Nat → Int → Int} {P N : Int} {k : Nat} (hc : cB5 c) (hP : 1 ≤ P ∧ P ≤ 3) (hN : 4 ≤ N ∧ N ≤ 16) (hk : (k : Int) < N) : ∀ (n F : Nat) (m : zM), (F : Int) ≤ P → P - F < n → IN c P N k F (m g 22) → m g 19 3 = P → m g 19 4 = N → (∀ i, m g 20 i = c 20 i) → (∀ i, m g 21 i = c 21 i) →
    ∃ m', fl21_37_1 kk g (N / 4) k (((k : Int) + N / 4) % N) n F m = kk m' ∧ IN c P N k P.toNat (m' g 22) ∧ (∀ g' j, (g' ≠ g ∨ j ≠ 22) → m' g' j = m g' j)
  | 0, F, m, h0, h1, h2, h3, h4, h5, h6 => by omega
  | n + 1, F, m, h0, h1, h2, h3, h4, h5, h6 => by
    show ∃ m', fl21_37_1_b (fl21_37_1 kk g (N / 4) k (((k : Int) + N / 4) % N) n) kk g (N / 4) k (((k : Int) + N / 4) % N) F m = kk m' ∧ _
    unfold fl21_37_1_b
    by_cases h : m g 19 3 ≤ (F : Int)
    · rw [if_pos h]
      refine ⟨m, rfl, ?_, fun _ _ _ => rfl⟩
      rw [show P.toNat = F by omega]
      exact h2
    · rw [if_neg h]
      simp only [zn_a, zs_a]
      have hF : (F : Int) < P := by omega
      have hf3 : (0 : Int) ≤ (F : Int) ∧ (F : Int) < 3 := by omega
      rw [h3, h5, h6]
      obtain ⟨m1, q1⟩ : ∃ x, x = f22_1 g 0 F (c 20 ((k : Int) * P + F) * c 21 ((k : Int) * P + F)) m := ⟨_, rfl⟩
      have t0 := cT_b hc hP hN 0 hk hF
      have b0 := h2.bd hc hP hN hk h0 (q := 0) (by omega)
      obtain ⟨a1, a2⟩ := add22 m g (q := 0) (f := (F : Int)) (x := cT c P N 0 k F) t0 (by omega) hf3 (b0.1 F hF) b0.2
      have e1 : f22_1 g 0 F (cT c P N 0 k F) m = m1 := q1.symm
      rw [e1] at a1 a2
      rw [← q1, a2 g 19 (.inr (by decide)), a2 g 20 (.inr (by decide)), a2 g 21 (.inr (by decide)), h3, h5, h6]
      obtain ⟨m2, q2⟩ : ∃ x, x = f22_1 g 1 F (c 20 ((k : Int) * P + F) * c 21 ((((k : Int) + N / 4) % N) * P + F)) m1 := ⟨_, rfl⟩
      have t1 := cT_b hc hP hN 1 hk hF
      have b1 := h2.bd hc hP hN hk h0 (q := 1) (by omega)
      have s1 : ∀ i, 4 ≤ i → m1 g 22 i = m g 22 i := fun i hi => by rw [a1 i, if_neg (by omega)]
      obtain ⟨a3, a4⟩ := add22 m1 g (q := 1) (f := (F : Int)) (x := cT c P N 1 k F) t1 (by omega) hf3 (by rw [s1 _ (by omega)]; exact b1.1 F hF) (by rw [s1 _ (by omega)]; exact b1.2)
      have e2 : f22_1 g 1 F (cT c P N 1 k F) m1 = m2 := q2.symm
      rw [e2] at a3 a4
      rw [← q2, a4 g 20 (.inr (by decide)), a2 g 20 (.inr (by decide)), h5]
      obtain ⟨m3, q3⟩ : ∃ x, x = f22_1 g 2 F (c 20 ((k : Int) * P + F) * c 20 ((k : Int) * P + F)) m2 := ⟨_, rfl⟩
      have t2 := cT_b hc hP hN 2 hk hF
      have b2 := h2.bd hc hP hN hk h0 (q := 2) (by omega)
      have s2 : ∀ i, 8 ≤ i → m2 g 22 i = m g 22 i := fun i hi => by rw [a3 i, if_neg (by omega), s1 i (by omega)]
      obtain ⟨a5, a6⟩ := add22 m2 g (q := 2) (f := (F : Int)) (x := cT c P N 2 k F) t2 (by omega) hf3 (by rw [s2 _ (by omega)]; exact b2.1 F hF) (by rw [s2 _ (by omega)]; exact b2.2)
      have e3 : f22_1 g 2 F (cT c P N 2 k F) m2 = m3 := q3.symm
      rw [e3] at a5 a6
      rw [← q3, a6 g 21 (.inr (by decide)), a4 g 21 (.inr (by decide)), a2 g 21 (.inr (by decide)), h6]
      obtain ⟨m4, q4⟩ : ∃ x, x = f22_1 g 3 F (c 21 ((k : Int) * P + F) * c 21 ((k : Int) * P + F)) m3 := ⟨_, rfl⟩
      have t3 := cT_b hc hP hN 3 hk hF
      have b3 := h2.bd hc hP hN hk h0 (q := 3) (by omega)
      have s3 : ∀ i, 12 ≤ i → m3 g 22 i = m g 22 i := fun i hi => by rw [a5 i, if_neg (by omega), s2 i (by omega)]
      obtain ⟨a7, a8⟩ := add22 m3 g (q := 3) (f := (F : Int)) (x := cT c P N 3 k F) t3 (by omega) hf3 (by rw [s3 _ (by omega)]; exact b3.1 F hF) (by rw [s3 _ (by omega)]; exact b3.2)
      have e4 : f22_1 g 3 F (cT c P N 3 k F) m3 = m4 := q4.symm
      rw [e4] at a7 a8
      rw [← q4]
      have fr : ∀ g' j, (g' ≠ g ∨ j ≠ 22) → m4 g' j = m g' j := fun g' j hj => by rw [a8 g' j hj, a6 g' j hj, a4 g' j hj, a2 g' j hj]
      -- what row 22 is now
      have tot : ∀ (q : Nat), q < 4 → ∀ i : Int, (q : Int) * 4 ≤ i → i < (q : Int) * 4 + 4 → m4 g 22 i = if i = (q : Int) * 4 + F ∨ i = (q : Int) * 4 + 3 then m g 22 i + cT c P N q k F else m g 22 i := by
        intro q hq i i0 i1
        rcases (show q = 0 ∨ q = 1 ∨ q = 2 ∨ q = 3 by omega) with rfl | rfl | rfl | rfl
        · rw [a7 i, if_neg (by omega), a5 i, if_neg (by omega), a3 i, if_neg (by omega), a1 i]
          rfl
        · rw [a7 i, if_neg (by omega), a5 i, if_neg (by omega), a3 i, s1 i (by omega)]
          rfl
        · rw [a7 i, if_neg (by omega), a5 i, s2 i (by omega)]
          rfl
        · rw [a7 i, s3 i (by omega)]
          rfl
      have hIN : IN c P N k (F + 1) (m4 g 22) := by
        intro q hq
        obtain ⟨g1, g2⟩ := h2 q hq
        refine ⟨fun f hf => ?_, ?_⟩
        · rw [tot q hq _ (by omega) (by omega)]
          have g3 := g1 f hf
          by_cases e : f = F
          · rw [if_pos (.inl (by rw [e])), g3]
            exact sumIf _ _ _ _ _ (.inl ⟨by omega, by omega, by rw [e]⟩)
          · rw [if_neg (by omega), g3, ← Int.add_zero (sumN _ (if f < F then k + 1 else k))]
            exact sumIf _ _ _ _ _ (.inr ⟨by omega, rfl⟩)
        · rw [tot q hq _ (by omega) (by omega), if_pos (.inr rfl), g2]
          show _ + _ + cT c P N q k F = _ + (sumN (fun f => cT c P N q k f) F + cT c P N q k F)
          omega
      obtain ⟨m', g1, g2, g3⟩ := sumup_in (kk := kk) (k := k) hc hP hN hk n (F + 1) m4 (by omega) (by omega) hIN (by rw [fr g 19 (.inr (by decide))]; exact h3) (by rw [fr g 19 (.inr (by decide))]; exact h4) (fun i => by rw [fr g 20 (.inr (by decide))]; exact h5 i) (fun i => by rw [fr g 21 (.inr (by decide))]; exact h6 i)
      exact ⟨m', g1, g2, fun g' j hj => by rw [g3 g' j hj, fr g' j hj]⟩
theorem IN.next {c : Nat → Int → Int} {P N : Int} {k : Nat} {a : Int → Int} (hP : 1 ≤ P) (h : IN c P N k P.toNat a) : IN c P N (k + 1) 0 a := by
  intro q hq
  obtain ⟨h1, h2⟩ := h q hq
  refine ⟨fun f hf => ?_, ?_⟩
  · rw [h1 f hf, if_pos (by omega), if_neg (by omega)]
  · rw [h2, ← sumN_add]
    show _ = sumN (fun f => sumN (fun j => cT c P N q j f) k + cT c P N q k f) P.toNat + 0
    omega
theorem sumup_out {g : Nat} {kk : zM → zM} {c : Nat → Int → Int} {P : Int} {N : Nat} (hc : cB5 c) (hP : 1 ≤ P ∧ P ≤ 3) (hN : 4 ≤ N ∧ N ≤ 16) : ∀ (n k : Nat) (m : zM), k ≤ N → N - k < n → IN c P N k 0 (m g 22) → m g 19 3 = P → m g 19 4 = N → (∀ i, m g 20 i = c 20 i) → (∀ i, m g 21 i = c 21 i) →
    ∃ m', fl21_17_1 kk g ((N : Int) / 4) n k m = kk m' ∧ IN c P N N 0 (m' g 22) ∧ (∀ g' j, (g' ≠ g ∨ j ≠ 22) → m' g' j = m g' j)
  | 0, k, m, h0, h1, h2, h3, h4, h5, h6 => by omega
  | n + 1, k, m, h0, h1, h2, h3, h4, h5, h6 => by
    show ∃ m', fl21_17_1_b (fl21_17_1 kk g ((N : Int) / 4) n) kk g ((N : Int) / 4) k m = kk m' ∧ _
    unfold fl21_17_1_b
    by_cases h : m g 19 4 ≤ (k : Int)
    · rw [if_pos h]
      have e : k = N := by omega
      subst e
      exact ⟨m, rfl, h2, fun _ _ _ => rfl⟩
    · rw [if_neg h, zn_a, h4]
      obtain ⟨m1, g1, g2, g3⟩ := sumup_in (g := g) (kk := fun m512 => fl21_17_1 kk g ((N : Int) / 4) n ((k : Int) + 1) m512) (k := k) hc hP (N := (N : Int)) (by omega) (by omega) (zfu 4) 0 m (by omega) (by rw [zfu_eq]; omega) h2 h3 h4 h5 h6
      rw [show ((0 : Nat) : Int) = 0 from rfl] at g1
      rw [g1]
      obtain ⟨m', e, e1, e2⟩ := sumup_out (kk := kk) hc hP hN n (k + 1) m1 (by omega) (by omega) (g2.next hP.1) (by rw [g3 g 19 (.inr (by decide))]; exact h3) (by rw [g3 g 19 (.inr (by decide))]; exact h4) (fun i => by rw [g3 g 20 (.inr (by decide))]; exact h5 i) (fun i => by rw [g3 g 21 (.inr (by decide))]; exact h6 i)
      rw [show ((k + 1 : Nat) : Int) = (k : Int) + 1 by omega] at e
      exact ⟨m', e, e1, fun g' j hj => by rw [e2 g' j hj, g3 g' j hj]⟩
theorem nul11 {g : Nat} : ∀ (n : Nat) (y : Int) (m : zM), 0 ≤ y → y ≤ 16 → 16 - y < n → (∀ i, y ≤ i → i < 16 → fl11_6_1 (fun m => m) g 0 16 n y m g 22 i = 0) ∧ (∀ i, (i < y ∨ 16 ≤ i) → fl11_6_1 (fun m => m) g 0 16 n y m g 22 i = m g 22 i)
  | 0, y, m, h0, h1, h2 => by omega
  | n + 1, y, m, h0, h1, h2 => by
    show (∀ i, y ≤ i → i < 16 → fl11_6_1_b (fl11_6_1 (fun m => m) g 0 16 n) (fun m => m) g 0 16 y m g 22 i = 0) ∧ (∀ i, (i < y ∨ 16 ≤ i) → fl11_6_1_b (fl11_6_1 (fun m => m) g 0 16 n) (fun m => m) g 0 16 y m g 22 i = m g 22 i)
    unfold fl11_6_1_b
    by_cases h : 16 ≤ y
    · rw [if_pos h]
      exact ⟨fun i i0 i1 => by omega, fun _ _ => rfl⟩
    · rw [if_neg h, zs_a]
      obtain ⟨a, b⟩ := nul11 (g := g) n (y + 1) (z_upd m g 22 y 0) (by omega) (by omega) (by omega)
      refine ⟨fun i i0 i1 => ?_, fun i hi => ?_⟩
      · by_cases e : i = y
        · rw [b i (by omega), zu_row, e, fu_s]
        · exact a i (by omega) i1
      · rw [b i (by omega), zu_row, fu_i _ _ (by omega)]
/-- all of it -/
theorem sumup_c {m : zM} {g : Nat} (hc : cB5 (m g)) (hP : 1 ≤ m g 19 3 ∧ m g 19 3 ≤ 3) (hN : 4 ≤ m g 19 4 ∧ m g 19 4 ≤ 16) : IN (m g) (m g 19 3) (m g 19 4) (m g 19 4).toNat 0 (f21_1 g m g 22) ∧ isRoot (f21_1 g m g 22 3 * f21_1 g m g 22 3 + f21_1 g m g 22 7 * f21_1 g m g 22 7) (f21_1 g m g 19 6) ∧
    (∀ g' j, (g' ≠ g ∨ (j ≠ 22 ∧ j ≠ 19)) → f21_1 g m g' j = m g' j) ∧ (∀ i, i ≠ 6 → f21_1 g m g 19 i = m g 19 i) := by
  have hw := f11_w (g := g) (a := 0) (N := 16) (zfu 17) 0 m
  obtain ⟨z1, z2⟩ := nul11 (g := g) (zfu 17) 0 m (by omega) (by omega) (by rw [zfu_eq]; omega)
  have e0 : ∀ m, f11_1 g 0 m = fl11_6_1 (fun m => m) g 0 16 (zfu 17) 0 m := fun _ => rfl
  unfold f21_1
  rw [zs_a, e0]
  generalize fl11_6_1 (fun m => m) g 0 16 (zfu 17) 0 m = m0 at hw z1 z2 ⊢
  have q19 : ∀ i, i ≠ 6 → m0 g 19 i = m g 19 i := fun i hi => hw g 19 i (by omega)
  obtain ⟨N, hNN⟩ : ∃ N : Nat, m g 19 4 = (N : Int) := ⟨(m g 19 4).toNat, by omega⟩
  rw [q19 4 (by decide), hNN, Int.toNat_natCast]
  rw [hNN] at hN
  have h0 : IN (m g) (m g 19 3) N 0 0 (m0 g 22) := by
    intro q hq
    refine ⟨fun f hf => ?_, ?_⟩
    · rw [z1 _ (by omega) (by omega), if_neg (by omega)]
      rfl
    · rw [z1 _ (by omega) (by omega)]
      have : sumN (fun f => sumN (fun j => cT (m g) (m g 19 3) N q j f) 0) (m g 19 3).toNat = 0 := by
        have : ∀ n : Nat, sumN (fun f => sumN (fun j => cT (m g) (m g 19 3) N q j f) 0) n = 0 := fun n => by
          induction n with
          | zero => rfl
          | succ n ih =>
            show sumN _ n + 0 = 0
            rw [ih]
            rfl
        exact this _
      rw [this]
      rfl
  obtain ⟨m1, e, e1, e2⟩ := sumup_out (g := g) (kk := fun m505 => zn (f23_1 g 3 m505) fun v511 => zs (z_upd m505 g 19 6 v511) fun m512 => m512) hc hP (N := N) (by omega) (zfu 17) 0 m0 (by omega) (by rw [zfu_eq]; omega) h0 (q19 3 (by decide)) (by rw [q19 4 (by decide)]; exact hNN) (fun i => hw g 20 i (by omega)) (fun i => hw g 21 i (by omega))
  have e' : fl21_17_1 (fun m505 => zn (f23_1 g 3 m505) fun v511 => zs (z_upd m505 g 19 6 v511) fun m512 => m512) g ((N : Int) / 4) (zfu 17) 0 m0 = zn (f23_1 g 3 m1) fun v511 => zs (z_upd m1 g 19 6 v511) fun m512 => m512 := e
  rw [e', zn_a, zs_a]
  have r22 : ∀ i, z_upd m1 g 19 6 (f23_1 g 3 m1) g 22 i = m1 g 22 i := fun i => by rw [zu_k _ _ _ (by decide)]
  have hb0 := (e1 0 (by omega)).2
  have hb1 := (e1 1 (by omega)).2
  have bd : ∀ q : Nat, q < 4 → -12000000 ≤ m1 g 22 ((q : Int) * 4 + 3) ∧ m1 g 22 ((q : Int) * 4 + 3) ≤ 12000000 := fun q hq => by
    rw [(e1 q hq).2]
    have d := sumN_bd (f := fun f => sumN (fun j => cT (m g) (m g 19 3) N q j f) N) (b := 4000000) (m g 19 3).toNat (fun f hf => by
      have e := sumN_bd (f := fun j => cT (m g) (m g 19 3) N q j f) (b := 250000) N (fun j hj => cT_b hc hP (by omega) q (by omega) (by omega))
      omega)
    show -12000000 ≤ _ + (0 : Int) ∧ _ + (0 : Int) ≤ 12000000
    omega
  have b3 : -12000000 ≤ m1 g 22 3 ∧ m1 g 22 3 ≤ 12000000 := bd 0 (by omega)
  have b7 : -12000000 ≤ m1 g 22 7 ∧ m1 g 22 7 ≤ 12000000 := bd 1 (by omega)
  refine ⟨?_, ?_, fun g' j hj => ?_, fun i hi => ?_⟩
  · rw [show z_upd m1 g 19 6 (f23_1 g 3 m1) g 22 = m1 g 22 from funext r22]
    exact e1
  · rw [r22, r22, zu_row, fu_s]
    unfold f23_1
    simp only [zn_a]
    rw [show (0 : Int) + 3 = 3 by decide, show (4 : Int) + 3 = 7 by decide]
    have s3 : m1 g 22 3 * m1 g 22 3 ≤ 144000000000000 ∧ 0 ≤ m1 g 22 3 * m1 g 22 3 := ⟨by
      have h1 : 0 ≤ (12000000 + m1 g 22 3) * (12000000 - m1 g 22 3) := Int.mul_nonneg (by omega) (by omega)
      rw [Int.add_mul, Int.mul_sub, Int.mul_sub] at h1
      omega, sq_nn _⟩
    have s7 : m1 g 22 7 * m1 g 22 7 ≤ 144000000000000 ∧ 0 ≤ m1 g 22 7 * m1 g 22 7 := ⟨by
      have h1 : 0 ≤ (12000000 + m1 g 22 7) * (12000000 - m1 g 22 7) := Int.mul_nonneg (by omega) (by omega)
      rw [Int.add_mul, Int.mul_sub, Int.mul_sub] at h1
      omega, sq_nn _⟩
    rw [w64_id (x := m1 g 22 3 * m1 g 22 3) (by omega), w64_id (x := m1 g 22 7 * m1 g 22 7) (by omega), w64_id (x := m1 g 22 3 * m1 g 22 3 + m1 g 22 7 * m1 g 22 7) (by omega)]
    exact rt_cls _ (by omega)
  · have h9 : m0 g' j = m g' j := funext fun i => hw g' j i (by omega)
    rcases hj with hj | hj
    · rw [zu_g _ _ _ hj, e2 g' j (.inl hj), h9]
    · rw [zu_k _ _ _ hj.2, e2 g' j (.inr hj.1), h9]
  · rw [zu_row, fu_i _ _ hi, e2 g 19 (.inr (by decide)), q19 i hi]
end
section
/-! What of marks is seen in the period, on both sides. -/
theorem seen_tab : ∀ a b s : Fin 2, zand (zshr (zor (zor (4 * (a.val : Int)) (8 * (b.val : Int))) (16 * (s.val : Int))) 2) 1 = (a.val : Int) ∧ zand (zshr (zor (zor (4 * (a.val : Int)) (8 * (b.val : Int))) (16 * (s.val : Int))) 3) 1 = (b.val : Int) ∧ zand (zshr (zor (zor (4 * (a.val : Int)) (8 * (b.val : Int))) (16 * (s.val : Int))) 4) 1 = (s.val : Int) := by decide +kernel
theorem seen_loop {c r : zM} {g : Nat} {low : Int} {k : Int → Int → Int → Int → Int → Int} (hr : WB (r 4 45)) (h : WS (c g) (r 4 45)) (h1 : c g 19 3 = r 4 45 1) (h2 : c g 19 4 = r 4 45 2) (hlow : low = r 4 45 6) : ∀ (n n2 n3 n4 j : Nat) (a b d e s : Int), (j : Int) ≤ r 4 45 1 → r 4 45 1 - j < n → r 4 45 1 - j < n2 → r 4 45 1 - j < n3 → r 4 45 1 - j < n4 →
    ∃ a' b' d' e' s', fl34_16_1 k g low c n a b d e s j = k a' b' d' e' s' ∧ (∀ k2 : Int → Int → Int, fl225_6_1 k2 r n2 a b j = k2 a' b') ∧ (∀ k2 : Int → Int → Int, fl226_6_1 k2 r n3 e d j = k2 e' d') ∧ (s = 0 → fl227_2_1 (fun _ => 1) 0 r n4 j = if s' = 0 then 0 else 1) ∧ (s ≠ 0 → s' ≠ 0) := by
  intro n
  induction n with
  | zero =>
    intro n2 n3 n4 j a b d e s h0 g1 g2 g3 g4
    omega
  | succ n ih =>
    intro n2 n3 n4 j a b d e s h0 g1 g2 g3 g4
    obtain ⟨n2, rfl⟩ : ∃ q, n2 = q + 1 := ⟨n2 - 1, by omega⟩
    obtain ⟨n3, rfl⟩ : ∃ q, n3 = q + 1 := ⟨n3 - 1, by omega⟩
    obtain ⟨n4, rfl⟩ : ∃ q, n4 = q + 1 := ⟨n4 - 1, by omega⟩
    show ∃ a' b' d' e' s', fl34_16_1_b (fl34_16_1 k g low c n) k g low c a b d e s j = k a' b' d' e' s' ∧ (∀ k2 : Int → Int → Int, fl225_6_1_b (fl225_6_1 k2 r n2) k2 r a b j = k2 a' b') ∧ (∀ k2 : Int → Int → Int, fl226_6_1_b (fl226_6_1 k2 r n3) k2 r e d j = k2 e' d') ∧ (s = 0 → fl227_2_1_b (fl227_2_1 (fun _ => 1) 0 r n4) (fun _ => 1) 0 r j = if s' = 0 then 0 else 1) ∧ (s ≠ 0 → s' ≠ 0)
    unfold fl34_16_1_b fl225_6_1_b fl226_6_1_b fl227_2_1_b
    by_cases hj : r 4 45 1 ≤ (j : Int)
    · rw [if_pos (show c g 19 3 ≤ (j : Int) by omega)]
      refine ⟨a, b, d, e, s, rfl, fun k2 => by rw [if_pos hj], fun k2 => by rw [if_pos hj], fun hs => by rw [if_pos hj, if_pos hs], fun hs => hs⟩
    · obtain ⟨w1, w2, w3, w4⟩ := h.1 j (by omega)
      have nn := SQ_b hr (b := 143) (.inr rfl) (f := (j : Int)) (by omega) (by have := hr.2.1; omega)
      have nn2 := SQ_b hr (b := 95) (.inl rfl) (f := (j : Int)) (by omega) (by have := hr.2.1; omega)
      rw [if_neg (show ¬ c g 19 3 ≤ (j : Int) by omega)]
      simp only [zn_a]
      rw [Int.zero_add, w1, w3, w4, h2]
      obtain ⟨A, hA⟩ : ∃ A, A = (if a = 0 then (if (if SQ (r 4 45) 95 j < r 4 45 2 * low then (1 : Int) else 0) = 0 then (0 : Int) else 1) else 1) := ⟨_, rfl⟩
      obtain ⟨Bb, hBb⟩ : ∃ A, A = (if b = 0 then (if (if SQ (r 4 45) 95 j < r 4 45 2 * low then (1 : Int) else 0) = 0 then (1 : Int) else 0) else 1) := ⟨_, rfl⟩
      obtain ⟨Dd, hDd⟩ : ∃ A, A = (if d = 0 then (if AC (r 4 45) j ≤ 0 then (0 : Int) else 1) else 1) := ⟨_, rfl⟩
      obtain ⟨Ee, hEe⟩ : ∃ A, A = (if e = 0 then (if AC (r 4 45) j < 0 then (1 : Int) else 0) else 1) := ⟨_, rfl⟩
      obtain ⟨Ss, hSs⟩ : ∃ A, A = (if s = 0 then (if SQ (r 4 45) 95 j = 0 then (if SQ (r 4 45) 143 j ≤ 0 then (0 : Int) else 1) else 0) else 1) := ⟨_, rfl⟩
      rw [← hA, ← hBb, ← hDd, ← hEe, ← hSs]
      obtain ⟨a', b', d', e', s', q1, q2, q3, q4, q5⟩ := ih n2 n3 n4 (j + 1) A Bb Dd Ee Ss (by omega) (by omega) (by omega) (by omega) (by omega)
      rw [show ((j + 1 : Nat) : Int) = (j : Int) + 1 by omega] at q1 q2 q3 q4
      refine ⟨a', b', d', e', s', q1, fun k2 => ?_, fun k2 => ?_, fun hs => ?_, fun hs => ?_⟩
      · rw [if_neg hj, sq_r hr, ← hlow, ← hA, ← hBb]
        exact q2 k2
      · rw [if_neg hj, ac_r hr, ← hEe, ← hDd]
        exact q3 k2
      · rw [if_neg hj, sq_r hr, sq_r hr]
        rw [if_pos hs] at hSs
        by_cases z1 : SQ (r 4 45) 143 j ≤ 0
        · rw [if_pos z1]
          refine q4 ?_
          rw [hSs, if_pos z1]
          split <;> rfl
        · rw [if_neg z1]
          by_cases z2 : SQ (r 4 45) 95 j = 0
          · rw [if_pos z2]
            rw [if_pos z2, if_neg z1] at hSs
            rw [if_neg (q5 (by omega))]
          · rw [if_neg z2]
            refine q4 ?_
            rw [hSs, if_neg z2]
      · refine q5 ?_
        rw [hSs, if_neg hs]
        decide
theorem seen_T {c r : zM} {g : Nat} {low : Int} (hr : WB (r 4 45)) (h : WS (c g) (r 4 45)) (h1 : c g 19 3 = r 4 45 1) (h2 : c g 19 4 = r 4 45 2) (hlow : low = r 4 45 6) : ∀ y, 2 ≤ y → y < 5 → (soR y r = 0 ∨ soR y r = 1) ∧ (if zand (zshr (f34_1 g low c) y) 1 = 1 then (1 : Int) else 0) = soR y r := by
  have hp := hr.1
  have hp2 := hr.2.1
  obtain ⟨a, b, d, e, s, q1, q2, q3, q4, -⟩ := seen_loop (k := fun y501 y502 y503 y504 y505 => zn (if y501 = 0 then (0) else (if y502 = 0 then (0) else (4))) fun v512 => zn (if y503 = 0 then (0) else (if y504 = 0 then (0) else (8))) fun v519 => zn (zor v512 v519) fun z524 => zn (if y505 = 0 then (0) else (16)) fun v526 => zn (zor z524 v526) fun z531 => z531) hr h h1 h2 hlow (zfu 4) (zfu 4) (zfu 4) (zfu 4) 0 0 0 0 0 0 (by omega) (by rw [zfu_eq]; omega) (by rw [zfu_eq]; omega) (by rw [zfu_eq]; omega) (by rw [zfu_eq]; omega)
  have e34 : f34_1 g low c = zor (zor (if a = 0 then 0 else if b = 0 then 0 else 4) (if d = 0 then 0 else if e = 0 then 0 else 8)) (if s = 0 then 0 else 16) := q1
  have e2 : f225_1 r = if a = 0 then 0 else if b = 0 then 0 else 1 := q2 _
  have e3 : f226_1 r = if e = 0 then 0 else if d = 0 then 0 else 1 := q3 _
  have e4 : f227_1 r = if s = 0 then 0 else 1 := q4 rfl
  obtain ⟨A, hA, hA2⟩ : ∃ A : Fin 2, (if a = 0 then (0 : Int) else if b = 0 then 0 else 4) = 4 * (A.val : Int) ∧ (if a = 0 then (0 : Int) else if b = 0 then 0 else 1) = (A.val : Int) := by
    by_cases x1 : a = 0
    · exact ⟨0, by rw [if_pos x1]; rfl, by rw [if_pos x1]; rfl⟩
    · by_cases x2 : b = 0
      · exact ⟨0, by rw [if_neg x1, if_pos x2]; rfl, by rw [if_neg x1, if_pos x2]; rfl⟩
      · exact ⟨1, by rw [if_neg x1, if_neg x2]; rfl, by rw [if_neg x1, if_neg x2]; rfl⟩
  obtain ⟨D, hD, hD2⟩ : ∃ A : Fin 2, (if d = 0 then (0 : Int) else if e = 0 then 0 else 8) = 8 * (A.val : Int) ∧ (if e = 0 then (0 : Int) else if d = 0 then 0 else 1) = (A.val : Int) := by
    by_cases x1 : d = 0
    · exact ⟨0, by rw [if_pos x1]; rfl, by rw [if_pos x1]; split <;> rfl⟩
    · by_cases x2 : e = 0
      · exact ⟨0, by rw [if_neg x1, if_pos x2]; rfl, by rw [if_pos x2]; rfl⟩
      · exact ⟨1, by rw [if_neg x1, if_neg x2]; rfl, by rw [if_neg x2, if_neg x1]; rfl⟩
  obtain ⟨S, hS, hS2⟩ : ∃ A : Fin 2, (if s = 0 then (0 : Int) else 16) = 16 * (A.val : Int) ∧ (if s = 0 then (0 : Int) else 1) = (A.val : Int) := by
    by_cases x1 : s = 0
    · exact ⟨0, by rw [if_pos x1]; rfl, by rw [if_pos x1]; rfl⟩
    · exact ⟨1, by rw [if_neg x1]; rfl, by rw [if_neg x1]; rfl⟩
  rw [hA2] at e2
  rw [hD2] at e3
  rw [hS2] at e4
  rw [hA, hD, hS] at e34
  obtain ⟨t2, t3, t4⟩ := seen_tab A D S
  have key : ∀ F : Fin 2, ((F.val : Int) = 0 ∨ (F.val : Int) = 1) ∧ (if (F.val : Int) = 1 then (1 : Int) else 0) = (F.val : Int) := by decide
  intro y y0 y1
  unfold soR
  rw [e34]
  rcases (show y = 2 ∨ y = 3 ∨ y = 4 by omega) with rfl | rfl | rfl
  · rw [if_pos rfl, e2, t2]
    exact key A
  · rw [if_neg (by decide), if_pos rfl, e3, t3]
    exact key D
  · rw [if_neg (by decide), if_neg (by decide), e4, t4]
    exact key S
end
section
/-! What a second, what n seconds of one kind do to registers, credit and block. -/
def qd (P Q : Int) : Int := if P < 0 then (if Q < 0 then 3 else 2) else (if Q < 0 then 4 else 1)
/-- what a second adds to a register -/
def dl (P Q S q : Int) : Int := if q = 0 then max P 0 else if q = 1 then max (-P) 0 else if q = 6 then S else if q = 1 + qd P Q then max Q (-Q) else 0
theorem qd_r (P Q : Int) : 1 ≤ qd P Q ∧ qd P Q ≤ 4 := by
  unfold qd
  repeat' split
  all_goals omega
theorem dl_b {P Q S : Int} (hP : -12000000 ≤ P ∧ P ≤ 12000000) (hQ : -12000000 ≤ Q ∧ Q ≤ 12000000) (hS : 0 ≤ S ∧ S ≤ 17000000) (q : Int) : 0 ≤ dl P Q S q ∧ dl P Q S q ≤ 17000000 := by
  unfold dl
  repeat' split
  all_goals omega
theorem qd_mul {P Q n : Int} (hn : 1 ≤ n) : qd (P * n) (Q * n) = qd P Q := by
  have a : P * n < 0 ↔ P < 0 := ⟨fun h => by
    by_cases h1 : 0 ≤ P
    · have := Int.mul_nonneg h1 (show 0 ≤ n by omega)
      omega
    · omega, fun h => Int.mul_neg_of_neg_of_pos h (by omega)⟩
  have b : Q * n < 0 ↔ Q < 0 := ⟨fun h => by
    by_cases h1 : 0 ≤ Q
    · have := Int.mul_nonneg h1 (show 0 ≤ n by omega)
      omega
    · omega, fun h => Int.mul_neg_of_neg_of_pos h (by omega)⟩
  unfold qd
  simp only [a, b]
theorem max_mul {P n : Int} (hn : 0 ≤ n) : max (P * n) 0 = n * max P 0 ∧ max (P * n) (-(P * n)) = n * max P (-P) := by
  by_cases h : 0 ≤ P
  · have h1 := Int.mul_nonneg h hn
    rw [show max P 0 = P by omega, show max P (-P) = P by omega, Int.mul_comm n P]
    omega
  · have h1 := Int.mul_nonneg (show 0 ≤ -P by omega) hn
    rw [Int.neg_mul] at h1
    rw [show max P 0 = 0 by omega, show max P (-P) = -P by omega, Int.mul_zero, Int.mul_neg, Int.mul_comm n P]
    omega
theorem mul_le3 {a b A B : Int} (h0 : 0 ≤ a) (h1 : a ≤ A) (h2 : 0 ≤ b) (h3 : b ≤ B) : 0 ≤ a * b ∧ a * b ≤ A * B := ⟨Int.mul_nonneg h0 h2, Int.mul_le_mul h1 h3 h2 (by omega)⟩
theorem tdiv_nn {a b : Int} (h : 0 ≤ a) : a.tdiv b = a / b := Int.tdiv_eq_ediv_of_nonneg h
theorem ediv_b {a b A : Int} (h0 : 0 ≤ a) (h1 : a ≤ A) (hb : 1 ≤ b) : 0 ≤ a / b ∧ a / b ≤ A := ⟨Int.ediv_nonneg h0 (by omega), Int.le_trans (Int.ediv_le_self _ h0) h1⟩
/-- a register's number is added to: the class -/
theorem count_c {m : zM} {g : Nat} {tar P Q S n : Int} (hP : -12000000 ≤ P ∧ P ≤ 12000000) (hQ : -12000000 ≤ Q ∧ Q ≤ 12000000) (hS : 0 ≤ S ∧ S ≤ 17000000) (hn : 1 ≤ n ∧ n ≤ 3600) (ht : 0 ≤ tar ∧ tar < 4) (hr : ∀ i, 0 ≤ i → i < 28 → 0 ≤ m g 24 i ∧ m g 24 i ≤ 1000000000000000) :
    (∀ q t, 0 ≤ q → q < 7 → 0 ≤ t → t < 4 → f50_1 g tar (P * n) (Q * n) (S * n) m g 24 (q * 4 + t) = m g 24 (q * 4 + t) + if t = tar then n * dl P Q S q else 0) ∧ ∀ g' k, (g' ≠ g ∨ k ≠ 24) → f50_1 g tar (P * n) (Q * n) (S * n) m g' k = m g' k := by
  obtain ⟨p1, p2⟩ := max_mul (P := P) (n := n) (by omega)
  obtain ⟨q1, q2⟩ := max_mul (P := Q) (n := n) (by omega)
  have p3 := (max_mul (P := -P) (n := n) (by omega)).1
  rw [Int.neg_mul] at p3
  have d0 := mul_le3 (a := n) (b := max P 0) (A := 3600) (B := 12000000) (by omega) (by omega) (by omega) (by omega)
  have d1 := mul_le3 (a := n) (b := max (-P) 0) (A := 3600) (B := 12000000) (by omega) (by omega) (by omega) (by omega)
  have d2 := mul_le3 (a := n) (b := max Q (-Q)) (A := 3600) (B := 12000000) (by omega) (by omega) (by omega) (by omega)
  have d6 := mul_le3 (a := n) (b := S) (A := 3600) (B := 17000000) (by omega) (by omega) (by omega) (by omega)
  have hqd := qd_r P Q
  -- import, export
  obtain ⟨m1, e1⟩ : ∃ x, x = (if P * n ≤ 0 then z_upd m g 24 (4 + tar) (w64 (m g 24 (4 + tar) - P * n)) else z_upd m g 24 (0 + tar) (w64 (m g 24 (0 + tar) + P * n))) := ⟨_, rfl⟩
  have a1 : ∀ i, m1 g 24 i = m g 24 i + if i = tar then n * max P 0 else if i = 4 + tar then n * max (-P) 0 else 0 := fun i => by
    have r0 := hr tar (by omega) (by omega)
    have r4 := hr (4 + tar) (by omega) (by omega)
    rw [e1]
    by_cases h : P * n ≤ 0
    · rw [if_pos h, w64_id (by omega), zu_row]
      by_cases e : i = 4 + tar
      · rw [e, fu_s, if_neg (by omega), if_pos rfl]
        omega
      · rw [fu_i _ _ e, if_neg e]
        by_cases e2 : i = tar
        · rw [if_pos e2]
          omega
        · rw [if_neg e2]
          omega
    · rw [if_neg h, Int.zero_add, w64_id (by omega), zu_row]
      by_cases e : i = tar
      · rw [e, fu_s, if_pos rfl]
        omega
      · rw [fu_i _ _ e, if_neg e]
        by_cases e2 : i = 4 + tar
        · rw [if_pos e2]
          omega
        · rw [if_neg e2]
          omega
  have o1 : ∀ g' k, (g' ≠ g ∨ k ≠ 24) → m1 g' k = m g' k := fun g' k hk => by
    rw [e1]
    split
    · rcases hk with hk | hk
      · rw [zu_g _ _ _ hk]
      · rw [zu_k _ _ _ hk]
    · rcases hk with hk | hk
      · rw [zu_g _ _ _ hk]
      · rw [zu_k _ _ _ hk]
  have b1 : ∀ i, 0 ≤ i → i < 28 → 0 ≤ m1 g 24 i ∧ m1 g 24 i ≤ 1001000000000000 := fun i i0 i1 => by
    have := hr i i0 i1
    rw [a1 i]
    repeat' split
    all_goals omega
  have ef : f50_1 g tar (P * n) (Q * n) (S * n) m = z_upd (z_upd m1 g 24 ((1 + qd P Q) * 4 + tar) (m1 g 24 ((1 + qd P Q) * 4 + tar) + n * max Q (-Q))) g 24 (24 + tar) (z_upd m1 g 24 ((1 + qd P Q) * 4 + tar) (m1 g 24 ((1 + qd P Q) * 4 + tar) + n * max Q (-Q)) g 24 (24 + tar) + n * S) := by
    unfold f50_1
    simp only [zn_a, zs_a]
    rw [← e1]
    have eq : f51_1 (P * n) (Q * n) m1 = qd P Q := by
      rw [← qd_mul (P := P) (Q := Q) hn.1]
      rfl
    have r2 := b1 ((1 + qd P Q) * 4 + tar) (by omega) (by omega)
    rw [eq, show (2 + qd P Q - 1) * 4 + tar = (1 + qd P Q) * 4 + tar by omega, q2, w64_id (x := n * max Q (-Q)) (by omega), w64_id (x := m1 g 24 ((1 + qd P Q) * 4 + tar) + n * max Q (-Q)) (by omega)]
    have e6 : z_upd m1 g 24 ((1 + qd P Q) * 4 + tar) (m1 g 24 ((1 + qd P Q) * 4 + tar) + n * max Q (-Q)) g 24 (24 + tar) = m1 g 24 (24 + tar) := by rw [zu_row, fu_i _ _ (by omega)]
    have r6 := b1 (24 + tar) (by omega) (by omega)
    rw [e6, Int.mul_comm S n, w64_id (by omega)]
  rw [ef]
  refine ⟨fun q t h0 h1 h2 h3 => ?_, fun g' k hk => ?_⟩
  · rw [zu_row, zu_row]
    unfold dl
    by_cases ht4 : t = tar
    · subst ht4
      rw [if_pos rfl]
      by_cases e6 : q = 6
      · rw [if_neg (by omega), if_neg (by omega), if_pos e6, e6, show (6 : Int) * 4 + t = 24 + t by omega, fu_s, fu_i _ _ (by omega), a1, if_neg (by omega), if_neg (by omega), Int.add_zero]
      · rw [fu_i _ _ (by omega), if_neg e6]
        by_cases e0 : q = 0
        · rw [if_pos e0, e0, fu_i _ _ (by omega), a1, if_pos (by omega)]
        · rw [if_neg e0]
          by_cases e1' : q = 1
          · rw [if_pos e1', e1', fu_i _ _ (by omega), a1, if_neg (by omega), if_pos (by omega)]
          · rw [if_neg e1']
            by_cases e2 : q = 1 + qd P Q
            · rw [if_pos e2, e2, fu_s, a1, if_neg (by omega), if_neg (by omega), Int.add_zero]
            · rw [if_neg e2, fu_i _ _ (by omega), a1, if_neg (by omega), if_neg (by omega), Int.mul_zero]
    · rw [if_neg ht4, fu_i _ _ (by omega), fu_i _ _ (by omega), a1, if_neg (by omega), if_neg (by omega)]
  · rw [← o1 g' k hk]
    rcases hk with hk | hk
    · rw [zu_g _ _ _ hk, zu_g _ _ _ hk]
    · rw [zu_k _ _ _ hk, zu_k _ _ _ hk]
end
section
/-! The class: n seconds flow. -/
theorem block_c {m : zM} {g : Nat} {P S n : Int} (hP : -12000000 ≤ P ∧ P ≤ 12000000) (hS : 0 ≤ S ∧ S ≤ 17000000) (hn : 1 ≤ n ∧ n ≤ 3600) (h3 : 0 ≤ m g 27 3 ∧ m g 27 3 ≤ 1000000000000000) (h4 : 0 ≤ m g 27 4 ∧ m g 27 4 ≤ 1000000000000000) (h5 : 0 ≤ m g 27 5 ∧ m g 27 5 ≤ 1000000000000000) :
    (∀ i, f52_1 g (P * n) (S * n) m g 27 i = m g 27 i + if i = 3 then n * max P 0 else if i = 4 then n * max (-P) 0 else if i = 5 then n * S else 0) ∧ ∀ g' k, (g' ≠ g ∨ k ≠ 27) → f52_1 g (P * n) (S * n) m g' k = m g' k := by
  obtain ⟨p1, p2⟩ := max_mul (P := P) (n := n) (by omega)
  have p3 := (max_mul (P := -P) (n := n) (by omega)).1
  rw [Int.neg_mul] at p3
  have d0 := mul_le3 (a := n) (b := max P 0) (A := 3600) (B := 12000000) (by omega) (by omega) (by omega) (by omega)
  have d1 := mul_le3 (a := n) (b := max (-P) 0) (A := 3600) (B := 12000000) (by omega) (by omega) (by omega) (by omega)
  have d6 := mul_le3 (a := n) (b := S) (A := 3600) (B := 17000000) (by omega) (by omega) (by omega) (by omega)
  unfold f52_1
  simp only [zn_a, zs_a]
  by_cases h : P * n ≤ 0
  · rw [if_pos h]
    have e5 : z_upd m g 27 4 (w64 (m g 27 4 - P * n)) g 27 5 = m g 27 5 := by rw [zu_row, fu_i _ _ (by decide)]
    rw [e5, Int.mul_comm S n, w64_id (by omega), w64_id (by omega)]
    refine ⟨fun i => ?_, fun g' k hk => ?_⟩
    · rw [zu_row, zu_row]
      unfold fu
      repeat' split
      all_goals first | omega | (subst_vars; omega)
    · rcases hk with hk | hk
      · rw [zu_g _ _ _ hk, zu_g _ _ _ hk]
      · rw [zu_k _ _ _ hk, zu_k _ _ _ hk]
  · rw [if_neg h]
    have e5 : z_upd m g 27 3 (w64 (m g 27 3 + P * n)) g 27 5 = m g 27 5 := by rw [zu_row, fu_i _ _ (by decide)]
    rw [e5, Int.mul_comm S n, w64_id (by omega), w64_id (by omega)]
    refine ⟨fun i => ?_, fun g' k hk => ?_⟩
    · rw [zu_row, zu_row]
      unfold fu
      repeat' split
      all_goals first | omega | (subst_vars; omega)
    · rcases hk with hk | hk
      · rw [zu_g _ _ _ hk, zu_g _ _ _ hk]
      · rw [zu_k _ _ _ hk, zu_k _ _ _ hk]
/-- the numbers of the class within which it flows -/
def FB (g : Nat) (m : zM) : Prop := (-12000000 ≤ m g 22 3 ∧ m g 22 3 ≤ 12000000) ∧ (-12000000 ≤ m g 22 7 ∧ m g 22 7 ≤ 12000000) ∧ (0 ≤ m g 19 6 ∧ m g 19 6 ≤ 17000000) ∧ (∀ i, 0 ≤ i → i < 28 → 0 ≤ m g 24 i ∧ m g 24 i ≤ 1000000000000000) ∧ (1 ≤ m g 10 1 ∧ m g 10 1 ≤ 1000000) ∧ (∀ t, 0 ≤ t → t < 4 → 0 ≤ m g 10 (6 + t) ∧ m g 10 (6 + t) ≤ 100) ∧ (-1000000000000000000 ≤ m g 8 10 ∧ m g 8 10 ≤ 1000000000000000000) ∧
  (0 ≤ m g 27 3 ∧ m g 27 3 ≤ 1000000000000000) ∧ (0 ≤ m g 27 4 ∧ m g 27 4 ≤ 1000000000000000) ∧ (0 ≤ m g 27 5 ∧ m g 27 5 ≤ 1000000000000000) ∧ (0 ≤ m g 8 14 ∧ m g 8 14 ≤ 1000000000) ∧ (m g 8 12 = 0 ∨ m g 8 12 = 1)
/-- whether it creeps -/
def crp (op P Q start : Int) : Int := if op = 0 then (if max P (-P) < start ∧ max Q (-Q) < start then 1 else 0) else if 0 < start then 1 else 0
theorem crp_c {m : zM} {g : Nat} (h : FB g m) : f44_1 g m = crp (m g 8 12) (m g 22 3) (m g 22 7) (m g 10 0) := by
  obtain ⟨hP, hQ, -, -, -, -, -, -, -, -, -, ho⟩ := h
  unfold f44_1 crp
  simp only [zn_a]
  rcases ho with e | e
  · rw [if_pos e, if_pos e, if_pos e, w64_id (by omega), w64_id (by omega)]
    repeat' split
    all_goals first | rfl | omega
  · have z : w64 (max (0 : Int) (-0)) = 0 := by rw [show max (0 : Int) (-0) = 0 by decide, w64_id (x := 0) (by omega)]
    simp only [if_neg (show ¬ m g 8 12 = 0 by omega)]
    rw [z]
    repeat' split
    all_goals first | rfl | omega
/-- what a second adds, if anything -/
def DL (op P Q S start q : Int) : Int := if crp op P Q start = 0 ∧ op = 0 then dl P Q S q else 0
theorem flow_c {m : zM} {g : Nat} {n tar : Int} (h : FB g m) (hn : 1 ≤ n ∧ n ≤ 3600) (ht : 0 ≤ tar ∧ tar < 4) {D : Int → Int} (hD : ∀ q, D q = DL (m g 8 12) (m g 22 3) (m g 22 7) (m g 19 6) (m g 10 0) q) :
    (∀ q t, 0 ≤ q → q < 7 → 0 ≤ t → t < 4 → f49_1 g n tar m g 24 (q * 4 + t) = m g 24 (q * 4 + t) + if t = tar then n * D q else 0) ∧
    f49_1 g n tar m g 8 10 = m g 8 10 - ((m g 24 tar + n * D 0) / m g 10 1 - m g 24 tar / m g 10 1) * m g 10 (6 + tar) ∧
    f49_1 g n tar m g 8 14 = m g 8 14 + (if crp (m g 8 12) (m g 22 3) (m g 22 7) (m g 10 0) = 0 then 0 else n) ∧
    f49_1 g n tar m g 27 3 = m g 27 3 + n * D 0 ∧ f49_1 g n tar m g 27 4 = m g 27 4 + n * D 1 ∧ f49_1 g n tar m g 27 5 = m g 27 5 + n * D 6 ∧ (∀ i, i ≠ 3 → i ≠ 4 → i ≠ 5 → f49_1 g n tar m g 27 i = m g 27 i) ∧
    (∀ i, i ≠ 10 → i ≠ 14 → f49_1 g n tar m g 8 i = m g 8 i) ∧ (∀ g' k, (g' ≠ g ∨ (k ≠ 8 ∧ k ≠ 24 ∧ k ≠ 27)) → f49_1 g n tar m g' k = m g' k) := by
  have hc := crp_c h
  obtain ⟨hP, hQ, hS, hr, hu, hp, hcr, h3, h4, h5, h14, ho⟩ := h
  unfold f49_1
  rw [zn_a, hc]
  by_cases hz : crp (m g 8 12) (m g 22 3) (m g 22 7) (m g 10 0) = 0
  case neg =>
    have d0 : ∀ q, D q = 0 := fun q => by rw [hD q]; unfold DL; rw [if_neg (fun e => hz e.1)]
    rw [if_neg hz, if_neg hz]
    simp only [zn_a, zs_a, d0, Int.mul_zero, Int.add_zero]
    rw [w32_id (by omega)]
    refine ⟨fun q t _ _ _ _ => ?_, ?_, ?_, ?_, ?_, ?_, fun i _ _ _ => ?_, fun i _ i1 => ?_, fun g' k hk => ?_⟩
    · rw [zu_k _ _ _ (by decide)]
      split <;> omega
    · rw [zu_row, fu_i _ _ (by decide), Int.sub_self, Int.zero_mul]
      omega
    · rw [zu_row, fu_s]
    · rw [zu_k _ _ _ (by decide)]
    · rw [zu_k _ _ _ (by decide)]
    · rw [zu_k _ _ _ (by decide)]
    · rw [zu_k _ _ _ (by decide)]
    · rw [zu_row, fu_i _ _ i1]
    · rcases hk with hk | hk
      · rw [zu_g _ _ _ hk]
      · rw [zu_k _ _ _ hk.1]
  rw [if_pos hz, if_pos hz]
  by_cases hop : m g 8 12 = 0
  case neg =>
    have d0 : ∀ q, D q = 0 := fun q => by rw [hD q]; unfold DL; rw [if_neg (fun e => hop e.2)]
    rw [if_neg hop]
    simp only [d0, Int.mul_zero, Int.add_zero]
    refine ⟨fun q t _ _ _ _ => ?_, ?_, by first | rfl | trivial, by first | rfl | trivial, by first | rfl | trivial, by first | rfl | trivial, by first | exact fun i _ _ _ => rfl | (intros; trivial), by first | exact fun i _ i1 => rfl | (intros; trivial), by first | exact fun g' k hk => rfl | (intros; trivial)⟩
    · split <;> omega
    · rw [Int.sub_self, Int.zero_mul]
      omega
  rw [if_pos hop]
  have dq : ∀ q, D q = dl (m g 22 3) (m g 22 7) (m g 19 6) q := fun q => by rw [hD q]; unfold DL; rw [if_pos ⟨hz, hop⟩]
  have D0 : D 0 = max (m g 22 3) 0 := by rw [dq 0]; rfl
  have D1 : D 1 = max (-(m g 22 3)) 0 := by rw [dq 1]; rfl
  have D6 : D 6 = m g 19 6 := by rw [dq 6]; rfl
  obtain ⟨c1, c2⟩ := count_c (m := m) (g := g) (tar := tar) hP hQ hS hn ht hr
  have b0 := mul_le3 (a := n) (b := D 0) (A := 3600) (B := 12000000) (by omega) (by omega) (by omega) (by omega)
  have aP : -43200000000 ≤ m g 22 3 * n ∧ m g 22 3 * n ≤ 43200000000 := by
    have x1 := mul_le3 (a := n) (b := max (m g 22 3) 0) (A := 3600) (B := 12000000) (by omega) (by omega) (by omega) (by omega)
    have x2 := mul_le3 (a := n) (b := max (-(m g 22 3)) 0) (A := 3600) (B := 12000000) (by omega) (by omega) (by omega) (by omega)
    have y1 := (max_mul (P := m g 22 3) (n := n) (by omega)).1
    have y2 := (max_mul (P := -(m g 22 3)) (n := n) (by omega)).1
    rw [Int.neg_mul] at y2
    omega
  have aQ : -43200000000 ≤ m g 22 7 * n ∧ m g 22 7 * n ≤ 43200000000 := by
    have x1 := mul_le3 (a := n) (b := max (m g 22 7) 0) (A := 3600) (B := 12000000) (by omega) (by omega) (by omega) (by omega)
    have x2 := mul_le3 (a := n) (b := max (-(m g 22 7)) 0) (A := 3600) (B := 12000000) (by omega) (by omega) (by omega) (by omega)
    have y1 := (max_mul (P := m g 22 7) (n := n) (by omega)).1
    have y2 := (max_mul (P := -(m g 22 7)) (n := n) (by omega)).1
    rw [Int.neg_mul] at y2
    omega
  have aS := mul_le3 (a := m g 19 6) (b := n) (A := 17000000) (B := 3600) (by omega) (by omega) (by omega) (by omega)
  simp only [zn_a, zs_a]
  have hu1 : max 1 (m g 10 1) = m g 10 1 := by omega
  have r0 := hr tar (by omega) (by omega)
  rw [w64_id (x := m g 22 3 * n) (by omega), w64_id (x := m g 19 6 * n) (by omega), w64_id (x := m g 22 7 * n) (by omega)]
  obtain ⟨m1, e1⟩ : ∃ x, x = f50_1 g tar (m g 22 3 * n) (m g 22 7 * n) (m g 19 6 * n) m := ⟨_, rfl⟩
  rw [← e1] at c1 c2
  rw [← e1, c2 g 10 (.inr (by decide)), c2 g 8 (.inr (by decide)), hu1, Int.zero_add]
  have t1 := c1 0 tar (by omega) (by omega) ht.1 ht.2
  rw [if_pos rfl, ← dq 0, show (0 : Int) * 4 + tar = tar by omega] at t1
  have q0 := ediv_b (a := m g 24 tar) (b := m g 10 1) r0.1 r0.2 hu.1
  have q1 := ediv_b (a := m g 24 tar + n * D 0) (b := m g 10 1) (A := 1001000000000000) (by omega) (by omega) hu.1
  have qm : m g 24 tar / m g 10 1 ≤ (m g 24 tar + n * D 0) / m g 10 1 := Int.ediv_le_ediv (by omega) (by omega)
  have hpt := hp tar ht.1 ht.2
  rw [t1, tdiv_nn (by omega), tdiv_nn r0.1, w64_id (x := m g 24 tar / m g 10 1) (by omega), w64_id (x := (m g 24 tar + n * D 0) / m g 10 1) (by omega), w64_id (x := (m g 24 tar + n * D 0) / m g 10 1 - m g 24 tar / m g 10 1) (by omega)]
  have cm := mul_le3 (a := (m g 24 tar + n * D 0) / m g 10 1 - m g 24 tar / m g 10 1) (b := m g 10 (6 + tar)) (A := 1001000000000000) (B := 100) (by omega) (by omega) hpt.1 hpt.2
  rw [w64_id (x := ((m g 24 tar + n * D 0) / m g 10 1 - m g 24 tar / m g 10 1) * m g 10 (6 + tar)) (by omega), w64_id (x := m g 8 10 - ((m g 24 tar + n * D 0) / m g 10 1 - m g 24 tar / m g 10 1) * m g 10 (6 + tar)) (by omega)]
  obtain ⟨CR', hCR⟩ : ∃ x, x = m g 8 10 - ((m g 24 tar + n * D 0) / m g 10 1 - m g 24 tar / m g 10 1) * m g 10 (6 + tar) := ⟨_, rfl⟩
  rw [← hCR]
  obtain ⟨m2, e2⟩ : ∃ x, x = z_upd m1 g 8 10 CR' := ⟨_, rfl⟩
  rw [← e2]
  have m27 : ∀ i, m2 g 27 i = m g 27 i := fun i => by rw [e2, zu_k _ _ _ (by decide), c2 g 27 (.inr (by decide))]
  obtain ⟨k1, k2⟩ := block_c (m := m2) (g := g) (P := m g 22 3) (S := m g 19 6) (n := n) hP hS hn (by rw [m27]; exact h3) (by rw [m27]; exact h4) (by rw [m27]; exact h5)
  have m8 : ∀ i, m2 g 8 i = if i = 10 then CR' else m g 8 i := fun i => by rw [e2, zu_row, c2 g 8 (.inr (by decide))]; rfl
  refine ⟨fun q t h0 h1 h2 h3 => ?_, ?_, ?_, ?_, ?_, ?_, fun i i3 i4 i5 => ?_, fun i i0 i1 => ?_, fun g' k hk => ?_⟩
  · rw [k2 g 24 (.inr (by decide)), e2, zu_k _ _ _ (by decide), dq q]
    exact c1 q t h0 h1 h2 h3
  · rw [k2 g 8 (.inr (by decide)), m8, if_pos rfl]
  · rw [k2 g 8 (.inr (by decide)), m8, if_neg (by decide), Int.add_zero]
  · rw [k1, if_pos rfl, m27, D0]
  · rw [k1, if_neg (by decide), if_pos rfl, m27, D1]
  · rw [k1, if_neg (by decide), if_neg (by decide), if_pos rfl, m27, D6]
  · rw [k1, if_neg i3, if_neg i4, if_neg i5, m27, Int.add_zero]
  · rw [k2 g 8 (.inr (by decide)), m8, if_neg i0]
  · rw [k2 g' k (by omega), e2]
    rcases hk with hk | hk
    · rw [zu_g _ _ _ hk]
      exact c2 g' k (.inl hk)
    · rw [zu_k _ _ _ hk.1]
      exact c2 g' k (.inr hk.2.1)
end
