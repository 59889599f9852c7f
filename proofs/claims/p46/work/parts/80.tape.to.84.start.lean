section
/-! The tape, the fault and the calendar's text on both sides. -/
theorem tE_byte (z : Int) : tE (zand z 255) (w8 z) := by
  have h1 : zand z 255 = z % 256 := by
    have e0 : zand z 255 = (Int32.ofInt z &&& Int32.ofInt 255).toBitVec.toInt := rfl
    have e1 : (Int32.ofInt z &&& Int32.ofInt 255).toBitVec.toNat = (Int32.ofInt z).toBitVec.toNat &&& (Int32.ofInt 255).toBitVec.toNat := BitVec.toNat_and _ _
    have e2 : (Int32.ofInt 255).toBitVec.toNat = 2 ^ 8 - 1 := by decide
    have e3 : (Int32.ofInt z).toBitVec.toNat = (z % 4294967296).toNat := BitVec.toNat_ofInt (n := 32) z
    rw [e2, Nat.and_two_pow_sub_one_eq_mod, e3] at e1
    rw [e0, BitVec.toInt_eq_toNat_cond, e1]
    have e4 : (z % 4294967296).toNat % 2 ^ 8 < 256 := Nat.mod_lt _ (by decide)
    rw [if_pos (by omega)]
    omega
  have h2 : w8 z = z.bmod 256 := by
    have e0 : w8 z = (Int32.ofInt z).toInt.bmod (2 ^ 8) := Int32.toInt_toInt8 _
    rw [e0, Int32.toInt_ofInt]
    exact Int.bmod_bmod_of_dvd (n := 256) (m := 4294967296) (by decide)
  rw [h1, h2, Int.bmod_def]
  unfold tE
  split <;> omega
/-- the tape -/
def TA (c r : zM) : Prop := c 4 41 3 = r 4 44 5 ∧ ∀ i : Int, 0 ≤ i → i < c 4 41 3 → tE (c 4 42 i) (r 4 48 i)
theorem TA.put {c r : zM} (h : TA c r) (h0 : 0 ≤ c 4 41 3) {x y : Int} (hxy : tE x y) : TA (z_upd (z_upd c 4 42 (c 4 41 3) x) 4 41 3 (z_upd c 4 42 (c 4 41 3) x 4 41 3 + 1)) (z_upd (z_upd r 4 48 (r 4 44 5) y) 4 44 5 (z_upd r 4 48 (r 4 44 5) y 4 44 5 + 1)) := by
  obtain ⟨h1, h2⟩ := h
  have e1 : z_upd c 4 42 (c 4 41 3) x 4 41 3 = c 4 41 3 := by rw [zu_k _ _ _ (by decide)]
  have e2 : z_upd r 4 48 (r 4 44 5) y 4 44 5 = r 4 44 5 := by rw [zu_k _ _ _ (by decide)]
  rw [e1, e2]
  refine ⟨?_, fun i i0 i1 => ?_⟩
  · rw [zu_row, zu_row, fu_s, fu_s, h1]
  · rw [zu_row, fu_s] at i1
    rw [zu_k _ _ _ (show (42 : Nat) ≠ 41 by decide), zu_k _ _ _ (show (48 : Nat) ≠ 44 by decide), zu_row, zu_row]
    by_cases e : i = c 4 41 3
    · rw [e, fu_s, h1, fu_s]
      exact hxy
    · rw [fu_i _ _ e, fu_i _ _ (by omega)]
      exact h2 i i0 (by omega)
theorem put_T {c r : zM} (h : TA c r) (h0 : 0 ≤ c 4 41 3) (h1 : c 4 41 3 ≤ 296) (a : Int) : TA (f87_1 a c) (f257_1 a r) ∧ f87_1 a c 4 41 3 = c 4 41 3 + 4 := by
  unfold f87_1 f257_1
  simp only [zn_a, zs_a]
  rw [if_neg (by omega)]
  have l1 := h.put h0 (tE_byte (zushr a 24))
  have n1 : z_upd (z_upd c 4 42 (c 4 41 3) (zand (zushr a 24) 255)) 4 41 3 (z_upd c 4 42 (c 4 41 3) (zand (zushr a 24) 255) 4 41 3 + 1) 4 41 3 = c 4 41 3 + 1 := by
    rw [zu_row, fu_s, zu_k _ _ _ (by decide)]
  generalize z_upd (z_upd c 4 42 (c 4 41 3) (zand (zushr a 24) 255)) 4 41 3 (z_upd c 4 42 (c 4 41 3) (zand (zushr a 24) 255) 4 41 3 + 1) = c1 at l1 n1 ⊢
  generalize z_upd (z_upd r 4 48 (r 4 44 5) (w8 (zushr a 24))) 4 44 5 (z_upd r 4 48 (r 4 44 5) (w8 (zushr a 24)) 4 44 5 + 1) = r1 at l1 ⊢
  rw [if_neg (by omega)]
  have l2 := l1.put (by omega) (tE_byte (zushr a (24 + -8)))
  have n2 : z_upd (z_upd c1 4 42 (c1 4 41 3) (zand (zushr a (24 + -8)) 255)) 4 41 3 (z_upd c1 4 42 (c1 4 41 3) (zand (zushr a (24 + -8)) 255) 4 41 3 + 1) 4 41 3 = c 4 41 3 + 2 := by
    rw [zu_row, fu_s, zu_k _ _ _ (by decide)]
    omega
  generalize z_upd (z_upd c1 4 42 (c1 4 41 3) (zand (zushr a (24 + -8)) 255)) 4 41 3 (z_upd c1 4 42 (c1 4 41 3) (zand (zushr a (24 + -8)) 255) 4 41 3 + 1) = c2 at l2 n2 ⊢
  generalize z_upd (z_upd r1 4 48 (r1 4 44 5) (w8 (zushr a (24 + -8)))) 4 44 5 (z_upd r1 4 48 (r1 4 44 5) (w8 (zushr a (24 + -8))) 4 44 5 + 1) = r2 at l2 ⊢
  rw [if_neg (by omega)]
  have l3 := l2.put (by omega) (tE_byte (zushr a (24 + -8 + -8)))
  have n3 : z_upd (z_upd c2 4 42 (c2 4 41 3) (zand (zushr a (24 + -8 + -8)) 255)) 4 41 3 (z_upd c2 4 42 (c2 4 41 3) (zand (zushr a (24 + -8 + -8)) 255) 4 41 3 + 1) 4 41 3 = c 4 41 3 + 3 := by
    rw [zu_row, fu_s, zu_k _ _ _ (by decide)]
    omega
  generalize z_upd (z_upd c2 4 42 (c2 4 41 3) (zand (zushr a (24 + -8 + -8)) 255)) 4 41 3 (z_upd c2 4 42 (c2 4 41 3) (zand (zushr a (24 + -8 + -8)) 255) 4 41 3 + 1) = c3 at l3 n3 ⊢
  generalize z_upd (z_upd r2 4 48 (r2 4 44 5) (w8 (zushr a (24 + -8 + -8)))) 4 44 5 (z_upd r2 4 48 (r2 4 44 5) (w8 (zushr a (24 + -8 + -8))) 4 44 5 + 1) = r3 at l3 ⊢
  rw [if_neg (by omega)]
  have l4 := l3.put (by omega) (tE_byte (zushr a (24 + -8 + -8 + -8)))
  refine ⟨l4, ?_⟩
  rw [zu_row, fu_s, zu_k _ _ _ (by decide)]
  omega
theorem feed_T {c r : zM} {B a b d e f : Int} (hc : OM B c) (h : TA c r) : (f85_1 a b d e f c).1 = (f256_1 a b d e f r).1 ∧ TA (f85_1 a b d e f c).2 (f256_1 a b d e f r).2 := by
  have hl : 0 ≤ c 4 41 3 ∧ c 4 41 3 ≤ 300 := r41_3 hc.2.o 4
  have hl1 := h.1
  unfold f85_1 f256_1
  by_cases h0 : 300 < c 4 41 3 + 20
  · rw [if_pos h0, if_neg (by omega)]
    exact ⟨rfl, h⟩
  rw [if_neg h0, if_pos (by omega)]
  simp only [zs_a]
  obtain ⟨t1, n1⟩ := put_T h (by omega) (by omega) a
  generalize f87_1 a c = c1 at t1 n1 ⊢
  generalize f257_1 a r = r1 at t1 ⊢
  obtain ⟨t2, n2⟩ := put_T t1 (by omega) (by omega) b
  generalize f87_1 b c1 = c2 at t2 n2 ⊢
  generalize f257_1 b r1 = r2 at t2 ⊢
  obtain ⟨t3, n3⟩ := put_T t2 (by omega) (by omega) d
  generalize f87_1 d c2 = c3 at t3 n3 ⊢
  generalize f257_1 d r2 = r3 at t3 ⊢
  obtain ⟨t4, n4⟩ := put_T t3 (by omega) (by omega) e
  generalize f87_1 e c3 = c4 at t4 n4 ⊢
  generalize f257_1 e r3 = r4 at t4 ⊢
  obtain ⟨t5, n5⟩ := put_T t4 (by omega) (by omega) f
  exact ⟨t5.1, t5⟩
theorem end_T {c r : zM} {a : Int} (h : TA c r) : (f88_1 a c).1 = (f258_1 a r).1 ∧ TA (f88_1 a c).2 (f258_1 a r).2 := by
  unfold f88_1 f89_1 f258_1
  simp only [zb_a, zs_a, h.1]
  by_cases h0 : a < 0
  · rw [if_pos h0, if_pos h0]
    exact ⟨rfl, h⟩
  rw [if_neg h0, if_neg h0]
  by_cases h1 : a ≤ r 4 44 5
  · rw [if_pos h1, if_pos h1]
    refine ⟨by first | rfl | trivial, ?_, fun i i0 i1 => ?_⟩
    · try dsimp only
      rw [zu_row, zu_row, fu_s, fu_s]
    · try dsimp only at i1 ⊢
      rw [zu_row, fu_s] at i1
      rw [zu_k _ _ _ (show (42 : Nat) ≠ 41 by decide), zu_k _ _ _ (show (48 : Nat) ≠ 44 by decide)]
      exact h.2 i i0 (by rw [h.1]; omega)
  · rw [if_neg h1, if_neg h1]
    exact ⟨rfl, h⟩
/-- the fault -/
def FT (c r : zM) : Prop := c 4 41 4 = r 4 44 6 ∧ c 4 41 5 = r 4 44 7
theorem fault_T {c r : zM} {a : Int} (h : FT c r) : f113_1 a c = f259_1 a r := by
  unfold f113_1 f259_1
  simp only [zn_a]
  rw [h.1, h.2]
  try (split <;> rfl)
/-- calendar: what it answers, what it leaves -/
theorem calendar_T {c r : zM} {B : Int} (hc : OM B c) (hr : OM B r) (hB : B + 1 ≤ 1000000000) (hs : SE B (c 0) (r 4 45)) (h : CR (c 0) (r 4 45)) (ht : TA c r) :
    (f90_1 c).1 = (f260_1 r).1 ∧ SE (B + 1) ((f90_1 c).2 0) ((f260_1 r).2 4 45) ∧ CR ((f90_1 c).2 0) ((f260_1 r).2 4 45) ∧ TA (f90_1 c).2 (f260_1 r).2 ∧ FT (f90_1 c).2 (f260_1 r).2 ∧
      ((∀ t, 0 ≤ t → t < 4 → c 0 10 (6 + t) = r 4 45 (28 + t)) → ∀ t, 0 ≤ t → t < 4 → (f90_1 c).2 0 10 (6 + t) = (f260_1 r).2 4 45 (28 + t)) ∧
      (∀ k i, (k < 10 ∨ 18 < k) → k ≠ 39 → (f90_1 c).2 0 k i = c 0 k i) ∧ (∀ i, (i < 6 ∨ 9 < i) → (f90_1 c).2 0 10 i = c 0 10 i) ∧
      (∀ i : Int, 0 ≤ i → i < 1618 → (i < 28 ∨ 31 < i) → (i < 287 ∨ 787 < i) → (f260_1 r).2 4 45 i = r 4 45 i) := by
  have o1 : OM B (z_upd (z_upd r 4 44 6 0) 4 44 7 (-1)) := u44_7 (u44_6 hr (by omega)) (by omega)
  have e45 : z_upd (z_upd r 4 44 6 0) 4 44 7 (-1) 4 45 = r 4 45 := by rw [zu_k _ _ _ (by decide), zu_k _ _ _ (by decide)]
  obtain ⟨v, c1, r1, e1, e2, hv, oc, ro, se, cr, fc, fr⟩ := shut_R hc o1 hB (by rw [e45]; exact hs) (by rw [e45]; exact h)
  have f45 : ∀ i, i ≠ 1618 → r1 4 45 i = r 4 45 i := fun i hi => by rw [fr 4 45 i (by omega), e45]
  have ta : TA c1 r1 := by
    unfold TA
    rw [fc 4 41 3 (by omega), fr 4 44 5 (by omega), show c1 4 42 = c 4 42 from funext fun i => fc 4 42 i (by omega), show r1 4 48 = r 4 48 from funext fun i => by rw [fr 4 48 i (by omega), zu_k _ _ _ (by decide), zu_k _ _ _ (by decide)], zu_row, fu_i _ _ (by decide), zu_row, fu_i _ _ (by decide)]
    exact ht
  unfold f90_1 f260_1
  simp only [zs_a]
  rw [e1, e2]
  simp only [zb_a]
  by_cases h0 : v = 0
  · rw [if_pos h0, if_pos h0]
    obtain ⟨x, c2, r2, g1, g2, g3, g4, g5, g6, g7⟩ := load_open oc.1 oc.2 ro.1 ro.2 (by omega) ta.1 ta.2 (by rw [fr 4 44 6 (by omega), zu_row, fu_i _ _ (by decide), zu_row, fu_s]) (by rw [fr 4 44 7 (by omega), zu_row, fu_s])
    unfold ldC at g1
    unfold ldR at g2
    simp only [zb_a, zs_a] at g1 g2
    rw [g1, g2]
    try dsimp only
    have t2 : TA c2 r2 := ⟨by rw [g3, g4], fun i i0 i1 => by omega⟩
    rcases g7 with ⟨g8, g9, g10⟩ | ⟨g8, g9, g10, g11, g12, g13⟩
    · refine ⟨by first | rfl | trivial, se.of (fun i _ _ => g9 39 i) (fun i i0 i1 => g10 i (by omega) (by omega)), ?_, t2, ⟨g5, g6⟩, fun hp t t0 t1 => ?_, fun k i _ hk => by rw [g9 k i, fc 0 k i (by omega)], fun i _ => by rw [g9 10 i, fc 0 10 i (by omega)], fun i i0 i1 _ _ => by rw [g10 i i0 (by omega), f45 i (by omega)]⟩
      · rw [show c2 0 = c1 0 from funext fun k => funext fun i => g9 k i]
        exact cr.w (CB.of oc.2 0) (fun i i0 i1 => g10 i (by omega) (by omega))
      · rw [g9 10, fc 0 10 _ (by omega), g10 _ (by omega) (by omega), f45 _ (by omega)]
        exact hp t t0 t1
    · refine ⟨by first | rfl | trivial, se.of (fun i _ _ => g12 39 i (by omega)) (fun i i0 i1 => g11 i (by omega) (by omega)), g9, t2, ⟨g5, g6⟩, fun hp => g10 (fun t t0 t1 => ?_), fun k i hk h39 => by rw [g12 k i hk, fc 0 k i (by omega)], fun i hi => by rw [g13 i hi, fc 0 10 i (by omega)], fun i i0 i1 ia ib => by rw [g11 i ia ib, f45 i (by omega)]⟩
      rw [fc 0 10 _ (by omega), f45 _ (by omega)]
      exact hp t t0 t1
  · rw [if_neg h0, if_neg h0]
    unfold f91_1
    simp only [zs_a]
    have ek : ∀ k, z_upd (z_upd (z_upd c1 4 41 3 0) 4 41 4 0) 4 41 5 (-1) 0 k = c1 0 k := fun k => by rw [zu_g _ _ _ (by decide), zu_g _ _ _ (by decide), zu_g _ _ _ (by decide)]
    have ew : z_upd r1 4 44 5 0 4 45 = r1 4 45 := zu_k _ _ _ (by decide)
    refine ⟨by first | rfl | trivial, ?_, ?_, ⟨?_, fun i i0 i1 => ?_⟩, ⟨?_, ?_⟩, fun hp t t0 t1 => ?_, fun k i _ hk => ?_, fun i _ => ?_, fun i i0 i1 _ _ => ?_⟩
    · try dsimp only
      rw [ew]
      exact se.of (fun i _ _ => by rw [ek]) (fun i _ _ => rfl)
    · try dsimp only
      rw [ew, show z_upd (z_upd (z_upd c1 4 41 3 0) 4 41 4 0) 4 41 5 (-1) 0 = c1 0 from funext ek]
      exact cr
    · try dsimp only
      rw [zu_row, fu_i _ _ (by decide), zu_row, fu_i _ _ (by decide), zu_row, fu_s, zu_row, fu_s]
    · try dsimp only at i1
      rw [zu_row, fu_i _ _ (by decide), zu_row, fu_i _ _ (by decide), zu_row, fu_s] at i1
      omega
    · try dsimp only
      rw [zu_row, fu_i _ _ (by decide), zu_row, fu_s, zu_row, fu_i _ _ (by decide), fr 4 44 6 (by omega), zu_row, fu_i _ _ (by decide), zu_row, fu_s]
    · try dsimp only
      rw [zu_row, fu_s, zu_row, fu_i _ _ (by decide), fr 4 44 7 (by omega), zu_row, fu_s]
    · try dsimp only
      rw [ek, ew, fc 0 10 _ (by omega), f45 _ (by omega)]
      exact hp t t0 t1
    · try dsimp only
      rw [ek, fc 0 k i (by omega)]
    · try dsimp only
      rw [ek, fc 0 10 i (by omega)]
    · try dsimp only
      rw [ew, f45 i (by omega)]
end
section
/-! Two sides that agree in a part of the state. -/
theorem jf_in {l : List (Int × Int × Int × Int)} {i : Int} {q : Int × Int} : jf l i = some q → ∃ x, x ∈ l ∧ x.2.2 = q := by
  induction l with
  | nil => intro h; cases h
  | cons y r ih =>
    intro h
    unfold jf at h
    split at h
    · exact ⟨y, List.mem_cons_self, Option.some.inj h⟩
    · obtain ⟨x, h1, h2⟩ := ih h
      exact ⟨x, List.mem_cons_of_mem _ h1, h2⟩
/-- a whole row is as it was -/
theorem J.row {L G : List Nat} {B : Int} {m0 m : zM} (h : J (zQ L G) m0 B m) (k : Nat) (hk : ((jp k).all fun x => !L.contains x.2.2.1.toNat) = true) (h0 : L.contains 0 = false) (g : Nat) : m g k = m0 g k := by
  funext i
  refine jx h (ja k i) rfl ?_
  unfold ja
  split
  · rename_i q e
    obtain ⟨x, h1, h2⟩ := jf_in e
    have h3 := List.all_eq_true.mp hk x h1
    rw [h2] at h3
    exact (Bool.not_eq_true' _).mp h3
  · exact h0
def fcl : List (Nat × Nat × Int × Int) := [(11, 8, 9, 9), (12, 8, 10, 12), (13, 8, 13, 15), (3, 10, 0, 12), (1, 11, 7, 7), (1, 12, 0, 7), (1, 13, 0, 47), (1, 14, 0, 47), (1, 15, 0, 3), (1, 16, 0, 27), (1, 17, 0, 15), (1, 18, 0, 15), (2, 19, 3, 6), (2, 20, 0, 47), (2, 21, 0, 47), (2, 22, 0, 15), (5, 23, 3, 3), (10, 24, 0, 27), (5, 25, 0, 27), (5, 26, 0, 197), (7, 27, 2, 9), (7, 28, 0, 383), (7, 29, 0, 3), (8, 30, 2, 3), (8, 31, 0, 3), (8, 32, 0, 3), (9, 33, 3, 3), (9, 34, 0, 4), (9, 35, 0, 4), (9, 36, 0, 4), (6, 37, 1, 1), (6, 38, 0, 119), (4, 39, 0, 4)]
theorem fcl_ja : ∀ x, x ∈ fcl → ∀ i, x.2.2.1 ≤ i → i ≤ x.2.2.2 → ja x.2.1 i = x.1 := by
  intro x hx i h0 h1
  simp only [fcl, List.mem_cons, List.not_mem_nil, or_false] at hx
  rcases hx with rfl | rfl | rfl | rfl | rfl | rfl | rfl | rfl | rfl | rfl | rfl | rfl | rfl | rfl | rfl | rfl | rfl | rfl | rfl | rfl | rfl | rfl | rfl | rfl | rfl | rfl | rfl | rfl | rfl | rfl | rfl | rfl | rfl
  · exact ja8_0 ⟨by (try dsimp only at h0 h1); omega, by (try dsimp only at h0 h1); omega⟩
  · exact ja8_10 ⟨by (try dsimp only at h0 h1); omega, by (try dsimp only at h0 h1); omega⟩
  · exact ja8_13 ⟨by (try dsimp only at h0 h1); omega, by (try dsimp only at h0 h1); omega⟩
  · exact ja10_0 ⟨by (try dsimp only at h0 h1); omega, by (try dsimp only at h0 h1); omega⟩
  · exact ja11_0 ⟨by (try dsimp only at h0 h1); omega, by (try dsimp only at h0 h1); omega⟩
  · exact ja12_0 ⟨by (try dsimp only at h0 h1); omega, by (try dsimp only at h0 h1); omega⟩
  · exact ja13_0 ⟨by (try dsimp only at h0 h1); omega, by (try dsimp only at h0 h1); omega⟩
  · exact ja14_0 ⟨by (try dsimp only at h0 h1); omega, by (try dsimp only at h0 h1); omega⟩
  · exact ja15_0 ⟨by (try dsimp only at h0 h1); omega, by (try dsimp only at h0 h1); omega⟩
  · exact ja16_0 ⟨by (try dsimp only at h0 h1); omega, by (try dsimp only at h0 h1); omega⟩
  · exact ja17_0 ⟨by (try dsimp only at h0 h1); omega, by (try dsimp only at h0 h1); omega⟩
  · exact ja18_0 ⟨by (try dsimp only at h0 h1); omega, by (try dsimp only at h0 h1); omega⟩
  · exact ja19_0 ⟨by (try dsimp only at h0 h1); omega, by (try dsimp only at h0 h1); omega⟩
  · exact ja20_0 ⟨by (try dsimp only at h0 h1); omega, by (try dsimp only at h0 h1); omega⟩
  · exact ja21_0 ⟨by (try dsimp only at h0 h1); omega, by (try dsimp only at h0 h1); omega⟩
  · exact ja22_0 ⟨by (try dsimp only at h0 h1); omega, by (try dsimp only at h0 h1); omega⟩
  · exact ja23_0 ⟨by (try dsimp only at h0 h1); omega, by (try dsimp only at h0 h1); omega⟩
  · exact ja24_0 ⟨by (try dsimp only at h0 h1); omega, by (try dsimp only at h0 h1); omega⟩
  · exact ja25_0 ⟨by (try dsimp only at h0 h1); omega, by (try dsimp only at h0 h1); omega⟩
  · exact ja26_0 ⟨by (try dsimp only at h0 h1); omega, by (try dsimp only at h0 h1); omega⟩
  · exact ja27_0 ⟨by (try dsimp only at h0 h1); omega, by (try dsimp only at h0 h1); omega⟩
  · exact ja28_0 ⟨by (try dsimp only at h0 h1); omega, by (try dsimp only at h0 h1); omega⟩
  · exact ja29_0 ⟨by (try dsimp only at h0 h1); omega, by (try dsimp only at h0 h1); omega⟩
  · exact ja30_0 ⟨by (try dsimp only at h0 h1); omega, by (try dsimp only at h0 h1); omega⟩
  · exact ja31_0 ⟨by (try dsimp only at h0 h1); omega, by (try dsimp only at h0 h1); omega⟩
  · exact ja32_0 ⟨by (try dsimp only at h0 h1); omega, by (try dsimp only at h0 h1); omega⟩
  · exact ja33_0 ⟨by (try dsimp only at h0 h1); omega, by (try dsimp only at h0 h1); omega⟩
  · exact ja34_0 ⟨by (try dsimp only at h0 h1); omega, by (try dsimp only at h0 h1); omega⟩
  · exact ja35_0 ⟨by (try dsimp only at h0 h1); omega, by (try dsimp only at h0 h1); omega⟩
  · exact ja36_0 ⟨by (try dsimp only at h0 h1); omega, by (try dsimp only at h0 h1); omega⟩
  · exact ja37_0 ⟨by (try dsimp only at h0 h1); omega, by (try dsimp only at h0 h1); omega⟩
  · exact ja38_0 ⟨by (try dsimp only at h0 h1); omega, by (try dsimp only at h0 h1); omega⟩
  · exact ja39_0 ⟨by (try dsimp only at h0 h1); omega, by (try dsimp only at h0 h1); omega⟩
/-- c' is as c in part n -/
def FE (n : Nat) (c c' : Nat → Int → Int) : Prop := ∀ x, x ∈ fcl → x.1 = n → ∀ i, x.2.2.1 ≤ i → i ≤ x.2.2.2 → c' x.2.1 i = c x.2.1 i
def FW (n : Nat) (w w' : Int → Int) : Prop := ∀ i, 0 ≤ i → i ≤ 1618 → ja 45 i = n + 20 → w' i = w i
theorem FE.j {L G : List Nat} {B : Int} {m0 m : zM} (h : J (zQ L G) m0 B m) (g n : Nat) (hL : L.contains n = false) : FE n (m0 g) (m g) := fun x hx e i h0 h1 => jx h n (by rw [← e]; exact fcl_ja x hx i h0 h1) hL
theorem FE.g {L G : List Nat} {B : Int} {m0 m : zM} (h : J (zQ L G) m0 B m) (g n : Nat) (hG : G.contains g = false) : FE n (m0 g) (m g) := fun x _ _ i _ _ => by rw [jy h hG]
theorem FE.rf (n : Nat) (c : Nat → Int → Int) : FE n c c := fun _ _ _ _ _ _ => rfl
theorem FE.trans {n : Nat} {a b c : Nat → Int → Int} (h : FE n a b) (h' : FE n b c) : FE n a c := fun x hx e i h0 h1 => (h' x hx e i h0 h1).trans (h x hx e i h0 h1)
theorem FW.j {L G : List Nat} {B : Int} {m0 m : zM} (h : J (zQ L G) m0 B m) (g n : Nat) (hL : L.contains (n + 20) = false) : FW n (m0 g 45) (m g 45) := fun i _ _ e => jx h (n + 20) e hL
theorem FW.all {w w' : Int → Int} (h : ∀ i, 0 ≤ i → i ≤ 1618 → w' i = w i) (n : Nat) : FW n w w' := fun i h0 h1 _ => h i h0 h1
theorem FW.rf (n : Nat) (w : Int → Int) : FW n w w := fun _ _ _ _ => rfl
theorem FW.trans {n : Nat} {a b c : Int → Int} (h : FW n a b) (h' : FW n b c) : FW n a c := fun i h0 h1 e => (h' i h0 h1 e).trans (h i h0 h1 e)
section
variable {c c' : Nat → Int → Int}
theorem FE.p8_9 (h : FE 11 c c') : c' 8 9 = c 8 9 := h (11, 8, 9, 9) (List.mem_of_getElem? (i := 0) rfl) rfl 9 (Int.le_refl _) (Int.le_refl _)
theorem FE.p8_10 (h : FE 12 c c') (i : Int) (h0 : 10 ≤ i) (h1 : i ≤ 12) : c' 8 i = c 8 i := h (12, 8, 10, 12) (List.mem_of_getElem? (i := 1) rfl) rfl i h0 h1
theorem FE.p8_13 (h : FE 13 c c') (i : Int) (h0 : 13 ≤ i) (h1 : i ≤ 15) : c' 8 i = c 8 i := h (13, 8, 13, 15) (List.mem_of_getElem? (i := 2) rfl) rfl i h0 h1
theorem FE.p10_0 (h : FE 3 c c') (i : Int) (h0 : 0 ≤ i) (h1 : i ≤ 12) : c' 10 i = c 10 i := h (3, 10, 0, 12) (List.mem_of_getElem? (i := 3) rfl) rfl i h0 h1
theorem FE.p11_7 (h : FE 1 c c') : c' 11 7 = c 11 7 := h (1, 11, 7, 7) (List.mem_of_getElem? (i := 4) rfl) rfl 7 (Int.le_refl _) (Int.le_refl _)
theorem FE.p12_0 (h : FE 1 c c') (i : Int) (h0 : 0 ≤ i) (h1 : i ≤ 7) : c' 12 i = c 12 i := h (1, 12, 0, 7) (List.mem_of_getElem? (i := 5) rfl) rfl i h0 h1
theorem FE.p13_0 (h : FE 1 c c') (i : Int) (h0 : 0 ≤ i) (h1 : i ≤ 47) : c' 13 i = c 13 i := h (1, 13, 0, 47) (List.mem_of_getElem? (i := 6) rfl) rfl i h0 h1
theorem FE.p14_0 (h : FE 1 c c') (i : Int) (h0 : 0 ≤ i) (h1 : i ≤ 47) : c' 14 i = c 14 i := h (1, 14, 0, 47) (List.mem_of_getElem? (i := 7) rfl) rfl i h0 h1
theorem FE.p15_0 (h : FE 1 c c') (i : Int) (h0 : 0 ≤ i) (h1 : i ≤ 3) : c' 15 i = c 15 i := h (1, 15, 0, 3) (List.mem_of_getElem? (i := 8) rfl) rfl i h0 h1
theorem FE.p16_0 (h : FE 1 c c') (i : Int) (h0 : 0 ≤ i) (h1 : i ≤ 27) : c' 16 i = c 16 i := h (1, 16, 0, 27) (List.mem_of_getElem? (i := 9) rfl) rfl i h0 h1
theorem FE.p17_0 (h : FE 1 c c') (i : Int) (h0 : 0 ≤ i) (h1 : i ≤ 15) : c' 17 i = c 17 i := h (1, 17, 0, 15) (List.mem_of_getElem? (i := 10) rfl) rfl i h0 h1
theorem FE.p18_0 (h : FE 1 c c') (i : Int) (h0 : 0 ≤ i) (h1 : i ≤ 15) : c' 18 i = c 18 i := h (1, 18, 0, 15) (List.mem_of_getElem? (i := 11) rfl) rfl i h0 h1
theorem FE.p19_3 (h : FE 2 c c') (i : Int) (h0 : 3 ≤ i) (h1 : i ≤ 6) : c' 19 i = c 19 i := h (2, 19, 3, 6) (List.mem_of_getElem? (i := 12) rfl) rfl i h0 h1
theorem FE.p20_0 (h : FE 2 c c') (i : Int) (h0 : 0 ≤ i) (h1 : i ≤ 47) : c' 20 i = c 20 i := h (2, 20, 0, 47) (List.mem_of_getElem? (i := 13) rfl) rfl i h0 h1
theorem FE.p21_0 (h : FE 2 c c') (i : Int) (h0 : 0 ≤ i) (h1 : i ≤ 47) : c' 21 i = c 21 i := h (2, 21, 0, 47) (List.mem_of_getElem? (i := 14) rfl) rfl i h0 h1
theorem FE.p22_0 (h : FE 2 c c') (i : Int) (h0 : 0 ≤ i) (h1 : i ≤ 15) : c' 22 i = c 22 i := h (2, 22, 0, 15) (List.mem_of_getElem? (i := 15) rfl) rfl i h0 h1
theorem FE.p23_3 (h : FE 5 c c') : c' 23 3 = c 23 3 := h (5, 23, 3, 3) (List.mem_of_getElem? (i := 16) rfl) rfl 3 (Int.le_refl _) (Int.le_refl _)
theorem FE.p24_0 (h : FE 10 c c') (i : Int) (h0 : 0 ≤ i) (h1 : i ≤ 27) : c' 24 i = c 24 i := h (10, 24, 0, 27) (List.mem_of_getElem? (i := 17) rfl) rfl i h0 h1
theorem FE.p25_0 (h : FE 5 c c') (i : Int) (h0 : 0 ≤ i) (h1 : i ≤ 27) : c' 25 i = c 25 i := h (5, 25, 0, 27) (List.mem_of_getElem? (i := 18) rfl) rfl i h0 h1
theorem FE.p26_0 (h : FE 5 c c') (i : Int) (h0 : 0 ≤ i) (h1 : i ≤ 197) : c' 26 i = c 26 i := h (5, 26, 0, 197) (List.mem_of_getElem? (i := 19) rfl) rfl i h0 h1
theorem FE.p27_2 (h : FE 7 c c') (i : Int) (h0 : 2 ≤ i) (h1 : i ≤ 9) : c' 27 i = c 27 i := h (7, 27, 2, 9) (List.mem_of_getElem? (i := 20) rfl) rfl i h0 h1
theorem FE.p28_0 (h : FE 7 c c') (i : Int) (h0 : 0 ≤ i) (h1 : i ≤ 383) : c' 28 i = c 28 i := h (7, 28, 0, 383) (List.mem_of_getElem? (i := 21) rfl) rfl i h0 h1
theorem FE.p29_0 (h : FE 7 c c') (i : Int) (h0 : 0 ≤ i) (h1 : i ≤ 3) : c' 29 i = c 29 i := h (7, 29, 0, 3) (List.mem_of_getElem? (i := 22) rfl) rfl i h0 h1
theorem FE.p30_2 (h : FE 8 c c') (i : Int) (h0 : 2 ≤ i) (h1 : i ≤ 3) : c' 30 i = c 30 i := h (8, 30, 2, 3) (List.mem_of_getElem? (i := 23) rfl) rfl i h0 h1
theorem FE.p31_0 (h : FE 8 c c') (i : Int) (h0 : 0 ≤ i) (h1 : i ≤ 3) : c' 31 i = c 31 i := h (8, 31, 0, 3) (List.mem_of_getElem? (i := 24) rfl) rfl i h0 h1
theorem FE.p32_0 (h : FE 8 c c') (i : Int) (h0 : 0 ≤ i) (h1 : i ≤ 3) : c' 32 i = c 32 i := h (8, 32, 0, 3) (List.mem_of_getElem? (i := 25) rfl) rfl i h0 h1
theorem FE.p33_3 (h : FE 9 c c') : c' 33 3 = c 33 3 := h (9, 33, 3, 3) (List.mem_of_getElem? (i := 26) rfl) rfl 3 (Int.le_refl _) (Int.le_refl _)
theorem FE.p34_0 (h : FE 9 c c') (i : Int) (h0 : 0 ≤ i) (h1 : i ≤ 4) : c' 34 i = c 34 i := h (9, 34, 0, 4) (List.mem_of_getElem? (i := 27) rfl) rfl i h0 h1
theorem FE.p35_0 (h : FE 9 c c') (i : Int) (h0 : 0 ≤ i) (h1 : i ≤ 4) : c' 35 i = c 35 i := h (9, 35, 0, 4) (List.mem_of_getElem? (i := 28) rfl) rfl i h0 h1
theorem FE.p36_0 (h : FE 9 c c') (i : Int) (h0 : 0 ≤ i) (h1 : i ≤ 4) : c' 36 i = c 36 i := h (9, 36, 0, 4) (List.mem_of_getElem? (i := 29) rfl) rfl i h0 h1
theorem FE.p37_1 (h : FE 6 c c') : c' 37 1 = c 37 1 := h (6, 37, 1, 1) (List.mem_of_getElem? (i := 30) rfl) rfl 1 (Int.le_refl _) (Int.le_refl _)
theorem FE.p38_0 (h : FE 6 c c') (i : Int) (h0 : 0 ≤ i) (h1 : i ≤ 119) : c' 38 i = c 38 i := h (6, 38, 0, 119) (List.mem_of_getElem? (i := 31) rfl) rfl i h0 h1
theorem FE.p39_0 (h : FE 4 c c') (i : Int) (h0 : 0 ≤ i) (h1 : i ≤ 4) : c' 39 i = c 39 i := h (4, 39, 0, 4) (List.mem_of_getElem? (i := 32) rfl) rfl i h0 h1
end
/-- places of a list -/
def inP (l : List (Nat × Int × Int)) (k : Nat) (i : Int) : Prop := ∃ x, x ∈ l ∧ x.1 = k ∧ x.2.1 ≤ i ∧ i ≤ x.2.2
/-- just these places of group g0 were copied out of g1 -/
def CPY (g0 g1 : Nat) (l : List (Nat × Int × Int)) (m m' : zM) : Prop := (∀ g, g ≠ g0 → m' g = m g) ∧ (∀ k i, inP l k i → m' g0 k i = m g1 k i) ∧ (∀ k i, ¬ inP l k i → m' g0 k i = m g0 k i)
theorem CPY.rf (g0 g1 : Nat) (m : zM) : CPY g0 g1 [] m m := ⟨fun _ _ => rfl, fun k i h => absurd h (fun ⟨_, h, _⟩ => absurd h List.not_mem_nil), fun _ _ _ => rfl⟩
theorem CPY.trans {g0 g1 : Nat} (hg : g0 ≠ g1) {l l' : List (Nat × Int × Int)} {m a b : zM} (h : CPY g0 g1 l m a) (h' : CPY g0 g1 l' a b) : CPY g0 g1 (l ++ l') m b := by
  refine ⟨fun g hgg => (h'.1 g hgg).trans (h.1 g hgg), fun k i hp => ?_, fun k i hp => ?_⟩
  · by_cases h2 : inP l' k i
    · rw [h'.2.1 k i h2, h.1 g1 (fun e => hg e.symm)]
    · rw [h'.2.2 k i h2]
      refine h.2.1 k i ?_
      obtain ⟨x, hx, hq⟩ := hp
      rcases List.mem_append.mp hx with hx | hx
      · exact ⟨x, hx, hq⟩
      · exact absurd ⟨x, hx, hq⟩ h2
  · rw [h'.2.2 k i (fun e => hp (by obtain ⟨x, hx, hq⟩ := e; exact ⟨x, List.mem_append_right _ hx, hq⟩)), h.2.2 k i (fun e => hp (by obtain ⟨x, hx, hq⟩ := e; exact ⟨x, List.mem_append_left _ hx, hq⟩))]
theorem CPY.upd (m : zM) (g0 g1 k : Nat) (i : Int) : CPY g0 g1 [(k, i, i)] m (z_upd m g0 k i (m g1 k i)) := by
  refine ⟨fun g hg => zu_g _ _ _ hg, fun k' i' hp => ?_, fun k' i' hp => ?_⟩
  · obtain ⟨x, hx, h1, h2, h3⟩ := hp
    obtain rfl := List.mem_singleton.mp hx
    have e : i' = i := by (try dsimp only at h2 h3); omega
    subst h1
    subst e
    rw [zu_row, fu_s]
  · by_cases hk : k' = k
    · subst hk
      rw [zu_row, fu_i _ _ (fun e => hp ⟨(k', i, i), List.mem_singleton.mpr rfl, rfl, by rw [e]; exact Int.le_refl _, by rw [e]; exact Int.le_refl _⟩)]
    · rw [zu_k _ _ _ hk]
theorem CPY.cpy (m : zM) (g0 g1 k : Nat) (n : Int) : CPY g0 g1 [(k, 0, n - 1)] m (z_cpy m g0 k g1 k 0 0 n) := by
  refine ⟨fun g hg => funext fun k' => cpy_k _ (.inl hg), fun k' i' hp => ?_, fun k' i' hp => ?_⟩
  · obtain ⟨x, hx, h1, h2, h3⟩ := hp
    obtain rfl := List.mem_singleton.mp hx
    (try dsimp only at h1 h2 h3)
    subst h1
    rw [cpy_in _ (by omega), show i' - 0 + 0 = i' by omega]
  · by_cases hk : k' = k
    · subst hk
      exact cpy_out _ (fun e => hp ⟨(k', 0, n - 1), List.mem_singleton.mpr rfl, rfl, e.1, by (try dsimp only); omega⟩)
    · rw [cpy_k _ (.inr hk)]
theorem CPY.thn {g0 g1 : Nat} (hg : g0 ≠ g1) {l l' q : List (Nat × Int × Int)} {m a p : zM} {f : zM → zM} (h : CPY g0 g1 l m a) (h1 : CPY g0 g1 l' a p) (k : ∀ b, CPY g0 g1 (l ++ l') m b → CPY g0 g1 q m (f b)) : CPY g0 g1 q m (zs p f) := by
  rw [zs_a]
  exact k p (h.trans hg h1)
theorem f111_1_c {g0 g1 : Nat} (hg : g0 ≠ g1) (m : zM) : CPY g0 g1 [(12, 0, 7), (13, 0, 47), (14, 0, 47), (15, 0, 3), (16, 0, 27), (17, 0, 15), (18, 0, 15), (11, 7, 7)] m (f111_1 g0 g1 m) := by
  unfold f111_1
  refine CPY.thn hg (CPY.rf g0 g1 m) (CPY.cpy _ g0 g1 12 8) (fun m1 h1 => ?_)
  refine CPY.thn hg h1 (CPY.cpy _ g0 g1 13 48) (fun m2 h2 => ?_)
  refine CPY.thn hg h2 (CPY.cpy _ g0 g1 14 48) (fun m3 h3 => ?_)
  refine CPY.thn hg h3 (CPY.cpy _ g0 g1 15 4) (fun m4 h4 => ?_)
  refine CPY.thn hg h4 (CPY.cpy _ g0 g1 16 28) (fun m5 h5 => ?_)
  refine CPY.thn hg h5 (CPY.cpy _ g0 g1 17 16) (fun m6 h6 => ?_)
  refine CPY.thn hg h6 (CPY.cpy _ g0 g1 18 16) (fun m7 h7 => ?_)
  refine CPY.thn hg h7 (CPY.upd _ g0 g1 11 7) (fun m8 h8 => ?_)
  exact h8
theorem f173_1_c {g0 g1 : Nat} (hg : g0 ≠ g1) (m : zM) : CPY g0 g1 [(20, 0, 47), (21, 0, 47), (22, 0, 15), (19, 3, 3), (19, 4, 4), (19, 5, 5), (19, 6, 6)] m (f173_1 g0 g1 m) := by
  unfold f173_1
  refine CPY.thn hg (CPY.rf g0 g1 m) (CPY.cpy _ g0 g1 20 48) (fun m1 h1 => ?_)
  refine CPY.thn hg h1 (CPY.cpy _ g0 g1 21 48) (fun m2 h2 => ?_)
  refine CPY.thn hg h2 (CPY.cpy _ g0 g1 22 16) (fun m3 h3 => ?_)
  refine CPY.thn hg h3 (CPY.upd _ g0 g1 19 3) (fun m4 h4 => ?_)
  refine CPY.thn hg h4 (CPY.upd _ g0 g1 19 4) (fun m5 h5 => ?_)
  refine CPY.thn hg h5 (CPY.upd _ g0 g1 19 5) (fun m6 h6 => ?_)
  refine CPY.thn hg h6 (CPY.upd _ g0 g1 19 6) (fun m7 h7 => ?_)
  exact h7
theorem f175_1_c {g0 g1 : Nat} (hg : g0 ≠ g1) (m : zM) : CPY g0 g1 [(28, 0, 383), (29, 0, 3), (27, 2, 2), (27, 3, 3), (27, 4, 4), (27, 5, 5), (27, 6, 6), (27, 7, 7), (27, 8, 8), (27, 9, 9)] m (f175_1 g0 g1 m) := by
  unfold f175_1
  refine CPY.thn hg (CPY.rf g0 g1 m) (CPY.cpy _ g0 g1 28 384) (fun m1 h1 => ?_)
  refine CPY.thn hg h1 (CPY.cpy _ g0 g1 29 4) (fun m2 h2 => ?_)
  refine CPY.thn hg h2 (CPY.upd _ g0 g1 27 2) (fun m3 h3 => ?_)
  refine CPY.thn hg h3 (CPY.upd _ g0 g1 27 3) (fun m4 h4 => ?_)
  refine CPY.thn hg h4 (CPY.upd _ g0 g1 27 4) (fun m5 h5 => ?_)
  refine CPY.thn hg h5 (CPY.upd _ g0 g1 27 5) (fun m6 h6 => ?_)
  refine CPY.thn hg h6 (CPY.upd _ g0 g1 27 6) (fun m7 h7 => ?_)
  refine CPY.thn hg h7 (CPY.upd _ g0 g1 27 7) (fun m8 h8 => ?_)
  refine CPY.thn hg h8 (CPY.upd _ g0 g1 27 8) (fun m9 h9 => ?_)
  refine CPY.thn hg h9 (CPY.upd _ g0 g1 27 9) (fun m10 h10 => ?_)
  exact h10
theorem f171_1_c {g0 g1 : Nat} (hg : g0 ≠ g1) (m : zM) : CPY g0 g1 [(10, 0, 12), (12, 0, 7), (13, 0, 47), (14, 0, 47), (15, 0, 3), (16, 0, 27), (17, 0, 15), (18, 0, 15), (11, 7, 7), (20, 0, 47), (21, 0, 47), (22, 0, 15), (19, 3, 3), (19, 4, 4), (19, 5, 5), (19, 6, 6), (24, 0, 27), (25, 0, 27), (26, 0, 197), (23, 3, 3), (28, 0, 383), (29, 0, 3), (27, 2, 2), (27, 3, 3), (27, 4, 4), (27, 5, 5), (27, 6, 6), (27, 7, 7), (27, 8, 8), (27, 9, 9), (31, 0, 3), (32, 0, 3), (30, 2, 2), (30, 3, 3), (34, 0, 4), (35, 0, 4), (36, 0, 4), (33, 3, 3), (38, 0, 119), (37, 1, 1), (39, 0, 0), (39, 1, 1), (39, 2, 2), (39, 3, 3), (39, 4, 4), (8, 9, 9), (8, 10, 10), (8, 11, 11), (8, 12, 12), (8, 13, 13), (8, 14, 14), (8, 15, 15)] m (f171_1 g0 g1 m) := by
  unfold f171_1
  refine CPY.thn hg (CPY.rf g0 g1 m) (CPY.cpy _ g0 g1 10 13) (fun m1 h1 => ?_)
  refine CPY.thn hg h1 (f111_1_c hg _) (fun m2 h2 => ?_)
  refine CPY.thn hg h2 (f173_1_c hg _) (fun m3 h3 => ?_)
  refine CPY.thn hg h3 (CPY.cpy _ g0 g1 24 28) (fun m4 h4 => ?_)
  refine CPY.thn hg h4 (CPY.cpy _ g0 g1 25 28) (fun m5 h5 => ?_)
  refine CPY.thn hg h5 (CPY.cpy _ g0 g1 26 198) (fun m6 h6 => ?_)
  refine CPY.thn hg h6 (CPY.upd _ g0 g1 23 3) (fun m7 h7 => ?_)
  refine CPY.thn hg h7 (f175_1_c hg _) (fun m8 h8 => ?_)
  refine CPY.thn hg h8 (CPY.cpy _ g0 g1 31 4) (fun m9 h9 => ?_)
  refine CPY.thn hg h9 (CPY.cpy _ g0 g1 32 4) (fun m10 h10 => ?_)
  refine CPY.thn hg h10 (CPY.upd _ g0 g1 30 2) (fun m11 h11 => ?_)
  refine CPY.thn hg h11 (CPY.upd _ g0 g1 30 3) (fun m12 h12 => ?_)
  refine CPY.thn hg h12 (CPY.cpy _ g0 g1 34 5) (fun m13 h13 => ?_)
  refine CPY.thn hg h13 (CPY.cpy _ g0 g1 35 5) (fun m14 h14 => ?_)
  refine CPY.thn hg h14 (CPY.cpy _ g0 g1 36 5) (fun m15 h15 => ?_)
  refine CPY.thn hg h15 (CPY.upd _ g0 g1 33 3) (fun m16 h16 => ?_)
  refine CPY.thn hg h16 (CPY.cpy _ g0 g1 38 120) (fun m17 h17 => ?_)
  refine CPY.thn hg h17 (CPY.upd _ g0 g1 37 1) (fun m18 h18 => ?_)
  refine CPY.thn hg h18 (CPY.upd _ g0 g1 39 0) (fun m19 h19 => ?_)
  refine CPY.thn hg h19 (CPY.upd _ g0 g1 39 1) (fun m20 h20 => ?_)
  refine CPY.thn hg h20 (CPY.upd _ g0 g1 39 2) (fun m21 h21 => ?_)
  refine CPY.thn hg h21 (CPY.upd _ g0 g1 39 3) (fun m22 h22 => ?_)
  refine CPY.thn hg h22 (CPY.upd _ g0 g1 39 4) (fun m23 h23 => ?_)
  refine CPY.thn hg h23 (CPY.upd _ g0 g1 8 9) (fun m24 h24 => ?_)
  refine CPY.thn hg h24 (CPY.upd _ g0 g1 8 10) (fun m25 h25 => ?_)
  refine CPY.thn hg h25 (CPY.upd _ g0 g1 8 11) (fun m26 h26 => ?_)
  refine CPY.thn hg h26 (CPY.upd _ g0 g1 8 12) (fun m27 h27 => ?_)
  refine CPY.thn hg h27 (CPY.upd _ g0 g1 8 13) (fun m28 h28 => ?_)
  refine CPY.thn hg h28 (CPY.upd _ g0 g1 8 14) (fun m29 h29 => ?_)
  refine CPY.thn hg h29 (CPY.upd _ g0 g1 8 15) (fun m30 h30 => ?_)
  exact h30
theorem copy_FE {g0 g1 : Nat} (hg : g0 ≠ g1) (m : zM) (n : Nat) : FE n (m g1) (f171_1 g0 g1 m g0) := by
  intro x hx _ i h0 h1
  refine (f171_1_c hg m).2.1 x.2.1 i ?_
  simp only [fcl, List.mem_cons, List.not_mem_nil, or_false] at hx
  rcases hx with rfl | rfl | rfl | rfl | rfl | rfl | rfl | rfl | rfl | rfl | rfl | rfl | rfl | rfl | rfl | rfl | rfl | rfl | rfl | rfl | rfl | rfl | rfl | rfl | rfl | rfl | rfl | rfl | rfl | rfl | rfl | rfl | rfl
  · exact ⟨(8, 9, 9), List.mem_of_getElem? (i := 45) rfl, rfl, by (try dsimp only at h0 h1 ⊢); omega, by (try dsimp only at h0 h1 ⊢); omega⟩
  · (try dsimp only at h0 h1 ⊢)
    rcases (show i = 10 ∨ i = 11 ∨ i = 12 by omega) with rfl | rfl | rfl
    · exact ⟨(8, 10, 10), List.mem_of_getElem? (i := 46) rfl, rfl, by decide, by decide⟩
    · exact ⟨(8, 11, 11), List.mem_of_getElem? (i := 47) rfl, rfl, by decide, by decide⟩
    · exact ⟨(8, 12, 12), List.mem_of_getElem? (i := 48) rfl, rfl, by decide, by decide⟩
  · (try dsimp only at h0 h1 ⊢)
    rcases (show i = 13 ∨ i = 14 ∨ i = 15 by omega) with rfl | rfl | rfl
    · exact ⟨(8, 13, 13), List.mem_of_getElem? (i := 49) rfl, rfl, by decide, by decide⟩
    · exact ⟨(8, 14, 14), List.mem_of_getElem? (i := 50) rfl, rfl, by decide, by decide⟩
    · exact ⟨(8, 15, 15), List.mem_of_getElem? (i := 51) rfl, rfl, by decide, by decide⟩
  · exact ⟨(10, 0, 12), List.mem_of_getElem? (i := 0) rfl, rfl, by (try dsimp only at h0 h1 ⊢); omega, by (try dsimp only at h0 h1 ⊢); omega⟩
  · exact ⟨(11, 7, 7), List.mem_of_getElem? (i := 8) rfl, rfl, by (try dsimp only at h0 h1 ⊢); omega, by (try dsimp only at h0 h1 ⊢); omega⟩
  · exact ⟨(12, 0, 7), List.mem_of_getElem? (i := 1) rfl, rfl, by (try dsimp only at h0 h1 ⊢); omega, by (try dsimp only at h0 h1 ⊢); omega⟩
  · exact ⟨(13, 0, 47), List.mem_of_getElem? (i := 2) rfl, rfl, by (try dsimp only at h0 h1 ⊢); omega, by (try dsimp only at h0 h1 ⊢); omega⟩
  · exact ⟨(14, 0, 47), List.mem_of_getElem? (i := 3) rfl, rfl, by (try dsimp only at h0 h1 ⊢); omega, by (try dsimp only at h0 h1 ⊢); omega⟩
  · exact ⟨(15, 0, 3), List.mem_of_getElem? (i := 4) rfl, rfl, by (try dsimp only at h0 h1 ⊢); omega, by (try dsimp only at h0 h1 ⊢); omega⟩
  · exact ⟨(16, 0, 27), List.mem_of_getElem? (i := 5) rfl, rfl, by (try dsimp only at h0 h1 ⊢); omega, by (try dsimp only at h0 h1 ⊢); omega⟩
  · exact ⟨(17, 0, 15), List.mem_of_getElem? (i := 6) rfl, rfl, by (try dsimp only at h0 h1 ⊢); omega, by (try dsimp only at h0 h1 ⊢); omega⟩
  · exact ⟨(18, 0, 15), List.mem_of_getElem? (i := 7) rfl, rfl, by (try dsimp only at h0 h1 ⊢); omega, by (try dsimp only at h0 h1 ⊢); omega⟩
  · (try dsimp only at h0 h1 ⊢)
    rcases (show i = 3 ∨ i = 4 ∨ i = 5 ∨ i = 6 by omega) with rfl | rfl | rfl | rfl
    · exact ⟨(19, 3, 3), List.mem_of_getElem? (i := 12) rfl, rfl, by decide, by decide⟩
    · exact ⟨(19, 4, 4), List.mem_of_getElem? (i := 13) rfl, rfl, by decide, by decide⟩
    · exact ⟨(19, 5, 5), List.mem_of_getElem? (i := 14) rfl, rfl, by decide, by decide⟩
    · exact ⟨(19, 6, 6), List.mem_of_getElem? (i := 15) rfl, rfl, by decide, by decide⟩
  · exact ⟨(20, 0, 47), List.mem_of_getElem? (i := 9) rfl, rfl, by (try dsimp only at h0 h1 ⊢); omega, by (try dsimp only at h0 h1 ⊢); omega⟩
  · exact ⟨(21, 0, 47), List.mem_of_getElem? (i := 10) rfl, rfl, by (try dsimp only at h0 h1 ⊢); omega, by (try dsimp only at h0 h1 ⊢); omega⟩
  · exact ⟨(22, 0, 15), List.mem_of_getElem? (i := 11) rfl, rfl, by (try dsimp only at h0 h1 ⊢); omega, by (try dsimp only at h0 h1 ⊢); omega⟩
  · exact ⟨(23, 3, 3), List.mem_of_getElem? (i := 19) rfl, rfl, by (try dsimp only at h0 h1 ⊢); omega, by (try dsimp only at h0 h1 ⊢); omega⟩
  · exact ⟨(24, 0, 27), List.mem_of_getElem? (i := 16) rfl, rfl, by (try dsimp only at h0 h1 ⊢); omega, by (try dsimp only at h0 h1 ⊢); omega⟩
  · exact ⟨(25, 0, 27), List.mem_of_getElem? (i := 17) rfl, rfl, by (try dsimp only at h0 h1 ⊢); omega, by (try dsimp only at h0 h1 ⊢); omega⟩
  · exact ⟨(26, 0, 197), List.mem_of_getElem? (i := 18) rfl, rfl, by (try dsimp only at h0 h1 ⊢); omega, by (try dsimp only at h0 h1 ⊢); omega⟩
  · (try dsimp only at h0 h1 ⊢)
    rcases (show i = 2 ∨ i = 3 ∨ i = 4 ∨ i = 5 ∨ i = 6 ∨ i = 7 ∨ i = 8 ∨ i = 9 by omega) with rfl | rfl | rfl | rfl | rfl | rfl | rfl | rfl
    · exact ⟨(27, 2, 2), List.mem_of_getElem? (i := 22) rfl, rfl, by decide, by decide⟩
    · exact ⟨(27, 3, 3), List.mem_of_getElem? (i := 23) rfl, rfl, by decide, by decide⟩
    · exact ⟨(27, 4, 4), List.mem_of_getElem? (i := 24) rfl, rfl, by decide, by decide⟩
    · exact ⟨(27, 5, 5), List.mem_of_getElem? (i := 25) rfl, rfl, by decide, by decide⟩
    · exact ⟨(27, 6, 6), List.mem_of_getElem? (i := 26) rfl, rfl, by decide, by decide⟩
    · exact ⟨(27, 7, 7), List.mem_of_getElem? (i := 27) rfl, rfl, by decide, by decide⟩
    · exact ⟨(27, 8, 8), List.mem_of_getElem? (i := 28) rfl, rfl, by decide, by decide⟩
    · exact ⟨(27, 9, 9), List.mem_of_getElem? (i := 29) rfl, rfl, by decide, by decide⟩
  · exact ⟨(28, 0, 383), List.mem_of_getElem? (i := 20) rfl, rfl, by (try dsimp only at h0 h1 ⊢); omega, by (try dsimp only at h0 h1 ⊢); omega⟩
  · exact ⟨(29, 0, 3), List.mem_of_getElem? (i := 21) rfl, rfl, by (try dsimp only at h0 h1 ⊢); omega, by (try dsimp only at h0 h1 ⊢); omega⟩
  · (try dsimp only at h0 h1 ⊢)
    rcases (show i = 2 ∨ i = 3 by omega) with rfl | rfl
    · exact ⟨(30, 2, 2), List.mem_of_getElem? (i := 32) rfl, rfl, by decide, by decide⟩
    · exact ⟨(30, 3, 3), List.mem_of_getElem? (i := 33) rfl, rfl, by decide, by decide⟩
  · exact ⟨(31, 0, 3), List.mem_of_getElem? (i := 30) rfl, rfl, by (try dsimp only at h0 h1 ⊢); omega, by (try dsimp only at h0 h1 ⊢); omega⟩
  · exact ⟨(32, 0, 3), List.mem_of_getElem? (i := 31) rfl, rfl, by (try dsimp only at h0 h1 ⊢); omega, by (try dsimp only at h0 h1 ⊢); omega⟩
  · exact ⟨(33, 3, 3), List.mem_of_getElem? (i := 37) rfl, rfl, by (try dsimp only at h0 h1 ⊢); omega, by (try dsimp only at h0 h1 ⊢); omega⟩
  · exact ⟨(34, 0, 4), List.mem_of_getElem? (i := 34) rfl, rfl, by (try dsimp only at h0 h1 ⊢); omega, by (try dsimp only at h0 h1 ⊢); omega⟩
  · exact ⟨(35, 0, 4), List.mem_of_getElem? (i := 35) rfl, rfl, by (try dsimp only at h0 h1 ⊢); omega, by (try dsimp only at h0 h1 ⊢); omega⟩
  · exact ⟨(36, 0, 4), List.mem_of_getElem? (i := 36) rfl, rfl, by (try dsimp only at h0 h1 ⊢); omega, by (try dsimp only at h0 h1 ⊢); omega⟩
  · exact ⟨(37, 1, 1), List.mem_of_getElem? (i := 39) rfl, rfl, by (try dsimp only at h0 h1 ⊢); omega, by (try dsimp only at h0 h1 ⊢); omega⟩
  · exact ⟨(38, 0, 119), List.mem_of_getElem? (i := 38) rfl, rfl, by (try dsimp only at h0 h1 ⊢); omega, by (try dsimp only at h0 h1 ⊢); omega⟩
  · (try dsimp only at h0 h1 ⊢)
    rcases (show i = 0 ∨ i = 1 ∨ i = 2 ∨ i = 3 ∨ i = 4 by omega) with rfl | rfl | rfl | rfl | rfl
    · exact ⟨(39, 0, 0), List.mem_of_getElem? (i := 40) rfl, rfl, by decide, by decide⟩
    · exact ⟨(39, 1, 1), List.mem_of_getElem? (i := 41) rfl, rfl, by decide, by decide⟩
    · exact ⟨(39, 2, 2), List.mem_of_getElem? (i := 42) rfl, rfl, by decide, by decide⟩
    · exact ⟨(39, 3, 3), List.mem_of_getElem? (i := 43) rfl, rfl, by decide, by decide⟩
    · exact ⟨(39, 4, 4), List.mem_of_getElem? (i := 44) rfl, rfl, by decide, by decide⟩
end
section
/-! How class and reference hang together: clock, shape, seal, calendar; tape, fault, image. -/
def I32 (a : Int) : Prop := -2147483648 ≤ a ∧ a ≤ 2147483647
theorem time_fe {c c' : Nat → Int → Int} {w w' : Int → Int} (h : c 8 9 = w 0) (h1 : FE 11 c c') (h2 : FW 11 w w') : c' 8 9 = w' 0 := by
  rw [h1.p8_9, h2 0 (by omega) (by omega) ja45_0]
  exact h
def R2 (c : Nat → Int → Int) (w : Int → Int) : Prop := c 19 3 = w 1 ∧ c 19 4 = w 2 ∧ c 19 5 = w 3
theorem R2.fe {c c' : Nat → Int → Int} {w w' : Int → Int} (h : R2 c w) (h1 : FE 2 c c') (h2 : FW 2 w w') : R2 c' w' := by
  unfold R2
  rw [h1.p19_3 3 (by omega) (by omega), h1.p19_3 4 (by omega) (by omega), h1.p19_3 5 (by omega) (by omega), h2 1 (by omega) (by omega) (ja45_1 (by omega)), h2 2 (by omega) (by omega) (ja45_1 (by omega)), h2 3 (by omega) (by omega) (ja45_1 (by omega))]
  exact h
theorem SE.fe {B : Int} {c c' : Nat → Int → Int} {w w' : Int → Int} (h : SE B c w) (h1 : FE 4 c c') (h2 : FW 4 w w') : SE B c' w' := h.of (fun i i0 i1 => h1.p39_0 i i0 i1) (fun i i0 i1 => h2 i (by omega) (by omega) (ja45_1614 ⟨i0, i1⟩))
theorem fw1 {w w' : Int → Int} (h2 : FW 1 w w') : ∀ i : Int, 287 ≤ i → i ≤ 787 → w' i = w i := fun i i0 i1 => h2 i (by omega) (by omega) (ja45_287 ⟨i0, i1⟩)
theorem CR.fe {c c' : Nat → Int → Int} {w w' : Int → Int} (h : CR c w) (hb : CB c) (h1 : FE 1 c c') (h2 : FW 1 w w') : CR c' w' :=
  (h.w hb (fw1 h2)).cg hb (fun i i0 i1 => h1.p12_0 i i0 (by omega)) (fun i i0 i1 => h1.p13_0 i i0 (by omega)) (fun i i0 i1 => h1.p14_0 i i0 (by omega)) (fun i i0 i1 => h1.p15_0 i i0 (by omega))
    (fun i i0 i1 => h1.p16_0 i i0 (by omega)) (fun i i0 i1 => h1.p17_0 i i0 (by omega)) (fun i i0 i1 => h1.p18_0 i i0 (by omega)) h1.p11_7
def MR (B : Int) (c : Nat → Int → Int) (w : Int → Int) : Prop := c 8 9 = w 0 ∧ R2 c w ∧ SE B c w ∧ CR c w
theorem MR.up {B B' : Int} {c : Nat → Int → Int} {w : Int → Int} (h : MR B c w) (hb : B ≤ B') : MR B' c w := ⟨h.1, h.2.1, h.2.2.1.up hb, h.2.2.2⟩
theorem MR.all {B : Int} {c c' : Nat → Int → Int} {w w' : Int → Int} (h : MR B c w) (hb : CB c) (h1 : ∀ n, FE n c c') (h2 : ∀ i, 0 ≤ i → i ≤ 1618 → w' i = w i) : MR B c' w' :=
  ⟨time_fe h.1 (h1 11) (FW.all h2 11), h.2.1.fe (h1 2) (FW.all h2 2), h.2.2.1.fe (h1 4) (FW.all h2 4), h.2.2.2.fe hb (h1 1) (FW.all h2 1)⟩
def Rel2 (B : Int) (c r : zM) : Prop := MR B (c 0) (r 4 45) ∧ c 4 40 4 = r 4 44 3 ∧ (r 4 44 3 = 1 → MR B (c 1) (r 4 47)) ∧ TA c r ∧ FT c r
theorem Rel2.up {B B' : Int} {c r : zM} (h : Rel2 B c r) (hb : B ≤ B') : Rel2 B' c r := ⟨h.1.up hb, h.2.1, fun e => (h.2.2.1 e).up hb, h.2.2.2⟩
theorem Rel2.r {B : Int} {c r r' : zM} (h : Rel2 B c r) (e44 : r' 4 44 = r 4 44) (e45 : r' 4 45 = r 4 45) (e47 : r' 4 47 = r 4 47) (e48 : r' 4 48 = r 4 48) : Rel2 B c r' := by
  unfold Rel2 TA FT at h ⊢
  rw [e44, e45, e47, e48]
  exact h
theorem Rel2.c {B : Int} {c c' r : zM} (h : Rel2 B c r) (e0 : c' 0 = c 0) (e1 : c' 1 = c 1) (e40 : c' 4 40 = c 4 40) (e41 : c' 4 41 = c 4 41) (e42 : c' 4 42 = c 4 42) : Rel2 B c' r := by
  unfold Rel2 TA FT at h ⊢
  rw [e0, e1, e40, e41, e42]
  exact h
/-- behind a call of the class what hangs on the reference's part is as it was -/
theorem Rel2.rj {L G : List Nat} {B B' : Int} {c m1 : zM} (h : Rel2 B c c) (k : J (zQ L G) c B' m1) (hl : ([44, 45, 47, 48].all fun k => (jp k).all fun x => !L.contains x.2.2.1.toNat) = true) (h0 : L.contains 0 = false) : Rel2 B c m1 := by
  have ha : ∀ k, k ∈ [44, 45, 47, 48] → ((jp k).all fun x => !L.contains x.2.2.1.toNat) = true := List.all_eq_true.mp hl
  exact h.r (k.row 44 (ha 44 (by simp)) h0 4) (k.row 45 (ha 45 (by simp)) h0 4) (k.row 47 (ha 47 (by simp)) h0 4) (k.row 48 (ha 48 (by simp)) h0 4)
/-- behind one of the reference's what hangs on the class' part -/
theorem Rel2.cj {L : List Nat} {B B' : Int} {m1 m2 : zM} (h : Rel2 B m1 m2) (k : J (zQ L [4]) m1 B' m2) (hl : ([40, 41, 42].all fun k => (jp k).all fun x => !L.contains x.2.2.1.toNat) = true) (h0 : L.contains 0 = false) : Rel2 B m2 m2 := by
  have ha : ∀ k, k ∈ [40, 41, 42] → ((jp k).all fun x => !L.contains x.2.2.1.toNat) = true := List.all_eq_true.mp hl
  exact h.c (jy k rfl) (jy k rfl) (k.row 40 (ha 40 (by simp)) h0 4) (k.row 41 (ha 41 (by simp)) h0 4) (k.row 42 (ha 42 (by simp)) h0 4)
def okL (L L' G : List Nat) : Bool := !G.contains 1 && !L.contains 14 && !L.contains 15 && !L.contains 16 && !L'.contains 34 && !L'.contains 35 && !L'.contains 36 && !L'.contains 0 && ((jp 47).all fun x => !L'.contains x.2.2.1.toNat)
theorem TA.fe {L L' G G' : List Nat} {B B' : Int} {c c' r r' : zM} (h : TA c r) (hl : c 4 41 3 ≤ 300) (k : J (zQ L G) c B c') (k' : J (zQ L' G') r B' r') (h1 : L.contains 15 = false) (h2 : L'.contains 35 = false) : TA c' r' := by
  have e1 : c' 4 41 3 = c 4 41 3 := jx k 15 ja41_3 h1
  refine ⟨?_, fun i i0 i1 => ?_⟩
  · rw [e1, jx k' 35 ja44_5 h2]
    exact h.1
  · rw [e1] at i1
    rw [jx k 15 (ja42_0 ⟨i0, by omega⟩) h1, jx k' 35 (ja48_0 ⟨i0, by omega⟩) h2]
    exact h.2 i i0 i1
theorem FT.fe {L L' G G' : List Nat} {B B' : Int} {c c' r r' : zM} (h : FT c r) (k : J (zQ L G) c B c') (k' : J (zQ L' G') r B' r') (h1 : L.contains 16 = false) (h2 : L'.contains 36 = false) : FT c' r' := by
  unfold FT
  rw [jx k 16 (ja41_4 (by omega)) h1, jx k 16 (ja41_4 (by omega)) h1, jx k' 36 (ja44_6 (by omega)) h2, jx k' 36 (ja44_6 (by omega)) h2]
  exact h
theorem Rel2.mk {L L' G : List Nat} {B Bc Br B1 : Int} {c c' r r' : zM} (h : Rel2 B c r) (hc : OM B c) (k : J (zQ L G) c Bc c') (k' : J (zQ L' [4]) r Br r') (hb : B ≤ B1) (hm : MR B1 (c' 0) (r' 4 45)) (ok : okL L L' G = true) : Rel2 B1 c' r' := by
  unfold okL at ok
  simp only [Bool.and_eq_true, Bool.not_eq_true'] at ok
  obtain ⟨⟨⟨⟨⟨⟨⟨⟨o1, o2⟩, o3⟩, o4⟩, o5⟩, o6⟩, o7⟩, o8⟩, o9⟩ := ok
  have hl : 0 ≤ c 4 41 3 ∧ c 4 41 3 ≤ 300 := r41_3 hc.2.o 4
  have e3 : r' 4 44 3 = r 4 44 3 := jx k' 34 ja44_3 o5
  refine ⟨hm, ?_, fun e => ?_, h.2.2.2.1.fe hl.2 k k' o3 o6, h.2.2.2.2.fe k k' o4 o7⟩
  · rw [e3, jx k 14 (ja40_0 (by omega)) o2]
    exact h.2.1
  · rw [jy k o1, k'.row 47 o9 o8]
    exact (h.2.2.1 (by rw [← e3]; exact e)).up hb
/-! the reference thinks, and all is as it was -/
theorem OM.aside {B : Int} {r : zM} (h : OM B r) : OM B (z_cpy r 4 46 4 45 0 0 1619) := by
  have j1 : J (zQ [38] [4]) r B (z_cpy r 4 46 4 45 0 0 1619) := (h.2.j (L := [38]) (G := [4])).cp rfl (jq_of rfl) (by decide) (fun k _ => ⟨fun _ h => h, fun _ h => h⟩) (fun i hi h => h (by rw [ja46 (by omega)]; simp)) (fun h => h (by simp))
  exact ⟨mok_aside h.1, j1.jb⟩
theorem f208_46 {m : zM} {B : Int} (h : OM B m) (hB : B + 11 ≤ 1000000000) : OM (B + 11) (f208_1 m) ∧ f208_1 m 4 46 = m 4 46 := by
  obtain ⟨k1, k2⟩ := q208_1 h.1 h.2 hB
  exact ⟨⟨k1, k2.jb⟩, k2.row 46 rfl rfl 4⟩
theorem r302_46 {k : zM → Int × zM} {a b : Int} : ∀ (n : Nat) (y : Int) (m : zM) (B : Int), OM B m → y ≤ a → a - y < n → B + 11 * (a - y) ≤ 1000000000 → ∃ m', fl302_41_1 k a b n y m = k m' ∧ m' 4 46 = m 4 46
  | 0, y, m, B, h, h1, h2, hB => by omega
  | n + 1, y, m, B, h, h1, h2, hB => by
    show ∃ m', fl302_41_1_b (fl302_41_1 k a b n) k a b y m = k m' ∧ _
    unfold fl302_41_1_b
    by_cases h0 : a ≤ y
    · rw [if_pos h0]
      exact ⟨m, rfl, rfl⟩
    · rw [if_neg h0, zs_a]
      obtain ⟨g1, g2⟩ := f208_46 h (by omega)
      obtain ⟨m', e, e2⟩ := r302_46 (k := k) (a := a) (b := b) n (y + 1) (f208_1 m) (B + 11) g1 (by omega) (by omega) (by omega)
      exact ⟨m', e, e2.trans g2⟩
theorem would_w {r : zM} {B a b : Int} (h : OM B r) (hB : B + 9911 ≤ 1000000000) : ∀ i, 0 ≤ i → i ≤ 1618 → (f302_1 a b r).2 4 45 i = r 4 45 i := by
  intro i i0 i1
  unfold f302_1
  by_cases h1 : a < 1
  · rw [if_pos h1]
  rw [if_neg h1]
  by_cases h2 : a ≤ 900
  case neg => rw [if_neg h2]
  rw [if_pos h2]
  by_cases h3 : b < 0
  · rw [if_pos h3]
  rw [if_neg h3]
  by_cases h4 : b ≤ 6
  case neg => rw [if_neg h4]
  rw [if_pos h4, zs_a]
  obtain ⟨m', e, e2⟩ := r302_46 (k := fun m518 => zn (f303_1 b m518) fun v524 => zs (z_cpy m518 4 45 4 46 0 0 1619) fun m525 => (v524, m525)) (a := a) (b := b) (zfu 901) 0 _ B h.aside (by omega) (by rw [zfu_eq]; omega) (by omega)
  rw [e]
  simp only [zn_a, zs_a]
  rw [cpy_in _ (by omega), e2, cpy_in _ (by omega), show i - 0 + 0 - 0 + 0 = i by omega]
theorem r309_46 {k : Int → zM → Int × zM} : ∀ (n : Nat) (y : Int) (m : zM) (B : Int), OM B m → y ≤ 3600 → 3600 - y < n → B + 11 * (3600 - y) ≤ 1000000000 → ∃ y' m', fl309_13_1 k n y m = k y' m' ∧ m' 4 46 = m 4 46
  | 0, y, m, B, h, h1, h2, hB => by omega
  | n + 1, y, m, B, h, h1, h2, hB => by
    show ∃ y' m', fl309_13_1_b (fl309_13_1 k n) k y m = k y' m' ∧ _
    unfold fl309_13_1_b
    by_cases h0 : 3600 ≤ y
    · rw [if_pos h0]
      exact ⟨y, m, rfl, rfl⟩
    rw [if_neg h0]
    by_cases h3 : m 4 45 12 = 0
    case neg =>
      rw [if_neg h3]
      exact ⟨y, m, rfl, rfl⟩
    rw [if_pos h3, zs_a]
    obtain ⟨g1, g2⟩ := f208_46 h (by omega)
    obtain ⟨y', m', e, e2⟩ := r309_46 (k := k) n (y + 1) (f208_1 m) (B + 11) g1 (by omega) (by omega) (by omega)
    exact ⟨y', m', e, e2.trans g2⟩
theorem lasts_w {r : zM} {B : Int} (h : OM B r) (hB : B + 39611 ≤ 1000000000) : ∀ i, 0 ≤ i → i ≤ 1618 → (f309_1 r).2 4 45 i = r 4 45 i := by
  intro i i0 i1
  unfold f309_1
  rw [zs_a]
  obtain ⟨y', m', e, e2⟩ := r309_46 (k := fun y504 m505 => zn (if (m505 4 45 12) = 1 then (1) else (0)) fun v512 => zs (z_cpy m505 4 45 4 46 0 0 1619) fun m517 => zn (if v512 = 0 then ((-1)) else (y504)) fun v521 => (v521, m517)) (zfu 3601) 0 _ B h.aside (by omega) (by rw [zfu_eq]; omega) (by omega)
  rw [e]
  simp only [zn_a, zs_a]
  rw [cpy_in _ (by omega), e2, cpy_in _ (by omega), show i - 0 + 0 - 0 + 0 = i by omega]
def sq5 (r1 : zM) (x : Int × zM) : Prop := ∀ i, 1614 ≤ i → i ≤ 1618 → x.2 4 45 i = r1 4 45 i
theorem sq5.ite {r1 : zM} (p : Prop) [Decidable p] (x y : Int × zM) (hx : p → sq5 r1 x) (hy : ¬ p → sq5 r1 y) : sq5 r1 (if p then x else y) := by
  by_cases h : p
  · rw [if_pos h]
    exact hx h
  · rw [if_neg h]
    exact hy h
/-- set leaves the seal but for what was refused -/
theorem set_S {c r : zM} {B a b : Int} (ha : I32 a) (hb : I32 b) (hc : OM B c) (hr : OM B r) (hB : B + 2 ≤ 1000000000) (hs : SE B (c 0) (r 4 45)) (h : CR (c 0) (r 4 45)) : SE (B + 1) ((f73_1 a b c).2 0) ((f280_1 a b r).2 4 45) := by
  obtain ⟨v, c1, r1, e1, e2, hv, oc, ro, se, cr, fc, fr⟩ := shut_R hc hr (by omega) hs h
  have up : ∀ j y, j < 1614 → ∀ i, 1614 ≤ i → z_upd r1 4 45 j y 4 45 i = r1 4 45 i := fun j y hj i hi => by rw [zu_row, fu_i _ _ (by omega)]
  obtain ⟨k1, k2⟩ := q232_1 64 ro.1 ro.2 (by omega) (by omega)
  have u2 : ∀ y, 1 ≤ y → y ≤ 3600 → ∀ i, 1614 ≤ i → i ≤ 1618 → f233_1 (z_upd (f232_1 64 r1) 4 45 8 y) 4 45 i = r1 4 45 i := fun y y0 y1 i i0 i1 => by
    have p1 : OM (B + 1) (f232_1 64 r1) := ⟨k1, k2.jb⟩
    have p2 := u45_8 (g := 4) (x := y) p1 ⟨y0, y1⟩
    obtain ⟨j3, j4⟩ := q233_1 p2.1 p2.2 (by omega)
    rw [jx j4 24 (ja45_1614 ⟨i0, i1⟩) rfl, zu_row, fu_i _ _ (by omega), jx k2 24 (ja45_1614 ⟨i0, i1⟩) rfl]
  refine se.of (fun i i0 i1 => ?_) (fun i i0 i1 => ?_)
  · unfold f73_1
    rw [e1]
    simp only [zb_a]
    by_cases h0 : v = 0
    · rw [if_pos h0]
      obtain ⟨-, g2, -⟩ := q74_1 0 a b oc.1 oc.2 (by omega) (by omega) ha hb
      exact jx g2 4 (ja39_0 ⟨i0, i1⟩) rfl
    · rw [if_neg h0]
  · refine (?_ : sq5 r1 (f280_1 a b r)) i i0 i1
    unfold f280_1
    rw [e2]
    simp only [zb_a, zs_a]
    repeat' (refine sq5.ite _ _ _ (fun _ => ?_) (fun _ => ?_))
    all_goals first
      | exact fun _ _ _ => rfl
      | exact fun i i0 _ => up _ _ (by omega) i i0
      | exact fun i i0 i1 => u2 b (by omega) (by omega) i i0 i1
end
section
/-! What each call does to what hangs together. -/
theorem Rel2.mk3 {L L' G : List Nat} {B Bc Br B1 : Int} {c c' r r' : zM} (h : Rel2 B c r) (k : J (zQ L G) c Bc c') (k' : J (zQ L' [4]) r Br r') (hb : B ≤ B1) (hm : MR B1 (c' 0) (r' 4 45)) (ha : TA c' r') (hf : FT c' r') (o1 : G.contains 1 = false) (o2 : L.contains 14 = false) (o5 : L'.contains 34 = false) (o9 : ((jp 47).all fun x => !L'.contains x.2.2.1.toNat) = true) (o8 : L'.contains 0 = false) : Rel2 B1 c' r' := by
  have e3 : r' 4 44 3 = r 4 44 3 := jx k' 34 ja44_3 o5
  refine ⟨hm, ?_, fun e => ?_, ha, hf⟩
  · rw [e3, jx k 14 (ja40_0 (by omega)) o2]
    exact h.2.1
  · rw [jy k o1, k'.row 47 o9 o8]
    exact (h.2.2.1 (by rw [← e3]; exact e)).up hb
theorem op_phases {c r : zM} {B a b : Int} (ha : I32 a) (hb : I32 b) (hc : OM B c) (hr : OM B r) (hB : B + 110000 ≤ 1000000000) (h : Rel2 B c r) : (f16_1 a b c).1 = (f202_1 a b r).1 ∧ Rel2 (B + 110000) (f16_1 a b c).2 (f202_1 a b r).2 := by
  obtain ⟨-, k2, -⟩ := q16_1 a b hc.1 hc.2 (by omega) ha hb
  obtain ⟨-, k4, -⟩ := q202_1 a b hr.1 hr.2 (by omega) ha hb
  have hT := phases_T (a := a) (b := b) hc hr (by omega) h.1.2.1 h.1.2.2.1 h.1.2.2.2
  exact ⟨hT.1, h.mk hc k2 k4 (by omega) ⟨(time_fe h.1.1 (FE.j k2 0 11 rfl) (FW.j k4 4 11 rfl)), hT.2.1, (hT.2.2.up (by omega)), (h.1.2.2.2.fe (CB.of hc.2 0) (FE.j k2 0 1 rfl) (FW.j k4 4 1 rfl))⟩ rfl⟩
theorem op_sample {c r : zM} {B a b : Int} (ha : I32 a) (hb : I32 b) (hc : OM B c) (hr : OM B r) (hB : B + 110000 ≤ 1000000000) (h : Rel2 B c r) : (f19_1 a b c).1 = (f205_1 a b r).1 ∧ Rel2 (B + 110000) (f19_1 a b c).2 (f205_1 a b r).2 := by
  obtain ⟨-, k2, -⟩ := q19_1 a b hc.1 hc.2 (by omega) ha hb
  obtain ⟨-, k4, -⟩ := q205_1 a b hr.1 hr.2 (by omega) ha hb
  have hT := sample_T (a := a) (b := b) hc hr (by omega) h.1.1 h.1.2.1
  exact ⟨hT.1, h.mk hc k2 k4 (by omega) ⟨hT.2.1, hT.2.2, ((h.1.2.2.1.fe (FE.j k2 0 4 rfl) (FW.j k4 4 4 rfl)).up (by omega)), (h.1.2.2.2.fe (CB.of hc.2 0) (FE.j k2 0 1 rfl) (FW.j k4 4 1 rfl))⟩ rfl⟩
theorem op_again {c r : zM} {B a : Int} (ha : I32 a) (hc : OM B c) (hr : OM B r) (hB : B + 110000 ≤ 1000000000) (h : Rel2 B c r) : Rel2 (B + 110000) (f69_1 a c).2 (f279_1 a r).2 := by
  obtain ⟨-, k2, -⟩ := q69_1 a hc.1 hc.2 (by omega) ha
  obtain ⟨-, k4, -⟩ := q279_1 a hr.1 hr.2 (by omega) ha
  have hT := again_T (a := a) hc hr (by omega) h.1.1
  exact h.mk hc k2 k4 (by omega) ⟨hT, (h.1.2.1.fe (FE.j k2 0 2 rfl) (FW.j k4 4 2 rfl)), ((h.1.2.2.1.fe (FE.j k2 0 4 rfl) (FW.j k4 4 4 rfl)).up (by omega)), (h.1.2.2.2.fe (CB.of hc.2 0) (FE.j k2 0 1 rfl) (FW.j k4 4 1 rfl))⟩ rfl
theorem op_set {c r : zM} {B a b : Int} (ha : I32 a) (hb : I32 b) (hc : OM B c) (hr : OM B r) (hB : B + 110000 ≤ 1000000000) (h : Rel2 B c r) : Rel2 (B + 110000) (f73_1 a b c).2 (f280_1 a b r).2 := by
  obtain ⟨-, k2, -⟩ := q73_1 a b hc.1 hc.2 (by omega) ha hb
  obtain ⟨-, k4, -⟩ := q280_1 a b hr.1 hr.2 (by omega) ha hb
  have hT := set_S ha hb hc hr (by omega) h.1.2.2.1 h.1.2.2.2
  exact h.mk hc k2 k4 (by omega) ⟨(time_fe h.1.1 (FE.j k2 0 11 rfl) (FW.j k4 4 11 rfl)), (h.1.2.1.fe (FE.j k2 0 2 rfl) (FW.j k4 4 2 rfl)), (hT.up (by omega)), (h.1.2.2.2.fe (CB.of hc.2 0) (FE.j k2 0 1 rfl) (FW.j k4 4 1 rfl))⟩ rfl
theorem op_table {c r : zM} {B a b d : Int} (ha : I32 a) (hb : I32 b) (hd : I32 d) (hc : OM B c) (hr : OM B r) (hB : B + 110000 ≤ 1000000000) (h : Rel2 B c r) : (f78_1 a b d c).1 = (f240_1 a b d r).1 ∧ Rel2 (B + 110000) (f78_1 a b d c).2 (f240_1 a b d r).2 := by
  obtain ⟨-, k2, -⟩ := q78_1 a b d hc.1 hc.2 (by omega) ha hb hd
  obtain ⟨-, k4, -⟩ := q240_1 a b d hr.1 hr.2 (by omega) ha hb hd
  have hT := table_T (a := a) (b := b) (d := d) hc hr (by omega) h.1.2.2.1 h.1.2.2.2
  exact ⟨hT.1, h.mk hc k2 k4 (by omega) ⟨(time_fe h.1.1 (FE.j k2 0 11 rfl) (FW.j k4 4 11 rfl)), (h.1.2.1.fe (FE.j k2 0 2 rfl) (FW.j k4 4 2 rfl)), (hT.2.1.up (by omega)), hT.2.2⟩ rfl⟩
theorem op_wipe {c r : zM} {B a : Int} (ha : I32 a) (hc : OM B c) (hr : OM B r) (hB : B + 110000 ≤ 1000000000) (h : Rel2 B c r) : (f83_1 a c).1 = (f244_1 a r).1 ∧ Rel2 (B + 110000) (f83_1 a c).2 (f244_1 a r).2 := by
  obtain ⟨-, k2, -⟩ := q83_1 a hc.1 hc.2 (by omega) ha
  obtain ⟨-, k4, -⟩ := q244_1 a hr.1 hr.2 (by omega) ha
  have hT := wipe_T (a := a) hc hr (by omega) h.1.2.2.1 h.1.2.2.2
  exact ⟨hT.1, h.mk hc k2 k4 (by omega) ⟨(time_fe h.1.1 (FE.j k2 0 11 rfl) (FW.j k4 4 11 rfl)), (h.1.2.1.fe (FE.j k2 0 2 rfl) (FW.j k4 4 2 rfl)), (hT.2.1.up (by omega)), hT.2.2⟩ rfl⟩
theorem op_seal {c r : zM} {B a : Int} (ha : I32 a) (hc : OM B c) (hr : OM B r) (hB : B + 110000 ≤ 1000000000) (h : Rel2 B c r) : (f114_1 a c).1 = (f276_1 a r).1 ∧ Rel2 (B + 110000) (f114_1 a c).2 (f276_1 a r).2 := by
  obtain ⟨-, k2, -⟩ := q114_1 a hc.1 hc.2 (by omega) ha
  obtain ⟨-, k4, -⟩ := q276_1 a hr.1 hr.2 (by omega) ha
  have hT := seal_T (a := a) hc hr (by omega) h.1.2.2.1
  exact ⟨hT.1, h.mk hc k2 k4 (by omega) ⟨(time_fe h.1.1 (FE.j k2 0 11 rfl) (FW.j k4 4 11 rfl)), (h.1.2.1.fe (FE.j k2 0 2 rfl) (FW.j k4 4 2 rfl)), (hT.2.up (by omega)), (h.1.2.2.2.fe (CB.of hc.2 0) (FE.j k2 0 1 rfl) (FW.j k4 4 1 rfl))⟩ rfl⟩
theorem op_open {c r : zM} {B a : Int} (ha : I32 a) (hc : OM B c) (hr : OM B r) (hB : B + 110000 ≤ 1000000000) (h : Rel2 B c r) : (f116_1 a c).1 = (f277_1 a r).1 ∧ Rel2 (B + 110000) (f116_1 a c).2 (f277_1 a r).2 := by
  obtain ⟨-, k2, -⟩ := q116_1 a hc.1 hc.2 (by omega) ha
  obtain ⟨-, k4, -⟩ := q277_1 a hr.1 hr.2 (by omega) ha
  have hT := open_T (a := a) hc hr (by omega) h.1.1 h.1.2.2.1
  exact ⟨hT.1, h.mk hc k2 k4 (by omega) ⟨(time_fe h.1.1 (FE.j k2 0 11 rfl) (FW.j k4 4 11 rfl)), (h.1.2.1.fe (FE.j k2 0 2 rfl) (FW.j k4 4 2 rfl)), (hT.2.up (by omega)), (h.1.2.2.2.fe (CB.of hc.2 0) (FE.j k2 0 1 rfl) (FW.j k4 4 1 rfl))⟩ rfl⟩
theorem op_season {c r : zM} {B a b : Int} (ha : I32 a) (hb : I32 b) (hc : OM B c) (hr : OM B r) (hB : B + 110000 ≤ 1000000000) (h : Rel2 B c r) : (f122_1 a b c).1 = (f245_1 a b r).1 ∧ Rel2 (B + 110000) (f122_1 a b c).2 (f245_1 a b r).2 := by
  obtain ⟨-, k2, -⟩ := q122_1 a b hc.1 hc.2 (by omega) ha hb
  obtain ⟨-, k4, -⟩ := q245_1 a b hr.1 hr.2 (by omega) ha hb
  have hT := season_T (a := a) (b := b) hc hr (by omega) h.1.2.2.1 h.1.2.2.2
  exact ⟨hT.1, h.mk hc k2 k4 (by omega) ⟨(time_fe h.1.1 (FE.j k2 0 11 rfl) (FW.j k4 4 11 rfl)), (h.1.2.1.fe (FE.j k2 0 2 rfl) (FW.j k4 4 2 rfl)), (hT.2.1.up (by omega)), hT.2.2⟩ rfl⟩
theorem op_week {c r : zM} {B a b d : Int} (ha : I32 a) (hb : I32 b) (hd : I32 d) (hc : OM B c) (hr : OM B r) (hB : B + 110000 ≤ 1000000000) (h : Rel2 B c r) : (f124_1 a b d c).1 = (f247_1 a b d r).1 ∧ Rel2 (B + 110000) (f124_1 a b d c).2 (f247_1 a b d r).2 := by
  obtain ⟨-, k2, -⟩ := q124_1 a b d hc.1 hc.2 (by omega) ha hb hd
  obtain ⟨-, k4, -⟩ := q247_1 a b d hr.1 hr.2 (by omega) ha hb hd
  have hT := week_T (a := a) (b := b) (d := d) hc hr (by omega) h.1.2.2.1 h.1.2.2.2
  exact ⟨hT.1, h.mk hc k2 k4 (by omega) ⟨(time_fe h.1.1 (FE.j k2 0 11 rfl) (FW.j k4 4 11 rfl)), (h.1.2.1.fe (FE.j k2 0 2 rfl) (FW.j k4 4 2 rfl)), (hT.2.1.up (by omega)), hT.2.2⟩ rfl⟩
theorem op_special {c r : zM} {B a b : Int} (ha : I32 a) (hb : I32 b) (hc : OM B c) (hr : OM B r) (hB : B + 110000 ≤ 1000000000) (h : Rel2 B c r) : (f125_1 a b c).1 = (f248_1 a b r).1 ∧ Rel2 (B + 110000) (f125_1 a b c).2 (f248_1 a b r).2 := by
  obtain ⟨-, k2, -⟩ := q125_1 a b hc.1 hc.2 (by omega) ha hb
  obtain ⟨-, k4, -⟩ := q248_1 a b hr.1 hr.2 (by omega) ha hb
  have hT := special_T (a := a) (b := b) hc hr (by omega) h.1.2.2.1 h.1.2.2.2
  exact ⟨hT.1, h.mk hc k2 k4 (by omega) ⟨(time_fe h.1.1 (FE.j k2 0 11 rfl) (FW.j k4 4 11 rfl)), (h.1.2.1.fe (FE.j k2 0 2 rfl) (FW.j k4 4 2 rfl)), (hT.2.1.up (by omega)), hT.2.2⟩ rfl⟩
theorem op_move {c r : zM} {B a : Int} (ha : I32 a) (hc : OM B c) (hr : OM B r) (hB : B + 110000 ≤ 1000000000) (h : Rel2 B c r) : (f127_1 a c).1 = (f281_1 a r).1 ∧ Rel2 (B + 110000) (f127_1 a c).2 (f281_1 a r).2 := by
  obtain ⟨-, k2, -⟩ := q127_1 a hc.1 hc.2 (by omega) ha
  obtain ⟨-, k4, -⟩ := q281_1 a hr.1 hr.2 (by omega) ha
  have hT := move_T (a := a) hc hr (by omega) h.1.1 h.1.2.2.1 h.1.2.2.2
  exact ⟨hT.1, h.mk hc k2 k4 (by omega) ⟨hT.2.1, (h.1.2.1.fe (FE.j k2 0 2 rfl) (FW.j k4 4 2 rfl)), (hT.2.2.up (by omega)), (h.1.2.2.2.fe (CB.of hc.2 0) (FE.j k2 0 1 rfl) (FW.j k4 4 1 rfl))⟩ rfl⟩
theorem op_off {c r : zM} {B a : Int} (ha : I32 a) (hc : OM B c) (hr : OM B r) (hB : B + 110000 ≤ 1000000000) (h : Rel2 B c r) : (f130_1 a c).1 = (f282_1 a r).1 ∧ Rel2 (B + 110000) (f130_1 a c).2 (f282_1 a r).2 := by
  obtain ⟨-, k2, -⟩ := q130_1 a hc.1 hc.2 (by omega) ha
  obtain ⟨-, k4, -⟩ := q282_1 a hr.1 hr.2 (by omega) ha
  have hT := off_T (a := a) hc hr (by omega) h.1.1 h.1.2.1
  exact ⟨hT.1, h.mk hc k2 k4 (by omega) ⟨hT.2.1, hT.2.2, ((h.1.2.2.1.fe (FE.j k2 0 4 rfl) (FW.j k4 4 4 rfl)).up (by omega)), (h.1.2.2.2.fe (CB.of hc.2 0) (FE.j k2 0 1 rfl) (FW.j k4 4 1 rfl))⟩ rfl⟩
theorem op_mark {c r : zM} {B a b : Int} (ha : I32 a) (hb : 0 ≤ b ∧ b ≤ 1) (hc : OM B c) (hr : OM B r) (hB : B + 110000 ≤ 1000000000) (h : Rel2 B c r) : Rel2 (B + 110000) (f134_1 a b c).2 (f283_1 a b r).2 := by
  obtain ⟨-, k2, -⟩ := q134_1 a b hc.1 hc.2 (by omega) ha hb
  obtain ⟨-, k4, -⟩ := q283_1 a b hr.1 hr.2 (by omega) ha hb
  exact h.mk hc k2 k4 (by omega) ⟨(time_fe h.1.1 (FE.j k2 0 11 rfl) (FW.j k4 4 11 rfl)), (h.1.2.1.fe (FE.j k2 0 2 rfl) (FW.j k4 4 2 rfl)), ((h.1.2.2.1.fe (FE.j k2 0 4 rfl) (FW.j k4 4 4 rfl)).up (by omega)), (h.1.2.2.2.fe (CB.of hc.2 0) (FE.j k2 0 1 rfl) (FW.j k4 4 1 rfl))⟩ rfl
theorem op_prepaid {c r : zM} {B a : Int} (ha : 0 ≤ a ∧ a ≤ 1) (hc : OM B c) (hr : OM B r) (hB : B + 110000 ≤ 1000000000) (h : Rel2 B c r) : Rel2 (B + 110000) (f135_1 a c).2 (f284_1 a r).2 := by
  obtain ⟨-, k2, -⟩ := q135_1 a hc.1 hc.2 (by omega) ha
  obtain ⟨-, k4, -⟩ := q284_1 a hr.1 hr.2 (by omega) ha
  exact h.mk hc k2 k4 (by omega) ⟨(time_fe h.1.1 (FE.j k2 0 11 rfl) (FW.j k4 4 11 rfl)), (h.1.2.1.fe (FE.j k2 0 2 rfl) (FW.j k4 4 2 rfl)), ((h.1.2.2.1.fe (FE.j k2 0 4 rfl) (FW.j k4 4 4 rfl)).up (by omega)), (h.1.2.2.2.fe (CB.of hc.2 0) (FE.j k2 0 1 rfl) (FW.j k4 4 1 rfl))⟩ rfl
theorem op_pay {c r : zM} {B a : Int} (ha : I32 a) (hc : OM B c) (hr : OM B r) (hB : B + 110000 ≤ 1000000000) (h : Rel2 B c r) : Rel2 (B + 110000) (f136_1 a c).2 (f285_1 a r).2 := by
  obtain ⟨-, k2, -⟩ := q136_1 a hc.1 hc.2 (by omega) ha
  obtain ⟨-, k4, -⟩ := q285_1 a hr.1 hr.2 (by omega) ha
  exact h.mk hc k2 k4 (by omega) ⟨(time_fe h.1.1 (FE.j k2 0 11 rfl) (FW.j k4 4 11 rfl)), (h.1.2.1.fe (FE.j k2 0 2 rfl) (FW.j k4 4 2 rfl)), ((h.1.2.2.1.fe (FE.j k2 0 4 rfl) (FW.j k4 4 4 rfl)).up (by omega)), (h.1.2.2.2.fe (CB.of hc.2 0) (FE.j k2 0 1 rfl) (FW.j k4 4 1 rfl))⟩ rfl
theorem op_bill {c r : zM} {B : Int} (hc : OM B c) (hr : OM B r) (hB : B + 110000 ≤ 1000000000) (h : Rel2 B c r) : Rel2 (B + 110000) (f137_1 c).2 (f286_1 r).2 := by
  obtain ⟨-, k2, -⟩ := q137_1 hc.1 hc.2 (by omega)
  obtain ⟨-, k4, -⟩ := q286_1 hr.1 hr.2 (by omega)
  exact h.mk hc k2 k4 (by omega) ⟨(time_fe h.1.1 (FE.j k2 0 11 rfl) (FW.j k4 4 11 rfl)), (h.1.2.1.fe (FE.j k2 0 2 rfl) (FW.j k4 4 2 rfl)), ((h.1.2.2.1.fe (FE.j k2 0 4 rfl) (FW.j k4 4 4 rfl)).up (by omega)), (h.1.2.2.2.fe (CB.of hc.2 0) (FE.j k2 0 1 rfl) (FW.j k4 4 1 rfl))⟩ rfl
theorem op_feed {c r : zM} {B a b d e f : Int} (ha : I32 a) (hb : I32 b) (hd : I32 d) (he : I32 e) (hf : I32 f) (hc : OM B c) (hr : OM B r) (hB : B + 110000 ≤ 1000000000) (h : Rel2 B c r) : (f85_1 a b d e f c).1 = (f256_1 a b d e f r).1 ∧ Rel2 (B + 110000) (f85_1 a b d e f c).2 (f256_1 a b d e f r).2 := by
  obtain ⟨-, k2, -⟩ := q85_1 a b d e f hc.1 hc.2 (by omega) ha hb hd he hf
  obtain ⟨-, k4, -⟩ := q256_1 a b d e f hr.1 hr.2 (by omega) ha hb hd he hf
  have hT := feed_T (a := a) (b := b) (d := d) (e := e) (f := f) hc h.2.2.2.1
  exact ⟨hT.1, h.mk3 k2 k4 (by omega) ⟨(time_fe h.1.1 (FE.j k2 0 11 rfl) (FW.j k4 4 11 rfl)), (h.1.2.1.fe (FE.j k2 0 2 rfl) (FW.j k4 4 2 rfl)), ((h.1.2.2.1.fe (FE.j k2 0 4 rfl) (FW.j k4 4 4 rfl)).up (by omega)), (h.1.2.2.2.fe (CB.of hc.2 0) (FE.j k2 0 1 rfl) (FW.j k4 4 1 rfl))⟩ hT.2 (h.2.2.2.2.fe k2 k4 rfl rfl) rfl rfl rfl rfl rfl⟩
theorem op_end {c r : zM} {B a : Int} (ha : I32 a) (hc : OM B c) (hr : OM B r) (hB : B + 110000 ≤ 1000000000) (h : Rel2 B c r) : (f88_1 a c).1 = (f258_1 a r).1 ∧ Rel2 (B + 110000) (f88_1 a c).2 (f258_1 a r).2 := by
  obtain ⟨-, k2, -⟩ := q88_1 a hc.1 hc.2 (by omega) ha
  obtain ⟨-, k4, -⟩ := q258_1 a hr.1 hr.2 (by omega) ha
  have hT := end_T (a := a) h.2.2.2.1
  exact ⟨hT.1, h.mk3 k2 k4 (by omega) ⟨(time_fe h.1.1 (FE.j k2 0 11 rfl) (FW.j k4 4 11 rfl)), (h.1.2.1.fe (FE.j k2 0 2 rfl) (FW.j k4 4 2 rfl)), ((h.1.2.2.1.fe (FE.j k2 0 4 rfl) (FW.j k4 4 4 rfl)).up (by omega)), (h.1.2.2.2.fe (CB.of hc.2 0) (FE.j k2 0 1 rfl) (FW.j k4 4 1 rfl))⟩ hT.2 (h.2.2.2.2.fe k2 k4 rfl rfl) rfl rfl rfl rfl rfl⟩
theorem op_calendar {c r : zM} {B : Int} (hc : OM B c) (hr : OM B r) (hB : B + 110000 ≤ 1000000000) (h : Rel2 B c r) : (f90_1 c).1 = (f260_1 r).1 ∧ Rel2 (B + 110000) (f90_1 c).2 (f260_1 r).2 := by
  obtain ⟨-, k2, -⟩ := q90_1 hc.1 hc.2 (by omega)
  obtain ⟨-, k4, -⟩ := q260_1 hr.1 hr.2 (by omega)
  obtain ⟨g1, g2, g3, g4, g5, -, g7, -, g9⟩ := calendar_T hc hr (by omega) h.1.2.2.1 h.1.2.2.2 h.2.2.2.1
  refine ⟨g1, h.mk3 k2 k4 (by omega) ⟨?_, ?_, g2.up (by omega), g3⟩ g4 g5 rfl rfl rfl rfl rfl⟩
  · rw [g7 8 9 (by omega) (by omega), g9 0 (by omega) (by omega) (by omega) (by omega)]
    exact h.1.1
  · unfold R2
    rw [g7 19 3 (by omega) (by omega), g7 19 4 (by omega) (by omega), g7 19 5 (by omega) (by omega), g9 1 (by omega) (by omega) (by omega) (by omega), g9 2 (by omega) (by omega) (by omega) (by omega), g9 3 (by omega) (by omega) (by omega) (by omega)]
    exact h.1.2.1
theorem op_would {c r : zM} {B a b : Int} (ha : I32 a) (hb : I32 b) (hc : OM B c) (hr : OM B r) (hB : B + 110000 ≤ 1000000000) (h : Rel2 B c r) : Rel2 (B + 110000) (f170_1 a b c).2 (f302_1 a b r).2 := by
  obtain ⟨-, k2, -⟩ := q170_1 a b hc.1 hc.2 (by omega) ha hb
  obtain ⟨-, k4, -⟩ := q302_1 a b hr.1 hr.2 (by omega) ha hb
  exact h.mk hc k2 k4 (by omega) ((h.1.all (CB.of hc.2 0) (fun n => FE.g k2 0 n rfl) (would_w (a := a) (b := b) hr (by omega))).up (by omega)) rfl
theorem op_lasts {c r : zM} {B : Int} (hc : OM B c) (hr : OM B r) (hB : B + 110000 ≤ 1000000000) (h : Rel2 B c r) : Rel2 (B + 110000) (f184_1 c).2 (f309_1 r).2 := by
  obtain ⟨-, k2, -⟩ := q184_1 hc.1 hc.2 (by omega)
  obtain ⟨-, k4, -⟩ := q309_1 hr.1 hr.2 (by omega)
  exact h.mk hc k2 k4 (by omega) ((h.1.all (CB.of hc.2 0) (fun n => FE.g k2 0 n rfl) (lasts_w hr (by omega))).up (by omega)) rfl
theorem op_image {c r : zM} {B a : Int} (ha : 0 ≤ a ∧ a ≤ 1) (hc : OM B c) (hr : OM B r) (hB : B + 110000 ≤ 1000000000) (h : Rel2 B c r) : (f195_1 a c).1 = (f314_1 a r).1 ∧ Rel2 (B + 110000) (f195_1 a c).2 (f314_1 a r).2 := by
  have hf : 0 ≤ c 4 40 4 ∧ c 4 40 4 ≤ 1 := r40_4 hc.2.o 4
  obtain ⟨h1, h2, h3, h4, h5⟩ := id h
  unfold f195_1 f314_1
  simp only [zs_a]
  by_cases h0 : a = 0
  · rw [if_pos h0, if_pos h0]
    by_cases h6 : c 4 40 4 = 0
    · rw [if_pos h6, if_pos (by omega)]
      exact ⟨h6, h.up (by omega)⟩
    · rw [if_neg h6, if_neg (by omega)]
      have hq := f171_1_c (show 0 ≠ 1 by decide) c
      have e4 : f171_1 0 1 c 4 = c 4 := hq.1 4 (by decide)
      have e1 : f171_1 0 1 c 1 = c 1 := hq.1 1 (by decide)
      have w3 : z_upd (z_cpy r 4 45 4 47 0 0 1619) 4 44 3 1 4 44 3 = 1 := by rw [zu_row, fu_s]
      have w47 : z_upd (z_cpy r 4 45 4 47 0 0 1619) 4 44 3 1 4 47 = r 4 47 := by rw [zu_k _ _ _ (by decide), cpy_k _ (.inr (by decide))]
      have w48 : z_upd (z_cpy r 4 45 4 47 0 0 1619) 4 44 3 1 4 48 = r 4 48 := by rw [zu_k _ _ _ (by decide), cpy_k _ (.inr (by decide))]
      have w44 : ∀ i, i ≠ 3 → z_upd (z_cpy r 4 45 4 47 0 0 1619) 4 44 3 1 4 44 i = r 4 44 i := fun i hi => by rw [zu_row, fu_i _ _ hi, cpy_k _ (.inr (by decide))]
      refine ⟨?_, ?_, ?_, fun _ => ?_, ?_, ?_⟩
      · try dsimp only
        rw [e4]
        omega
      · refine ((h3 (by omega)).all (CB.of hc.2 1) (fun n => copy_FE (show 0 ≠ 1 by decide) c n) (fun i i0 i1 => ?_)).up (by omega)
        try dsimp only
        rw [zu_k _ _ _ (by decide), cpy_in _ (by omega), show i - 0 + 0 = i by omega]
      · try dsimp only
        rw [e4, w3]
        omega
      · try dsimp only
        rw [e1, w47]
        exact (h3 (by omega)).up (by omega)
      · unfold TA
        try dsimp only
        rw [e4, w48, w44 5 (by decide)]
        exact h4
      · unfold FT
        try dsimp only
        rw [e4, w44 6 (by decide), w44 7 (by decide)]
        exact h5
  · rw [if_neg h0, if_neg h0]
    have hq := f171_1_c (show 1 ≠ 0 by decide) c
    have e4 : f171_1 1 0 c 4 = c 4 := hq.1 4 (by decide)
    have e0 : f171_1 1 0 c 0 = c 0 := hq.1 0 (by decide)
    have x4 : ∀ k i, k ≠ 40 → z_upd (f171_1 1 0 c) 4 40 4 1 4 k i = c 4 k i := fun k i hk => by rw [zu_k _ _ _ hk, e4]
    have xg : ∀ g, g ≠ 4 → z_upd (f171_1 1 0 c) 4 40 4 1 g = f171_1 1 0 c g := fun g hg => zu_g _ _ _ hg
    have w45 : z_upd (z_cpy r 4 47 4 45 0 0 1619) 4 44 3 1 4 45 = r 4 45 := by rw [zu_k _ _ _ (by decide), cpy_k _ (.inr (by decide))]
    have w48 : z_upd (z_cpy r 4 47 4 45 0 0 1619) 4 44 3 1 4 48 = r 4 48 := by rw [zu_k _ _ _ (by decide), cpy_k _ (.inr (by decide))]
    have w44 : ∀ i, i ≠ 3 → z_upd (z_cpy r 4 47 4 45 0 0 1619) 4 44 3 1 4 44 i = r 4 44 i := fun i hi => by rw [zu_row, fu_i _ _ hi, cpy_k _ (.inr (by decide))]
    refine ⟨?_, ?_, ?_, fun _ => ?_, ?_, ?_⟩
    · try dsimp only
      rw [zu_row, fu_s]
    · try dsimp only
      rw [xg 0 (by decide), e0, w45]
      exact h1.up (by omega)
    · try dsimp only
      rw [zu_row, fu_s, zu_row, fu_s]
    · try dsimp only
      rw [xg 1 (by decide)]
      refine (h1.all (CB.of hc.2 0) (fun n => copy_FE (show 1 ≠ 0 by decide) c n) (fun i i0 i1 => ?_)).up (by omega)
      rw [zu_k _ _ _ (by decide), cpy_in _ (by omega), show i - 0 + 0 = i by omega]
    · unfold TA
      try dsimp only
      rw [x4 41 3 (by decide), w48, w44 5 (by decide)]
      refine ⟨h4.1, fun i i0 i1 => ?_⟩
      rw [x4 42 i (by decide)]
      exact h4.2 i i0 i1
    · unfold FT
      try dsimp only
      rw [x4 41 4 (by decide), x4 41 5 (by decide), w44 6 (by decide), w44 7 (by decide)]
      exact h5
theorem an_fault {c r : zM} {B a : Int} (_hc : OM B c) (_hB : B ≤ 1000000000) (h : Rel2 B c r) : f113_1 a c = f259_1 a r := fault_T h.2.2.2.2
theorem an_tariffAt {c r : zM} {B a : Int} (hc : OM B c) (_hB : B ≤ 1000000000) (h : Rel2 B c r) : f148_1 a c = f250_1 a r := by
  unfold f148_1 f250_1
  by_cases h0 : a < 0
  · rw [if_pos h0, if_pos h0]
  rw [if_neg h0, if_neg h0]
  by_cases h1 : 2000000000 < a
  · rw [if_pos h1, if_neg (by omega)]
  · rw [if_neg h1, if_pos (by omega), zn_a, zn_a]
    exact tf_eq h.1.2.2.2 (CB.of hc.2 0) (by omega)
theorem an_tableOf {c r : zM} {B a : Int} (hc : OM B c) (_hB : B ≤ 1000000000) (h : Rel2 B c r) : f149_1 a c = f251_1 a r := by
  unfold f149_1 f251_1
  by_cases h0 : a < 0
  · rw [if_pos h0, if_pos h0]
  rw [if_neg h0, if_neg h0]
  by_cases h1 : 23148 < a
  · rw [if_pos h1, if_neg (by omega)]
  · rw [if_neg h1, if_pos (by omega), zn_a, zn_a]
    exact (tb_eq h.1.2.2.2 (CB.of hc.2 0) (by omega)).1
theorem an_switching {c r : zM} {B a b d : Int} (hc : OM B c) (_hB : B ≤ 1000000000) (h : Rel2 B c r) : f151_1 a b d c = f252_1 a b d r := by
  unfold f151_1 f252_1
  obtain ⟨t1, t2, -⟩ := h.1.2.2.2.1
  by_cases h0 : a < 0
  · rw [if_pos h0, if_pos h0]
  rw [if_neg h0, if_neg h0]
  by_cases h1 : 8 ≤ a
  · rw [if_pos h1, if_neg (show ¬ a ≤ 7 by omega)]
  rw [if_neg h1, if_pos (show a ≤ 7 by omega), ← t1 a (by omega) (by omega)]
  by_cases h2 : b = -1
  · rw [if_pos h2, if_pos h2]
  rw [if_neg h2, if_neg h2]
  by_cases h3 : b < 0
  · rw [if_pos h3, if_pos h3]
  rw [if_neg h3, if_neg h3]
  by_cases h4 : c 0 12 a ≤ b
  · rw [if_pos h4, if_neg (show ¬ b ≤ c 0 12 a - 1 by omega)]
  rw [if_neg h4, if_pos (show b ≤ c 0 12 a - 1 by omega)]
  by_cases h5 : d < 0
  · rw [if_pos h5, if_pos h5]
  rw [if_neg h5, if_neg h5]
  by_cases h6 : d ≤ 1
  case neg => rw [if_neg h6, if_neg h6]
  rw [if_pos h6, if_pos h6, zn_a]
  obtain ⟨u1, u2⟩ := t2 a b (by omega) (by omega) (by omega) (by omega)
  by_cases h7 : d = 0
  · rw [if_pos h7, if_pos h7, u1]
  · rw [if_neg h7, if_neg h7, u2]
theorem an_next {c r : zM} {B a : Int} (hc : OM B c) (hB : B ≤ 1000000000) (h : Rel2 B c r) : f152_1 a c = f254_1 a r := by
  have tc := hc.t 0
  have e := next_eq h.1.2.2.2 (CB.of hc.2 0) tc.1 tc.2 h.1.1.symm
  have hv := q153_1 0 (c 0 8 9) hc.1 hc.2 (by omega) (by omega) tc
  unfold f152_1 f254_1
  simp only [zn_a]
  rw [← e]
  generalize f153_1 0 (c 0 8 9) c = v at hv ⊢
  by_cases h0 : v = -1
  · rw [if_pos h0, if_pos h0]
    repeat' split
    all_goals first | rfl | omega
  · rw [if_neg h0, if_neg h0, tf_eq h.1.2.2.2 (CB.of hc.2 0) (by omega)]
    repeat' split
    all_goals first | rfl | omega
theorem an_holds {c r : zM} {B a b : Int} (hc : OM B c) (_hB : B ≤ 1000000000) (h : Rel2 B c r) : f193_1 a b c = f253_1 a b r := by
  unfold f193_1 f253_1
  by_cases h0 : a < 0
  · rw [if_pos h0, if_pos h0]
  rw [if_neg h0, if_neg h0]
  by_cases h1 : 23148 < a
  · rw [if_pos h1, if_neg (show ¬ a ≤ 23148 by omega)]
  rw [if_neg h1, if_pos (show a ≤ 23148 by omega)]
  by_cases h2 : b < 0
  · rw [if_pos h2, if_pos h2]
  rw [if_neg h2, if_neg h2]
  by_cases h3 : 4 ≤ b
  · rw [if_pos h3, if_neg (show ¬ b ≤ 3 by omega)]
  rw [if_neg h3, if_pos (show b ≤ 3 by omega)]
  simp only [zn_a]
  obtain ⟨e1, e2, e3⟩ := tb_eq h.1.2.2.2 (CB.of hc.2 0) (d := a) (by omega)
  rw [e1]
  exact held_eq h.1.2.2.2 (CB.of hc.2 0) e2 e3
theorem st_phases {m m1 m2 : zM} {B a b v w : Int} (ha : -2147483648 ≤ a ∧ a ≤ 2147483647) (hb : -2147483648 ≤ b ∧ b ≤ 2147483647) (hk : z_mok lL m) (hJ : JB B m) (hB : B + 220000 ≤ 1000000000) (h : Rel2 B m m) (e1 : f16_1 a b m = (v, m1)) (e2 : f202_1 a b m1 = (w, m2)) : v = w ∧ Rel2 (B + 220000) m2 m2 := by
  obtain ⟨k1, k2, -⟩ := q16_1 a b hk hJ (by omega) ha hb
  rw [e1] at k1 k2
  try dsimp only at k1 k2
  have o0 : OM (B + 110000) m := ⟨hk, hJ.up (by omega)⟩
  have o1 : OM (B + 110000) m1 := ⟨k1, k2.jb.up (by omega)⟩
  obtain ⟨-, k4, -⟩ := q202_1 a b o1.1 o1.2 (by omega) ha hb
  rw [e2] at k4
  try dsimp only at k4
  have g := op_phases ha hb o0 o1 (by omega) ((h.rj k2 rfl rfl).up (show B ≤ B + 110000 by omega))
  rw [e1, e2] at g
  try dsimp only at g
  exact ⟨g.1, (g.2.cj k4 rfl rfl).up (by omega)⟩
theorem st_sample {m m1 m2 : zM} {B a b v w : Int} (ha : -2147483648 ≤ a ∧ a ≤ 2147483647) (hb : -2147483648 ≤ b ∧ b ≤ 2147483647) (hk : z_mok lL m) (hJ : JB B m) (hB : B + 220000 ≤ 1000000000) (h : Rel2 B m m) (e1 : f19_1 a b m = (v, m1)) (e2 : f205_1 a b m1 = (w, m2)) : v = w ∧ Rel2 (B + 220000) m2 m2 := by
  obtain ⟨k1, k2, -⟩ := q19_1 a b hk hJ (by omega) ha hb
  rw [e1] at k1 k2
  try dsimp only at k1 k2
  have o0 : OM (B + 110000) m := ⟨hk, hJ.up (by omega)⟩
  have o1 : OM (B + 110000) m1 := ⟨k1, k2.jb.up (by omega)⟩
  obtain ⟨-, k4, -⟩ := q205_1 a b o1.1 o1.2 (by omega) ha hb
  rw [e2] at k4
  try dsimp only at k4
  have g := op_sample ha hb o0 o1 (by omega) ((h.rj k2 rfl rfl).up (show B ≤ B + 110000 by omega))
  rw [e1, e2] at g
  try dsimp only at g
  exact ⟨g.1, (g.2.cj k4 rfl rfl).up (by omega)⟩
theorem st_again {m m1 m2 : zM} {B a v w : Int} (ha : -2147483648 ≤ a ∧ a ≤ 2147483647) (hk : z_mok lL m) (hJ : JB B m) (hB : B + 220000 ≤ 1000000000) (h : Rel2 B m m) (e1 : f69_1 a m = (v, m1)) (e2 : f279_1 a m1 = (w, m2)) : Rel2 (B + 220000) m2 m2 := by
  obtain ⟨k1, k2, -⟩ := q69_1 a hk hJ (by omega) ha
  rw [e1] at k1 k2
  try dsimp only at k1 k2
  have o0 : OM (B + 110000) m := ⟨hk, hJ.up (by omega)⟩
  have o1 : OM (B + 110000) m1 := ⟨k1, k2.jb.up (by omega)⟩
  obtain ⟨-, k4, -⟩ := q279_1 a o1.1 o1.2 (by omega) ha
  rw [e2] at k4
  try dsimp only at k4
  have g := op_again ha o0 o1 (by omega) ((h.rj k2 rfl rfl).up (show B ≤ B + 110000 by omega))
  rw [e1, e2] at g
  try dsimp only at g
  exact (g.cj k4 rfl rfl).up (by omega)
theorem st_set {m m1 m2 : zM} {B a b v w : Int} (ha : -2147483648 ≤ a ∧ a ≤ 2147483647) (hb : -2147483648 ≤ b ∧ b ≤ 2147483647) (hk : z_mok lL m) (hJ : JB B m) (hB : B + 220000 ≤ 1000000000) (h : Rel2 B m m) (e1 : f73_1 a b m = (v, m1)) (e2 : f280_1 a b m1 = (w, m2)) : Rel2 (B + 220000) m2 m2 := by
  obtain ⟨k1, k2, -⟩ := q73_1 a b hk hJ (by omega) ha hb
  rw [e1] at k1 k2
  try dsimp only at k1 k2
  have o0 : OM (B + 110000) m := ⟨hk, hJ.up (by omega)⟩
  have o1 : OM (B + 110000) m1 := ⟨k1, k2.jb.up (by omega)⟩
  obtain ⟨-, k4, -⟩ := q280_1 a b o1.1 o1.2 (by omega) ha hb
  rw [e2] at k4
  try dsimp only at k4
  have g := op_set ha hb o0 o1 (by omega) ((h.rj k2 rfl rfl).up (show B ≤ B + 110000 by omega))
  rw [e1, e2] at g
  try dsimp only at g
  exact (g.cj k4 rfl rfl).up (by omega)
theorem st_table {m m1 m2 : zM} {B a b d v w : Int} (ha : -2147483648 ≤ a ∧ a ≤ 2147483647) (hb : -2147483648 ≤ b ∧ b ≤ 2147483647) (hd : -2147483648 ≤ d ∧ d ≤ 2147483647) (hk : z_mok lL m) (hJ : JB B m) (hB : B + 220000 ≤ 1000000000) (h : Rel2 B m m) (e1 : f78_1 a b d m = (v, m1)) (e2 : f240_1 a b d m1 = (w, m2)) : v = w ∧ Rel2 (B + 220000) m2 m2 := by
  obtain ⟨k1, k2, -⟩ := q78_1 a b d hk hJ (by omega) ha hb hd
  rw [e1] at k1 k2
  try dsimp only at k1 k2
  have o0 : OM (B + 110000) m := ⟨hk, hJ.up (by omega)⟩
  have o1 : OM (B + 110000) m1 := ⟨k1, k2.jb.up (by omega)⟩
  obtain ⟨-, k4, -⟩ := q240_1 a b d o1.1 o1.2 (by omega) ha hb hd
  rw [e2] at k4
  try dsimp only at k4
  have g := op_table ha hb hd o0 o1 (by omega) ((h.rj k2 rfl rfl).up (show B ≤ B + 110000 by omega))
  rw [e1, e2] at g
  try dsimp only at g
  exact ⟨g.1, (g.2.cj k4 rfl rfl).up (by omega)⟩
theorem st_wipe {m m1 m2 : zM} {B a v w : Int} (ha : -2147483648 ≤ a ∧ a ≤ 2147483647) (hk : z_mok lL m) (hJ : JB B m) (hB : B + 220000 ≤ 1000000000) (h : Rel2 B m m) (e1 : f83_1 a m = (v, m1)) (e2 : f244_1 a m1 = (w, m2)) : v = w ∧ Rel2 (B + 220000) m2 m2 := by
  obtain ⟨k1, k2, -⟩ := q83_1 a hk hJ (by omega) ha
  rw [e1] at k1 k2
  try dsimp only at k1 k2
  have o0 : OM (B + 110000) m := ⟨hk, hJ.up (by omega)⟩
  have o1 : OM (B + 110000) m1 := ⟨k1, k2.jb.up (by omega)⟩
  obtain ⟨-, k4, -⟩ := q244_1 a o1.1 o1.2 (by omega) ha
  rw [e2] at k4
  try dsimp only at k4
  have g := op_wipe ha o0 o1 (by omega) ((h.rj k2 rfl rfl).up (show B ≤ B + 110000 by omega))
  rw [e1, e2] at g
  try dsimp only at g
  exact ⟨g.1, (g.2.cj k4 rfl rfl).up (by omega)⟩
theorem st_seal {m m1 m2 : zM} {B a v w : Int} (ha : -2147483648 ≤ a ∧ a ≤ 2147483647) (hk : z_mok lL m) (hJ : JB B m) (hB : B + 220000 ≤ 1000000000) (h : Rel2 B m m) (e1 : f114_1 a m = (v, m1)) (e2 : f276_1 a m1 = (w, m2)) : v = w ∧ Rel2 (B + 220000) m2 m2 := by
  obtain ⟨k1, k2, -⟩ := q114_1 a hk hJ (by omega) ha
  rw [e1] at k1 k2
  try dsimp only at k1 k2
  have o0 : OM (B + 110000) m := ⟨hk, hJ.up (by omega)⟩
  have o1 : OM (B + 110000) m1 := ⟨k1, k2.jb.up (by omega)⟩
  obtain ⟨-, k4, -⟩ := q276_1 a o1.1 o1.2 (by omega) ha
  rw [e2] at k4
  try dsimp only at k4
  have g := op_seal ha o0 o1 (by omega) ((h.rj k2 rfl rfl).up (show B ≤ B + 110000 by omega))
  rw [e1, e2] at g
  try dsimp only at g
  exact ⟨g.1, (g.2.cj k4 rfl rfl).up (by omega)⟩
theorem st_open {m m1 m2 : zM} {B a v w : Int} (ha : -2147483648 ≤ a ∧ a ≤ 2147483647) (hk : z_mok lL m) (hJ : JB B m) (hB : B + 220000 ≤ 1000000000) (h : Rel2 B m m) (e1 : f116_1 a m = (v, m1)) (e2 : f277_1 a m1 = (w, m2)) : v = w ∧ Rel2 (B + 220000) m2 m2 := by
  obtain ⟨k1, k2, -⟩ := q116_1 a hk hJ (by omega) ha
  rw [e1] at k1 k2
  try dsimp only at k1 k2
  have o0 : OM (B + 110000) m := ⟨hk, hJ.up (by omega)⟩
  have o1 : OM (B + 110000) m1 := ⟨k1, k2.jb.up (by omega)⟩
  obtain ⟨-, k4, -⟩ := q277_1 a o1.1 o1.2 (by omega) ha
  rw [e2] at k4
  try dsimp only at k4
  have g := op_open ha o0 o1 (by omega) ((h.rj k2 rfl rfl).up (show B ≤ B + 110000 by omega))
  rw [e1, e2] at g
  try dsimp only at g
  exact ⟨g.1, (g.2.cj k4 rfl rfl).up (by omega)⟩
theorem st_season {m m1 m2 : zM} {B a b v w : Int} (ha : -2147483648 ≤ a ∧ a ≤ 2147483647) (hb : -2147483648 ≤ b ∧ b ≤ 2147483647) (hk : z_mok lL m) (hJ : JB B m) (hB : B + 220000 ≤ 1000000000) (h : Rel2 B m m) (e1 : f122_1 a b m = (v, m1)) (e2 : f245_1 a b m1 = (w, m2)) : v = w ∧ Rel2 (B + 220000) m2 m2 := by
  obtain ⟨k1, k2, -⟩ := q122_1 a b hk hJ (by omega) ha hb
  rw [e1] at k1 k2
  try dsimp only at k1 k2
  have o0 : OM (B + 110000) m := ⟨hk, hJ.up (by omega)⟩
  have o1 : OM (B + 110000) m1 := ⟨k1, k2.jb.up (by omega)⟩
  obtain ⟨-, k4, -⟩ := q245_1 a b o1.1 o1.2 (by omega) ha hb
  rw [e2] at k4
  try dsimp only at k4
  have g := op_season ha hb o0 o1 (by omega) ((h.rj k2 rfl rfl).up (show B ≤ B + 110000 by omega))
  rw [e1, e2] at g
  try dsimp only at g
  exact ⟨g.1, (g.2.cj k4 rfl rfl).up (by omega)⟩
theorem st_week {m m1 m2 : zM} {B a b d v w : Int} (ha : -2147483648 ≤ a ∧ a ≤ 2147483647) (hb : -2147483648 ≤ b ∧ b ≤ 2147483647) (hd : -2147483648 ≤ d ∧ d ≤ 2147483647) (hk : z_mok lL m) (hJ : JB B m) (hB : B + 220000 ≤ 1000000000) (h : Rel2 B m m) (e1 : f124_1 a b d m = (v, m1)) (e2 : f247_1 a b d m1 = (w, m2)) : v = w ∧ Rel2 (B + 220000) m2 m2 := by
  obtain ⟨k1, k2, -⟩ := q124_1 a b d hk hJ (by omega) ha hb hd
  rw [e1] at k1 k2
  try dsimp only at k1 k2
  have o0 : OM (B + 110000) m := ⟨hk, hJ.up (by omega)⟩
  have o1 : OM (B + 110000) m1 := ⟨k1, k2.jb.up (by omega)⟩
  obtain ⟨-, k4, -⟩ := q247_1 a b d o1.1 o1.2 (by omega) ha hb hd
  rw [e2] at k4
  try dsimp only at k4
  have g := op_week ha hb hd o0 o1 (by omega) ((h.rj k2 rfl rfl).up (show B ≤ B + 110000 by omega))
  rw [e1, e2] at g
  try dsimp only at g
  exact ⟨g.1, (g.2.cj k4 rfl rfl).up (by omega)⟩
theorem st_special {m m1 m2 : zM} {B a b v w : Int} (ha : -2147483648 ≤ a ∧ a ≤ 2147483647) (hb : -2147483648 ≤ b ∧ b ≤ 2147483647) (hk : z_mok lL m) (hJ : JB B m) (hB : B + 220000 ≤ 1000000000) (h : Rel2 B m m) (e1 : f125_1 a b m = (v, m1)) (e2 : f248_1 a b m1 = (w, m2)) : v = w ∧ Rel2 (B + 220000) m2 m2 := by
  obtain ⟨k1, k2, -⟩ := q125_1 a b hk hJ (by omega) ha hb
  rw [e1] at k1 k2
  try dsimp only at k1 k2
  have o0 : OM (B + 110000) m := ⟨hk, hJ.up (by omega)⟩
  have o1 : OM (B + 110000) m1 := ⟨k1, k2.jb.up (by omega)⟩
  obtain ⟨-, k4, -⟩ := q248_1 a b o1.1 o1.2 (by omega) ha hb
  rw [e2] at k4
  try dsimp only at k4
  have g := op_special ha hb o0 o1 (by omega) ((h.rj k2 rfl rfl).up (show B ≤ B + 110000 by omega))
  rw [e1, e2] at g
  try dsimp only at g
  exact ⟨g.1, (g.2.cj k4 rfl rfl).up (by omega)⟩
theorem st_move {m m1 m2 : zM} {B a v w : Int} (ha : -2147483648 ≤ a ∧ a ≤ 2147483647) (hk : z_mok lL m) (hJ : JB B m) (hB : B + 220000 ≤ 1000000000) (h : Rel2 B m m) (e1 : f127_1 a m = (v, m1)) (e2 : f281_1 a m1 = (w, m2)) : v = w ∧ Rel2 (B + 220000) m2 m2 := by
  obtain ⟨k1, k2, -⟩ := q127_1 a hk hJ (by omega) ha
  rw [e1] at k1 k2
  try dsimp only at k1 k2
  have o0 : OM (B + 110000) m := ⟨hk, hJ.up (by omega)⟩
  have o1 : OM (B + 110000) m1 := ⟨k1, k2.jb.up (by omega)⟩
  obtain ⟨-, k4, -⟩ := q281_1 a o1.1 o1.2 (by omega) ha
  rw [e2] at k4
  try dsimp only at k4
  have g := op_move ha o0 o1 (by omega) ((h.rj k2 rfl rfl).up (show B ≤ B + 110000 by omega))
  rw [e1, e2] at g
  try dsimp only at g
  exact ⟨g.1, (g.2.cj k4 rfl rfl).up (by omega)⟩
theorem st_off {m m1 m2 : zM} {B a v w : Int} (ha : -2147483648 ≤ a ∧ a ≤ 2147483647) (hk : z_mok lL m) (hJ : JB B m) (hB : B + 220000 ≤ 1000000000) (h : Rel2 B m m) (e1 : f130_1 a m = (v, m1)) (e2 : f282_1 a m1 = (w, m2)) : v = w ∧ Rel2 (B + 220000) m2 m2 := by
  obtain ⟨k1, k2, -⟩ := q130_1 a hk hJ (by omega) ha
  rw [e1] at k1 k2
  try dsimp only at k1 k2
  have o0 : OM (B + 110000) m := ⟨hk, hJ.up (by omega)⟩
  have o1 : OM (B + 110000) m1 := ⟨k1, k2.jb.up (by omega)⟩
  obtain ⟨-, k4, -⟩ := q282_1 a o1.1 o1.2 (by omega) ha
  rw [e2] at k4
  try dsimp only at k4
  have g := op_off ha o0 o1 (by omega) ((h.rj k2 rfl rfl).up (show B ≤ B + 110000 by omega))
  rw [e1, e2] at g
  try dsimp only at g
  exact ⟨g.1, (g.2.cj k4 rfl rfl).up (by omega)⟩
theorem st_mark {m m1 m2 : zM} {B a b v w : Int} (ha : -2147483648 ≤ a ∧ a ≤ 2147483647) (hb : 0 ≤ b ∧ b ≤ 1) (hk : z_mok lL m) (hJ : JB B m) (hB : B + 220000 ≤ 1000000000) (h : Rel2 B m m) (e1 : f134_1 a b m = (v, m1)) (e2 : f283_1 a b m1 = (w, m2)) : Rel2 (B + 220000) m2 m2 := by
  obtain ⟨k1, k2, -⟩ := q134_1 a b hk hJ (by omega) ha hb
  rw [e1] at k1 k2
  try dsimp only at k1 k2
  have o0 : OM (B + 110000) m := ⟨hk, hJ.up (by omega)⟩
  have o1 : OM (B + 110000) m1 := ⟨k1, k2.jb.up (by omega)⟩
  obtain ⟨-, k4, -⟩ := q283_1 a b o1.1 o1.2 (by omega) ha hb
  rw [e2] at k4
  try dsimp only at k4
  have g := op_mark ha hb o0 o1 (by omega) ((h.rj k2 rfl rfl).up (show B ≤ B + 110000 by omega))
  rw [e1, e2] at g
  try dsimp only at g
  exact (g.cj k4 rfl rfl).up (by omega)
theorem st_prepaid {m m1 m2 : zM} {B a v w : Int} (ha : 0 ≤ a ∧ a ≤ 1) (hk : z_mok lL m) (hJ : JB B m) (hB : B + 220000 ≤ 1000000000) (h : Rel2 B m m) (e1 : f135_1 a m = (v, m1)) (e2 : f284_1 a m1 = (w, m2)) : Rel2 (B + 220000) m2 m2 := by
  obtain ⟨k1, k2, -⟩ := q135_1 a hk hJ (by omega) ha
  rw [e1] at k1 k2
  try dsimp only at k1 k2
  have o0 : OM (B + 110000) m := ⟨hk, hJ.up (by omega)⟩
  have o1 : OM (B + 110000) m1 := ⟨k1, k2.jb.up (by omega)⟩
  obtain ⟨-, k4, -⟩ := q284_1 a o1.1 o1.2 (by omega) ha
  rw [e2] at k4
  try dsimp only at k4
  have g := op_prepaid ha o0 o1 (by omega) ((h.rj k2 rfl rfl).up (show B ≤ B + 110000 by omega))
  rw [e1, e2] at g
  try dsimp only at g
  exact (g.cj k4 rfl rfl).up (by omega)
theorem st_pay {m m1 m2 : zM} {B a v w : Int} (ha : -2147483648 ≤ a ∧ a ≤ 2147483647) (hk : z_mok lL m) (hJ : JB B m) (hB : B + 220000 ≤ 1000000000) (h : Rel2 B m m) (e1 : f136_1 a m = (v, m1)) (e2 : f285_1 a m1 = (w, m2)) : Rel2 (B + 220000) m2 m2 := by
  obtain ⟨k1, k2, -⟩ := q136_1 a hk hJ (by omega) ha
  rw [e1] at k1 k2
  try dsimp only at k1 k2
  have o0 : OM (B + 110000) m := ⟨hk, hJ.up (by omega)⟩
  have o1 : OM (B + 110000) m1 := ⟨k1, k2.jb.up (by omega)⟩
  obtain ⟨-, k4, -⟩ := q285_1 a o1.1 o1.2 (by omega) ha
  rw [e2] at k4
  try dsimp only at k4
  have g := op_pay ha o0 o1 (by omega) ((h.rj k2 rfl rfl).up (show B ≤ B + 110000 by omega))
  rw [e1, e2] at g
  try dsimp only at g
  exact (g.cj k4 rfl rfl).up (by omega)
theorem st_bill {m m1 m2 : zM} {B v w : Int} (hk : z_mok lL m) (hJ : JB B m) (hB : B + 220000 ≤ 1000000000) (h : Rel2 B m m) (e1 : f137_1 m = (v, m1)) (e2 : f286_1 m1 = (w, m2)) : Rel2 (B + 220000) m2 m2 := by
  obtain ⟨k1, k2, -⟩ := q137_1 hk hJ (by omega)
  rw [e1] at k1 k2
  try dsimp only at k1 k2
  have o0 : OM (B + 110000) m := ⟨hk, hJ.up (by omega)⟩
  have o1 : OM (B + 110000) m1 := ⟨k1, k2.jb.up (by omega)⟩
  obtain ⟨-, k4, -⟩ := q286_1 o1.1 o1.2 (by omega)
  rw [e2] at k4
  try dsimp only at k4
  have g := op_bill o0 o1 (by omega) ((h.rj k2 rfl rfl).up (show B ≤ B + 110000 by omega))
  rw [e1, e2] at g
  try dsimp only at g
  exact (g.cj k4 rfl rfl).up (by omega)
theorem st_feed {m m1 m2 : zM} {B a b d e f v w : Int} (ha : -2147483648 ≤ a ∧ a ≤ 2147483647) (hb : -2147483648 ≤ b ∧ b ≤ 2147483647) (hd : -2147483648 ≤ d ∧ d ≤ 2147483647) (he : -2147483648 ≤ e ∧ e ≤ 2147483647) (hf : -2147483648 ≤ f ∧ f ≤ 2147483647) (hk : z_mok lL m) (hJ : JB B m) (hB : B + 220000 ≤ 1000000000) (h : Rel2 B m m) (e1 : f85_1 a b d e f m = (v, m1)) (e2 : f256_1 a b d e f m1 = (w, m2)) : v = w ∧ Rel2 (B + 220000) m2 m2 := by
  obtain ⟨k1, k2, -⟩ := q85_1 a b d e f hk hJ (by omega) ha hb hd he hf
  rw [e1] at k1 k2
  try dsimp only at k1 k2
  have o0 : OM (B + 110000) m := ⟨hk, hJ.up (by omega)⟩
  have o1 : OM (B + 110000) m1 := ⟨k1, k2.jb.up (by omega)⟩
  obtain ⟨-, k4, -⟩ := q256_1 a b d e f o1.1 o1.2 (by omega) ha hb hd he hf
  rw [e2] at k4
  try dsimp only at k4
  have g := op_feed ha hb hd he hf o0 o1 (by omega) ((h.rj k2 rfl rfl).up (show B ≤ B + 110000 by omega))
  rw [e1, e2] at g
  try dsimp only at g
  exact ⟨g.1, (g.2.cj k4 rfl rfl).up (by omega)⟩
theorem st_end {m m1 m2 : zM} {B a v w : Int} (ha : -2147483648 ≤ a ∧ a ≤ 2147483647) (hk : z_mok lL m) (hJ : JB B m) (hB : B + 220000 ≤ 1000000000) (h : Rel2 B m m) (e1 : f88_1 a m = (v, m1)) (e2 : f258_1 a m1 = (w, m2)) : v = w ∧ Rel2 (B + 220000) m2 m2 := by
  obtain ⟨k1, k2, -⟩ := q88_1 a hk hJ (by omega) ha
  rw [e1] at k1 k2
  try dsimp only at k1 k2
  have o0 : OM (B + 110000) m := ⟨hk, hJ.up (by omega)⟩
  have o1 : OM (B + 110000) m1 := ⟨k1, k2.jb.up (by omega)⟩
  obtain ⟨-, k4, -⟩ := q258_1 a o1.1 o1.2 (by omega) ha
  rw [e2] at k4
  try dsimp only at k4
  have g := op_end ha o0 o1 (by omega) ((h.rj k2 rfl rfl).up (show B ≤ B + 110000 by omega))
  rw [e1, e2] at g
  try dsimp only at g
  exact ⟨g.1, (g.2.cj k4 rfl rfl).up (by omega)⟩
theorem st_calendar {m m1 m2 : zM} {B v w : Int} (hk : z_mok lL m) (hJ : JB B m) (hB : B + 220000 ≤ 1000000000) (h : Rel2 B m m) (e1 : f90_1 m = (v, m1)) (e2 : f260_1 m1 = (w, m2)) : v = w ∧ Rel2 (B + 220000) m2 m2 := by
  obtain ⟨k1, k2, -⟩ := q90_1 hk hJ (by omega)
  rw [e1] at k1 k2
  try dsimp only at k1 k2
  have o0 : OM (B + 110000) m := ⟨hk, hJ.up (by omega)⟩
  have o1 : OM (B + 110000) m1 := ⟨k1, k2.jb.up (by omega)⟩
  obtain ⟨-, k4, -⟩ := q260_1 o1.1 o1.2 (by omega)
  rw [e2] at k4
  try dsimp only at k4
  have g := op_calendar o0 o1 (by omega) ((h.rj k2 rfl rfl).up (show B ≤ B + 110000 by omega))
  rw [e1, e2] at g
  try dsimp only at g
  exact ⟨g.1, (g.2.cj k4 rfl rfl).up (by omega)⟩
theorem st_would {m m1 m2 : zM} {B a b v w : Int} (ha : -2147483648 ≤ a ∧ a ≤ 2147483647) (hb : -2147483648 ≤ b ∧ b ≤ 2147483647) (hk : z_mok lL m) (hJ : JB B m) (hB : B + 220000 ≤ 1000000000) (h : Rel2 B m m) (e1 : f170_1 a b m = (v, m1)) (e2 : f302_1 a b m1 = (w, m2)) : Rel2 (B + 220000) m2 m2 := by
  obtain ⟨k1, k2, -⟩ := q170_1 a b hk hJ (by omega) ha hb
  rw [e1] at k1 k2
  try dsimp only at k1 k2
  have o0 : OM (B + 110000) m := ⟨hk, hJ.up (by omega)⟩
  have o1 : OM (B + 110000) m1 := ⟨k1, k2.jb.up (by omega)⟩
  obtain ⟨-, k4, -⟩ := q302_1 a b o1.1 o1.2 (by omega) ha hb
  rw [e2] at k4
  try dsimp only at k4
  have g := op_would ha hb o0 o1 (by omega) ((h.rj k2 rfl rfl).up (show B ≤ B + 110000 by omega))
  rw [e1, e2] at g
  try dsimp only at g
  exact (g.cj k4 rfl rfl).up (by omega)
theorem st_lasts {m m1 m2 : zM} {B v w : Int} (hk : z_mok lL m) (hJ : JB B m) (hB : B + 220000 ≤ 1000000000) (h : Rel2 B m m) (e1 : f184_1 m = (v, m1)) (e2 : f309_1 m1 = (w, m2)) : Rel2 (B + 220000) m2 m2 := by
  obtain ⟨k1, k2, -⟩ := q184_1 hk hJ (by omega)
  rw [e1] at k1 k2
  try dsimp only at k1 k2
  have o0 : OM (B + 110000) m := ⟨hk, hJ.up (by omega)⟩
  have o1 : OM (B + 110000) m1 := ⟨k1, k2.jb.up (by omega)⟩
  obtain ⟨-, k4, -⟩ := q309_1 o1.1 o1.2 (by omega)
  rw [e2] at k4
  try dsimp only at k4
  have g := op_lasts o0 o1 (by omega) ((h.rj k2 rfl rfl).up (show B ≤ B + 110000 by omega))
  rw [e1, e2] at g
  try dsimp only at g
  exact (g.cj k4 rfl rfl).up (by omega)
theorem st_image {m m1 m2 : zM} {B a v w : Int} (ha : 0 ≤ a ∧ a ≤ 1) (hk : z_mok lL m) (hJ : JB B m) (hB : B + 220000 ≤ 1000000000) (h : Rel2 B m m) (e1 : f195_1 a m = (v, m1)) (e2 : f314_1 a m1 = (w, m2)) : v = w ∧ Rel2 (B + 220000) m2 m2 := by
  obtain ⟨k1, k2, -⟩ := q195_1 a hk hJ (by omega) ha
  rw [e1] at k1 k2
  try dsimp only at k1 k2
  have o0 : OM (B + 110000) m := ⟨hk, hJ.up (by omega)⟩
  have o1 : OM (B + 110000) m1 := ⟨k1, k2.jb.up (by omega)⟩
  obtain ⟨-, k4, -⟩ := q314_1 a o1.1 o1.2 (by omega) ha
  rw [e2] at k4
  try dsimp only at k4
  have g := op_image ha o0 o1 (by omega) ((h.rj k2 rfl rfl).up (show B ≤ B + 110000 by omega))
  rw [e1, e2] at g
  try dsimp only at g
  exact ⟨g.1, (g.2.cj k4 rfl rfl).up (by omega)⟩
end
section
/-! How both sides hang together on a new object. -/
def kRel (m : zM) : Bool := decide (m 0 8 9 = m 4 45 0) && (decide (m 0 19 3 = m 4 45 1) && (decide (m 0 19 4 = m 4 45 2) && (decide (m 0 19 5 = m 4 45 3) &&
  (decide (m 0 39 0 = m 4 45 1614) && (decide (m 0 39 1 = m 4 45 1615) && (decide (m 0 39 2 = m 4 45 1616) && (decide (m 0 39 4 = m 4 45 1617) && (decide (m 0 39 3 = m 4 45 1618) && (decide (m 0 39 3 = 0) &&
  (((List.range 8).all fun t => decide (m 0 12 t = 0) && decide (m 4 45 (287 + t) = 0)) && (((List.range 4).all fun s => decide (m 0 15 s = m 4 45 (391 + s))) && (((List.range 28).all fun d => decide (m 0 16 d = m 4 45 (395 + d))) &&
  (decide (m 0 11 7 = 0) && (((List.range 365).all fun d => decide (m 4 45 (423 + d) = -1)) &&
  (decide (m 4 40 4 = m 4 44 3) && (decide (m 4 44 3 = 0) && (decide (m 4 41 3 = m 4 44 5) && (decide (m 4 41 3 = 0) && (decide (m 4 41 4 = m 4 44 6) && decide (m 4 41 5 = m 4 44 7))))))))))))))))))))
theorem spN_zero {w : Int → Int} : ∀ n : Nat, (∀ d : Int, 0 ≤ d → d < n → w (423 + d) = -1) → spN w n = 0
  | 0, _ => rfl
  | n + 1, h => by
    unfold spN
    rw [spN_zero n (fun d h0 h1 => h d h0 (by omega)), h n (by omega) (by omega)]
    rfl
theorem rng_all {n : Nat} {p : Nat → Bool} (h : (List.range n).all p = true) (i : Int) (h0 : 0 ≤ i) (h1 : i < n) : ∃ k : Nat, (k : Int) = i ∧ p k = true := ⟨i.toNat, by omega, List.all_eq_true.mp h i.toNat (List.mem_range.mpr (by omega))⟩
theorem kRel_ok {m : zM} (h : kRel m = true) : Rel2 0 m m := by
  unfold kRel at h
  simp only [Bool.and_eq_true, decide_eq_true_eq] at h
  obtain ⟨a1, a2, a3, a4, a5, a6, a7, a8, a9, a10, a11, a12, a13, a14, a15, a16, a17, a18, a19, a20, a21⟩ := h
  have e11 : ∀ t : Int, 0 ≤ t → t < 8 → m 0 12 t = 0 ∧ m 4 45 (287 + t) = 0 := fun t h0 h1 => by
    obtain ⟨k, rfl, hk⟩ := rng_all a11 t h0 h1
    simpa only [Bool.and_eq_true, decide_eq_true_eq] using hk
  have e15 : ∀ d : Int, 0 ≤ d → d < 365 → m 4 45 (423 + d) = -1 := fun t h0 h1 => by
    obtain ⟨k, rfl, hk⟩ := rng_all a15 t h0 h1
    exact of_decide_eq_true hk
  refine ⟨⟨a1, ⟨a2, a3, a4⟩, ⟨a5, a6, a7, a8, a9, by omega, by omega⟩, ⟨fun t h0 h1 => by rw [(e11 t h0 h1).1, (e11 t h0 h1).2], fun t k h0 h1 h2 h3 => ?_, fun t k h0 h1 h2 h3 => ?_⟩, ⟨fun s h0 h1 => ?_, fun d h0 h1 => ?_⟩, fun k h0 h1 => ?_, fun j k h0 h1 h2 => ?_, fun d h0 h1 h2 => ?_, ?_⟩, a16, fun e => ?_, ⟨a18, fun i h0 h1 => ?_⟩, a20, a21⟩
  · rw [(e11 t h0 h1).1] at h3
    omega
  · rw [(e11 t h0 h1).1] at h3
    omega
  · obtain ⟨k, rfl, hk⟩ := rng_all a12 s h0 h1
    exact of_decide_eq_true hk
  · obtain ⟨k, rfl, hk⟩ := rng_all a13 d h0 h1
    exact of_decide_eq_true hk
  · omega
  · omega
  · exact absurd (e15 d h0 h1) h2
  · rw [a14]
    exact spN_zero 365 e15
  · omega
  · omega
end
