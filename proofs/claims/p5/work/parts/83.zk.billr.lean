/-! A bill in the reference. -/
theorem shl286 {k : zM → Int × zM} : ∀ (n : Nat) (y : Int) (m : zM), 45 ≤ y → y ≤ 315 → 315 - y < n → ∃ m', fl286_17_1 k n y m = k m' ∧ (∀ i, 1127 + y ≤ i → i < 1442 → m' 4 45 i = m 4 45 (i + 45)) ∧ (∀ i, (i < 1127 + y ∨ 1442 ≤ i) → m' 4 45 i = m 4 45 i) ∧ ∀ g k, (g ≠ 4 ∨ k ≠ 45) → m' g k = m g k
  | 0, y, m, h0, h1, h2 => by omega
  | n + 1, y, m, h0, h1, h2 => by
    show ∃ m', fl286_17_1_b (fl286_17_1 k n) k y m = k m' ∧ _
    unfold fl286_17_1_b
    by_cases h : 315 ≤ y
    · rw [if_pos h]
      exact ⟨m, rfl, fun i i0 i1 => by omega, fun _ _ => rfl, fun _ _ _ => rfl⟩
    · rw [if_neg h, zs_a]
      obtain ⟨m', e, e1, e2, e3⟩ := shl286 (k := k) n (y + 1) (z_upd m 4 45 (1172 + y - 45) (m 4 45 (1172 + y))) (by omega) (by omega) (by omega)
      refine ⟨m', e, fun i i0 i1 => ?_, fun i hi => ?_, fun g k hk => ?_⟩
      · by_cases z : i = 1127 + y
        · rw [e2 i (by omega), zu_row, show i = 1172 + y - 45 by omega, fu_s, show 1172 + y - 45 + 45 = 1172 + y by omega]
        · rw [e1 i (by omega) i1, zu_row, fu_i _ _ (by omega)]
      · rw [e2 i (by omega), zu_row, fu_i _ _ (by omega)]
      · rw [e3 g k hk]
        rcases hk with hk | hk
        · rw [zu_g _ _ _ hk]
        · rw [zu_k _ _ _ hk]
theorem regs286 {k : zM → Int × zM} {p : Int} (hp : 1172 ≤ p) : ∀ (n : Nat) (y : Int) (m : zM), 0 ≤ y → y ≤ 35 → 35 - y < n → ∃ m', fl286_104_1 k p n y m = k m' ∧ (∀ i, y ≤ i → i < 35 → m' 4 45 (p + (1 + i)) = m 4 45 (60 + i)) ∧ (∀ i, (i < p + 1 + y ∨ p + 36 ≤ i) → m' 4 45 i = m 4 45 i) ∧ ∀ g k, (g ≠ 4 ∨ k ≠ 45) → m' g k = m g k
  | 0, y, m, h0, h1, h2 => by omega
  | n + 1, y, m, h0, h1, h2 => by
    show ∃ m', fl286_104_1_b (fl286_104_1 k p n) k p y m = k m' ∧ _
    unfold fl286_104_1_b
    by_cases h : 35 ≤ y
    · rw [if_pos h]
      exact ⟨m, rfl, fun i i0 i1 => by omega, fun _ _ => rfl, fun _ _ _ => rfl⟩
    · rw [if_neg h, zs_a]
      obtain ⟨m', e, e1, e2, e3⟩ := regs286 (k := k) hp n (y + 1) (z_upd m 4 45 (p + 1 + y) (m 4 45 (60 + y))) (by omega) (by omega) (by omega)
      refine ⟨m', e, fun i i0 i1 => ?_, fun i hi => ?_, fun g k hk => ?_⟩
      · by_cases z : i = y
        · rw [e2 _ (by omega), zu_row, z, show p + (1 + y) = p + 1 + y by omega, fu_s]
        · rw [e1 i (by omega) i1, zu_row, fu_i _ _ (by omega)]
      · rw [e2 i (by omega), zu_row, fu_i _ _ (by omega)]
      · rw [e3 g k hk]
        rcases hk with hk | hk
        · rw [zu_g _ _ _ hk]
        · rw [zu_k _ _ _ hk]
theorem grt286 {k : zM → Int × zM} {p : Int} (hp : 1172 ≤ p) : ∀ (n : Nat) (y : Int) (m : zM), 0 ≤ y → y ≤ 4 → 4 - y < n → ∃ m', fl286_137_1 k p n y m = k m' ∧ (∀ i, y ≤ i → i < 4 → m' 4 45 (p + (36 + i)) = m 4 45 (32 + i) ∧ m' 4 45 (32 + i) = -1 ∧ m' 4 45 (36 + i) = -1) ∧ (∀ i, (i < 32 + y ∨ (36 ≤ i ∧ i < 36 + y) ∨ 40 ≤ i) → (i < p + 36 + y ∨ p + 40 ≤ i) → m' 4 45 i = m 4 45 i) ∧ ∀ g k, (g ≠ 4 ∨ k ≠ 45) → m' g k = m g k
  | 0, y, m, h0, h1, h2 => by omega
  | n + 1, y, m, h0, h1, h2 => by
    show ∃ m', fl286_137_1_b (fl286_137_1 k p n) k p y m = k m' ∧ _
    unfold fl286_137_1_b
    by_cases h : 4 ≤ y
    · rw [if_pos h]
      exact ⟨m, rfl, fun i i0 i1 => by omega, fun _ _ _ => rfl, fun _ _ _ => rfl⟩
    · rw [if_neg h, zs_a, zs_a, zs_a]
      have ww : ∀ i, z_upd (z_upd (z_upd m 4 45 (p + 36 + y) (m 4 45 (32 + y))) 4 45 (32 + y) (-1)) 4 45 (36 + y) (-1) 4 45 i = if i = 36 + y then -1 else if i = 32 + y then -1 else if i = p + 36 + y then m 4 45 (32 + y) else m 4 45 i := fun i => by rw [zu_row, zu_row, zu_row]; rfl
      have wg : ∀ g k, (g ≠ 4 ∨ k ≠ 45) → z_upd (z_upd (z_upd m 4 45 (p + 36 + y) (m 4 45 (32 + y))) 4 45 (32 + y) (-1)) 4 45 (36 + y) (-1) g k = m g k := fun g k hk => by
        rcases hk with hk | hk
        · rw [zu_g _ _ _ hk, zu_g _ _ _ hk, zu_g _ _ _ hk]
        · rw [zu_k _ _ _ hk, zu_k _ _ _ hk, zu_k _ _ _ hk]
      generalize z_upd (z_upd (z_upd m 4 45 (p + 36 + y) (m 4 45 (32 + y))) 4 45 (32 + y) (-1)) 4 45 (36 + y) (-1) = m1 at ww wg ⊢
      obtain ⟨m', e, e1, e2, e3⟩ := grt286 (k := k) hp n (y + 1) m1 (by omega) (by omega) (by omega)
      refine ⟨m', e, fun i i0 i1 => ?_, fun i hi hi2 => ?_, fun g k hk => by rw [e3 g k hk, wg g k hk]⟩
      · by_cases z : i = y
        · subst z
          rw [e2 (p + (36 + i)) (by omega) (by omega), e2 (32 + i) (by omega) (by omega), e2 (36 + i) (by omega) (by omega), ww (p + (36 + i)), ww (32 + i), ww (36 + i), if_neg (show ¬ p + (36 + i) = 36 + i by omega), if_neg (show ¬ p + (36 + i) = 32 + i by omega), if_pos (show p + (36 + i) = p + 36 + i by omega), if_neg (show ¬ 32 + i = 36 + i by omega), if_pos (show 32 + i = 32 + i from rfl), if_pos (show 36 + i = 36 + i from rfl)]
          exact ⟨rfl, rfl, rfl⟩
        · obtain ⟨x1, x2, x3⟩ := e1 i (by omega) i1
          rw [x1, x2, x3, ww, if_neg (by omega), if_neg (by omega), if_neg (by omega)]
          exact ⟨rfl, rfl, rfl⟩
      · rw [e2 i (by omega) (by omega), ww, if_neg (by omega), if_neg (by omega), if_neg (by omega)]
/-- a bill is written at place v -/
theorem ent286 (m : zM) {p : Int} (hp : 1172 ≤ p ∧ p ≤ 1442) :
    ∃ r', (zs (z_upd m 4 45 18 ((m 4 45 18) + 1)) fun m509 => zs (z_upd m509 4 45 p (m509 4 45 0)) fun m512 => fl286_104_1 (fun m514 => fl286_137_1 (fun m518 => zs (f223_1 24 0 m518) fun m522 => ((m522 4 45 18), m522)) p (zfu 5) 0 m514) p (zfu 36) 0 m512).2 = f223_1 24 0 r' ∧
      r' 4 45 18 = m 4 45 18 + 1 ∧ r' 4 45 p = m 4 45 0 ∧ (∀ k, 0 ≤ k → k < 35 → r' 4 45 (p + (1 + k)) = m 4 45 (60 + k)) ∧ (∀ k, 0 ≤ k → k < 4 → r' 4 45 (p + (36 + k)) = m 4 45 (32 + k) ∧ r' 4 45 (32 + k) = -1 ∧ r' 4 45 (36 + k) = -1) ∧ (∀ i, i ≠ 18 → (i < 32 ∨ 39 < i) → (i < p ∨ p + 40 ≤ i) → r' 4 45 i = m 4 45 i) ∧ ∀ g k, (g ≠ 4 ∨ k ≠ 45) → r' g k = m g k := by
  rw [zs_a, zs_a]
  have w1 : ∀ i, z_upd (z_upd m 4 45 18 (m 4 45 18 + 1)) 4 45 p (z_upd m 4 45 18 (m 4 45 18 + 1) 4 45 0) 4 45 i = if i = p then m 4 45 0 else if i = 18 then m 4 45 18 + 1 else m 4 45 i := fun i => by
    have e : z_upd m 4 45 18 (m 4 45 18 + 1) 4 45 0 = m 4 45 0 := by rw [zu_row, fu_i _ _ (by decide)]
    rw [e, zu_row, zu_row]
    rfl
  have g1 : ∀ g k, (g ≠ 4 ∨ k ≠ 45) → z_upd (z_upd m 4 45 18 (m 4 45 18 + 1)) 4 45 p (z_upd m 4 45 18 (m 4 45 18 + 1) 4 45 0) g k = m g k := fun g k hk => by
    rcases hk with hk | hk
    · rw [zu_g _ _ _ hk, zu_g _ _ _ hk]
    · rw [zu_k _ _ _ hk, zu_k _ _ _ hk]
  generalize z_upd (z_upd m 4 45 18 (m 4 45 18 + 1)) 4 45 p (z_upd m 4 45 18 (m 4 45 18 + 1) 4 45 0) = m1 at w1 g1 ⊢
  obtain ⟨m2, e2, a1, a2, a3⟩ := regs286 (k := fun m514 => fl286_137_1 (fun m518 => zs (f223_1 24 0 m518) fun m522 => ((m522 4 45 18), m522)) p (zfu 5) 0 m514) hp.1 (zfu 36) 0 m1 (by omega) (by omega) (by rw [zfu_eq]; omega)
  rw [e2]
  obtain ⟨m3, e3, b1, b2, b3⟩ := grt286 (k := fun m518 => zs (f223_1 24 0 m518) fun m522 => ((m522 4 45 18), m522)) hp.1 (zfu 5) 0 m2 (by omega) (by omega) (by rw [zfu_eq]; omega)
  rw [e3, zs_a]
  have o2 : ∀ i, (i < p ∨ p + 36 ≤ i) → i ≠ 18 → m2 4 45 i = m 4 45 i := fun i hi h18 => by rw [a2 i (by omega), w1, if_neg (by omega), if_neg h18]
  refine ⟨m3, rfl, ?_, ?_, fun k k0 k1 => ?_, fun k k0 k1 => ?_, fun i h18 h32 hp2 => ?_, fun g k hk => by rw [b3 g k hk, a3 g k hk, g1 g k hk]⟩
  · rw [b2 18 (by omega) (by omega), a2 18 (by omega), w1, if_neg (by omega), if_pos rfl]
  · rw [b2 p (by omega) (by omega), a2 p (by omega), w1, if_pos rfl]
  · rw [b2 _ (by omega) (by omega), a1 k k0 k1, w1, if_neg (by omega), if_neg (by omega)]
  · obtain ⟨x1, x2, x3⟩ := b1 k k0 k1
    rw [x1, x2, x3, o2 _ (by omega) (by omega)]
    exact ⟨rfl, rfl, rfl⟩
  · rw [b2 i (by omega) (by omega), o2 i (by omega) h18]
theorem bill_r {r : zM} (h18 : 0 ≤ r 4 45 18) :
    ∃ r', (f286_1 r).2 = f223_1 24 0 r' ∧ r' 4 45 18 = r 4 45 18 + 1 ∧ r' 4 45 (bp (min (r 4 45 18) 6) 0) = r 4 45 0 ∧ (∀ k, 0 ≤ k → k < 35 → r' 4 45 (bp (min (r 4 45 18) 6) (1 + k)) = r 4 45 (60 + k)) ∧ (∀ k, 0 ≤ k → k < 4 → r' 4 45 (bp (min (r 4 45 18) 6) (36 + k)) = r 4 45 (32 + k) ∧ r' 4 45 (32 + k) = -1 ∧ r' 4 45 (36 + k) = -1) ∧
      (∀ e k, 0 ≤ e → e < min (r 4 45 18) 6 → 0 ≤ k → k < 45 → r' 4 45 (bp e k) = r 4 45 (bp (e + if r 4 45 18 < 7 then 0 else 1) k)) ∧ (∀ i, i ≠ 18 → (i < 32 ∨ 39 < i) → (i < 1172 ∨ 1486 < i) → r' 4 45 i = r 4 45 i) ∧ ∀ g k, (g ≠ 4 ∨ k ≠ 45) → r' g k = r g k := by
  unfold f286_1
  by_cases h : r 4 45 18 < 7
  · rw [if_pos h]
    obtain ⟨r', e, a1, a2, a3, a4, a5, a6⟩ := ent286 r (p := 1172 + 45 * r 4 45 18) (by omega)
    refine ⟨r', e, a1, ?_, fun k k0 k1 => ?_, fun k k0 k1 => ?_, fun ee k e0 e1 k0 k1 => ?_, fun i i0 i1 i2 => a5 i i0 i1 (by omega), a6⟩
    · rw [← a2]
      unfold bp
      congr 1
      omega
    · rw [← a3 k k0 k1]
      unfold bp
      congr 1
      omega
    · rw [← (a4 k k0 k1).1]
      refine ⟨?_, (a4 k k0 k1).2⟩
      unfold bp
      congr 1
      omega
    · rw [if_pos h, Int.add_zero]
      exact a5 _ (by unfold bp; omega) (by unfold bp; omega) (by unfold bp; omega)
  · rw [if_neg h]
    obtain ⟨m1, e1, s1, s2, s3⟩ := shl286 (k := fun m526 =>
      if (m526 4 45 18) < 7 then
      (zs (z_upd m526 4 45 18 ((m526 4 45 18) + 1)) fun m554 =>
      zs (z_upd m554 4 45 (1172 + (45 * (m526 4 45 18))) (m554 4 45 0)) fun m557 =>
      fl286_104_1 (fun m559 =>
      fl286_137_1 (fun m563 =>
      zs (f223_1 24 0 m563) fun m567 =>
      ((m567 4 45 18), m567)) (1172 + (45 * (m526 4 45 18))) (zfu 5) 0 m559) (1172 + (45 * (m526 4 45 18))) (zfu 36) 0 m557)
      else
      (zs (z_upd m526 4 45 18 ((m526 4 45 18) + 1)) fun m534 =>
      zs (z_upd m534 4 45 (1172 + (45 * 6)) (m534 4 45 0)) fun m537 =>
      fl286_104_1 (fun m539 =>
      fl286_137_1 (fun m543 =>
      zs (f223_1 24 0 m543) fun m547 =>
      ((m547 4 45 18), m547)) (1172 + (45 * 6)) (zfu 5) 0 m539) (1172 + (45 * 6)) (zfu 36) 0 m537)) (zfu 271) 45 r (by omega) (by omega) (by rw [zfu_eq]; omega)
    rw [e1]
    have m18 : m1 4 45 18 = r 4 45 18 := s2 18 (by omega)
    rw [if_neg (show ¬ m1 4 45 18 < 7 by omega)]
    obtain ⟨r', e, a1, a2, a3, a4, a5, a6⟩ := ent286 m1 (p := 1172 + 45 * 6) (by omega)
    refine ⟨r', e, by rw [a1, m18], ?_, fun k k0 k1 => ?_, fun k k0 k1 => ?_, fun ee k e0 e1 k0 k1 => ?_, fun i i0 i1 i2 => by rw [a5 i i0 i1 (by omega), s2 i (by omega)], fun g k hk => by rw [a6 g k hk, s3 g k hk]⟩
    · rw [← s2 0 (by omega), ← a2]
      unfold bp
      congr 1
      omega
    · rw [← s2 (60 + k) (by omega), ← a3 k k0 k1]
      unfold bp
      congr 1
      omega
    · rw [← s2 (32 + k) (by omega), ← (a4 k k0 k1).1]
      refine ⟨?_, (a4 k k0 k1).2⟩
      unfold bp
      congr 1
      omega
    · rw [if_neg h, a5 _ (by unfold bp; omega) (by unfold bp; omega) (by unfold bp; omega), s1 _ (by unfold bp; omega) (by unfold bp; omega)]
      unfold bp
      congr 1
      omega
/-- the call of a bill -/
theorem bill_G {c r : zM} {A Z : Int} (h : MG A Z (c 0) (r 4 45)) (hA : A ≤ 5000000) (hI : BI (c 0) (r 4 45)) :
    BI ((f137_1 c).2 0) ((f286_1 r).2 4 45) ∧ DM ((f137_1 c).2 0) ((f286_1 r).2 4 45) ∧ LG ((f137_1 c).2 0) ((f286_1 r).2 4 45) := by
  have ht := h.1.t
  obtain ⟨g1, g2⟩ := h.1.r
  obtain ⟨d1, d2, d3, d4⟩ := h.1.d
  obtain ⟨cb1, cb2, -⟩ := h.2.2.2.1
  obtain ⟨a1, a2, a3, a4, a5, a6⟩ := id hI
  have b24 : ∀ q t, 0 ≤ q → q < 7 → 0 ≤ t → t < 4 → c 0 24 (q * 4 + t) = r 4 45 (60 + (5 * q + t)) ∧ 0 ≤ r 4 45 (60 + (5 * q + t)) ∧ r 4 45 (60 + (5 * q + t)) ≤ 100000000000000 := fun q t q0 q1 t0 t1 => by
    have x := g1 q t q0 q1 t0 t1
    have y := cb2 (q * 4 + t) (by omega) (by omega)
    rw [show 60 + (5 * q + t) = 60 + 5 * q + t by omega]
    omega
  have b25 : ∀ i, 0 ≤ i → i < 28 → (0 ≤ c 0 24 i ∧ c 0 24 i ≤ 1000000000000000) ∧ 0 ≤ c 0 25 i ∧ c 0 25 i ≤ 1000000000000000 := fun i i0 i1 => by
    have x := b24 (i / 4) (i % 4) (by omega) (by omega) (by omega) (by omega)
    have y := a3 (i / 4) (i % 4) (by omega) (by omega) (by omega) (by omega)
    rw [show i / 4 * 4 + i % 4 = i by omega] at x y
    refine ⟨by omega, ?_⟩
    rw [y]
    by_cases z : r 4 45 18 = 0
    · rw [if_pos z]
      omega
    · have w := a6 (min (r 4 45 18) 7 - 1) (i / 4) (i % 4) (by omega) (by omega) (by omega) (by omega) (by omega) (by omega)
      rw [if_neg z]
      omega
  obtain ⟨m', e1, p1, p2, p3, p4, p5, p6, p7, p8, p9, p10⟩ := bill_c (c := c) (by omega) b25
  obtain ⟨r', e2, q1, q2, q3, q4, q5, q6, q7⟩ := bill_r (r := r) (by omega)
  have hbi : BI (m' 0) (r' 4 45) := hI.add (t := c 0 8 9) rfl rfl b24 (fun q q0 q1 => by
    have x := g2 q q0 q1
    rw [show 60 + (5 * q + 4) = 60 + 5 * q + 4 by omega, show 60 + (5 * q + 0) = 60 + 5 * q + 0 by omega, show 60 + (5 * q + 1) = 60 + 5 * q + 1 by omega, show 60 + (5 * q + 2) = 60 + 5 * q + 2 by omega, show 60 + (5 * q + 3) = 60 + 5 * q + 3 by omega]
    exact x) d3 p1 p3 p4 p5 p6 p7 q1 (by rw [q2, ht]) q3 (fun k k0 k1 => (q4 k k0 k1).1) q5
  have hl : LG (m' 0) (r' 4 45) := h.1.l.pt (fun k hk => p10 0 k (by omega)) (fun i hi => q6 i (by omega) (by omega) (by omega))
  have hd : DM (m' 0) (r' 4 45) := by
    have k30 : m' 0 30 = c 0 30 := p10 0 30 (by omega)
    refine ⟨by rw [k30, q6 19 (by omega) (by omega) (by omega)]; exact d1, by rw [k30, q6 20 (by omega) (by omega) (by omega)]; exact d2, fun t t0 t1 => ?_, fun t t0 t1 => ?_⟩
    · rw [p8 t t0 t1, (q4 t t0 t1).2.1]
    · rw [p9 t t0 t1, (q4 t t0 t1).2.2]
  have tt : m' 0 8 9 = r' 4 45 0 := by rw [p10 0 8 (by omega), q6 0 (by omega) (by omega) (by omega), ht]
  have k1 := log4_c m' 24 0
  obtain ⟨-, -, -, -, k4⟩ := log_r r' 24 0 hl.2.1
  have ec : (f137_1 c).2 = f54_1 0 24 0 m' := by
    unfold f137_1
    rw [zs_a, e1]
  rw [ec, e2]
  refine ⟨hbi.pt (by rw [k1 0 23 (by omega)]) (fun i _ _ => by rw [k1 0 25 (by omega)]) (fun i _ _ => by rw [k1 0 26 (by omega)]) (fun i hi => k4 i (by omega) (by omega)), hd.pt (fun k k0 k2 => k1 0 k (by omega)) (fun i hi => k4 i (by omega) (by omega)), hl.log4 tt⟩
