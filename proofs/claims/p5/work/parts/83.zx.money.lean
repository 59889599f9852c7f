/-! What a bill costs, on both sides. -/
theorem euc : ∀ (k n : Nat) (a b : Nat), b < 2 ^ k → fdivF (2 * k + 1 + n) a b = ((Nat.gcd a b : Nat) : Int)
  | 0, n, a, b, h => by
    have e : b = 0 := by omega
    subst e
    rw [show 2 * 0 + 1 + n = n + 1 by omega, fdivF_s, if_pos (show ((0 : Nat) : Int) = 0 from rfl), Nat.gcd_zero_right]
  | k + 1, n, a, b, h => by
    rw [show 2 * (k + 1) + 1 + n = (2 * k + 1 + n + 1) + 1 by omega, fdivF_s]
    by_cases e : b = 0
    · subst e
      rw [if_pos (show ((0 : Nat) : Int) = 0 from rfl), Nat.gcd_zero_right]
    have t1 : (a : Int).tmod (b : Int) = ((a % b : Nat) : Int) := rfl
    have g1 : Nat.gcd a b = Nat.gcd b (a % b) := by rw [Nat.gcd_comm a b, Nat.gcd_rec b a, Nat.gcd_comm]
    rw [if_neg (show ¬ (b : Int) = 0 by omega), t1, fdivF_s]
    by_cases f : a % b = 0
    · rw [if_pos (show ((a % b : Nat) : Int) = 0 by rw [f]; rfl), g1, f, Nat.gcd_zero_right]
    have t2 : (b : Int).tmod ((a % b : Nat) : Int) = ((b % (a % b) : Nat) : Int) := rfl
    have l1 := Nat.mod_lt a (show b > 0 by omega)
    have l2 := Nat.mod_lt b (show a % b > 0 by omega)
    have l3 : b % (a % b) + (a % b) ≤ b := by
      have d := Nat.div_add_mod b (a % b)
      have q : 1 ≤ b / (a % b) := (Nat.one_le_div_iff (by omega)).mpr (by omega)
      have m : (a % b) * 1 ≤ (a % b) * (b / (a % b)) := Nat.mul_le_mul_left _ q
      omega
    have p : 2 ^ (k + 1) = 2 * 2 ^ k := by rw [Nat.pow_succ, Nat.mul_comm]
    have g2 : Nat.gcd b (a % b) = Nat.gcd (a % b) (b % (a % b)) := by rw [Nat.gcd_comm b (a % b), Nat.gcd_rec (a % b) b, Nat.gcd_comm]
    rw [if_neg (show ¬ ((a % b : Nat) : Int) = 0 by omega), t2, euc k n _ _ (by omega), g1, g2]
theorem steps169 {m : zM} {K : Int → Int} : ∀ (n : Nat) (a b y : Int), y + n = 200 → fl169_9_1 K m (n + 1) a b y = K (fdivF n a b)
  | 0, a, b, y, h => by
    show fl169_9_1_b (fl169_9_1 K m 0) K m a b y = _
    unfold fl169_9_1_b
    rw [if_pos (by omega)]
    rfl
  | n + 1, a, b, y, h => by
    show fl169_9_1_b (fl169_9_1 K m (n + 1)) K m a b y = _
    unfold fl169_9_1_b
    rw [if_neg (by omega), fdivF_s]
    by_cases e : b = 0
    · rw [if_pos e, if_pos e]
    · rw [if_neg e, if_neg e, zn_a]
      exact steps169 n b (a.tmod b) (y + 1) (by omega)
/-- the two divisors are one -/
theorem div_T {m : zM} {X Y : Int} (hX : 0 ≤ X ∧ X ≤ 9223372036854775807) (hY : 1 ≤ Y ∧ Y ≤ 100000000) : f169_1 X Y m = fdiv Y X m := by
  obtain ⟨x, rfl⟩ : ∃ x : Nat, X = x := ⟨X.toNat, by omega⟩
  obtain ⟨y, rfl⟩ : ∃ y : Nat, Y = y := ⟨Y.toNat, by omega⟩
  have e1 : fdivF 200 (x : Int) (y : Int) = ((Nat.gcd x y : Nat) : Int) := euc 27 145 x y (by omega)
  have e2 : fdivF 128 (y : Int) (x : Int) = ((Nat.gcd y x : Nat) : Int) := euc 63 1 y x (by omega)
  have gp : 0 < Nat.gcd x y := Nat.gcd_pos_of_pos_right x (by omega)
  have e3 : f169_1 (x : Int) (y : Int) m = (fun y501 => zn (if y501 ≤ 0 then (1) else (y501)) fun v508 => v508) (fdivF 200 (x : Int) (y : Int)) := by
    unfold f169_1
    rw [show zfu 201 = 200 + 1 by rw [zfu_eq]]
    exact steps169 200 _ _ 0 (by omega)
  unfold fdiv
  rw [e3, e1, e2, Nat.gcd_comm y x]
  try dsimp only
  rw [zn_a, if_neg (by omega)]
/-- what a register of a bill is, on both sides -/
theorem bil_eq {c : zM} {a q d : Int} (h : BI (c 0) (c 4 45)) (a0 : 0 ≤ a) (a1 : a < min (c 4 45 18) 6) (q0 : 0 ≤ q ∧ q ≤ 6) (d0 : -1 ≤ d ∧ d ≤ 3) : f288_1 a q d c = f161_1 0 a q d c := by
  have ar := at_r (c := c) (a := a) a0 a1
  have e := billed_T (c := c) (a := a) (b := q) (d := d) h a0 a1 q0 d0
  unfold f288_1
  rw [zn_a, if_neg (show ¬ f289_1 a c = -1 by omega), if_neg (show ¬ q < 0 by omega), if_pos q0.2]
  by_cases dn : d = -1
  · rw [if_pos dn]
    simp only [zn_a]
    exact e.symm
  · rw [if_neg dn, if_neg (show ¬ d < 0 by omega), if_pos d0.2]
    simp only [zn_a]
    exact e.symm
/-- bounds of a bill's registers -/
theorem bil_b {c : zM} {a q t : Int} (hx : BL (c 0)) (h23 : 0 ≤ c 0 23 3) (q0 : 0 ≤ q ∧ q ≤ 6) (t0 : 0 ≤ t ∧ t ≤ 3) : 0 ≤ f161_1 0 a q t c ∧ f161_1 0 a q t c ≤ 49300000000000 := by
  have := hx.2.1 ((c 0 23 3 - 1 - a) % 6) (q * 4 + t) (by omega) (by omega) (by omega) (by omega)
  unfold f161_1 f72_2
  simp only [zn_a]
  rw [if_neg (show ¬ t = -1 by omega), show (c 0 23 3 - 1 - a) % 6 * 33 + q * 4 + t = (c 0 23 3 - 1 - a) % 6 * 33 + (q * 4 + t) by omega]
  exact this
theorem bil_s {c : zM} {a q : Int} (hx : BL (c 0)) (h23 : 0 ≤ c 0 23 3) (q0 : 0 ≤ q ∧ q ≤ 6) : 0 ≤ f161_1 0 a q (-1) c ∧ f161_1 0 a q (-1) c ≤ 197200000000000 := by
  have b : ∀ t, 0 ≤ t → t ≤ 3 → 0 ≤ c 0 26 ((c 0 23 3 - 1 - a) % 6 * 33 + q * 4 + t) ∧ c 0 26 ((c 0 23 3 - 1 - a) % 6 * 33 + q * 4 + t) ≤ 49300000000000 := fun t t0 t1 => by
    have := hx.2.1 ((c 0 23 3 - 1 - a) % 6) (q * 4 + t) (by omega) (by omega) (by omega) (by omega)
    rw [show (c 0 23 3 - 1 - a) % 6 * 33 + q * 4 + t = (c 0 23 3 - 1 - a) % 6 * 33 + (q * 4 + t) by omega]
    exact this
  have b0 := b 0 (by omega) (by omega)
  have b1 := b 1 (by omega) (by omega)
  have b2 := b 2 (by omega) (by omega)
  have b3 := b 3 (by omega) (by omega)
  unfold f161_1 f72_2
  simp only [zn_a, if_true]
  rw [zfu_eq]
  have es : fl72_16_2 (fun y502 => y502) 0 ((c 0 23 3 - 1 - a) % 6 * 33 + q * 4) c 5 0 0 = w64 (w64 (w64 (w64 (0 + c 0 26 ((c 0 23 3 - 1 - a) % 6 * 33 + q * 4 + 0)) + c 0 26 ((c 0 23 3 - 1 - a) % 6 * 33 + q * 4 + 1)) + c 0 26 ((c 0 23 3 - 1 - a) % 6 * 33 + q * 4 + 2)) + c 0 26 ((c 0 23 3 - 1 - a) % 6 * 33 + q * 4 + 3)) := rfl
  rw [es, w64_4, w64_id (by omega)]
  omega
/-- the loop over the tariffs: both sides, and bounds -/
theorem mon_loop {c : zM} {a : Int} {K1 K2 : Int → Int → Int} (hI : BI (c 0) (c 4 45)) (hs : ST (c 0) (c 4 45)) (hp : ∀ t, 0 ≤ t → t < 4 → 0 ≤ c 4 45 (28 + t) ∧ c 4 45 (28 + t) ≤ 100) (hx : BL (c 0)) (a0 : 0 ≤ a) (a1 : a < min (c 4 45 18) 6) (y2 : Int) :
    ∀ (n : Nat) (s v t : Int), 0 ≤ t → t ≤ 4 → 4 - t < n → 0 ≤ s → s ≤ 4930000000000000 * t → 0 ≤ v → v ≤ 295800000000000 →
      ∃ s' v', fl167_8_1 K1 0 0 a c n s v t = K1 s' v' ∧ fl293_34_1 K2 a y2 (f289_1 a c) c n s v t = K2 s' v' ∧ 0 ≤ s' ∧ s' ≤ 19720000000000000 ∧ 0 ≤ v' ∧ v' ≤ 295800000000000
  | 0, s, v, t, h0, h1, h2, h3, h4, h5, h6 => by omega
  | n + 1, s, v, t, h0, h1, h2, h3, h4, h5, h6 => by
    show ∃ s' v', fl167_8_1_b (fl167_8_1 K1 0 0 a c n) K1 0 0 a c s v t = K1 s' v' ∧ fl293_34_1_b (fl293_34_1 K2 a y2 (f289_1 a c) c n) K2 a y2 (f289_1 a c) c s v t = K2 s' v' ∧ _
    unfold fl167_8_1_b fl293_34_1_b
    by_cases e : 4 ≤ t
    · rw [if_pos e, if_pos e]
      exact ⟨s, v, rfl, rfl, h3, by omega, h5, h6⟩
    · have i1 := hI.1
      have h23 : 0 ≤ c 0 23 3 := by rw [i1]; exact hI.2.1
      obtain ⟨-, j2, -⟩ := hI.2.2.2.1 a a0 a1
      have d := j2 t h0 (by omega)
      have ar := at_r (c := c) (a := a) a0 a1
      have b := bil_b (a := a) (q := 0) (t := t) hx h23 (by omega) (by omega)
      have p := hp t h0 (by omega)
      have pe := hs.2.2.2.2.2.2.1 t h0 (by omega)
      have m := mul_le3 (a := f161_1 0 a 0 t c) (b := c 4 45 (28 + t)) (A := 49300000000000) (B := 100) b.1 b.2 p.1 p.2
      have db := hx.2.2 ((c 0 23 3 - 1 - a) % 6) t (by omega) (by omega) h0 (by omega)
      have dd : c 0 26 ((c 0 23 3 - 1 - a) % 6 * 33 + 28 + t) = c 4 45 (f289_1 a c + 36 + t) := by
        rw [show (c 0 23 3 - 1 - a) % 6 * 33 + 28 + t = (c 0 23 3 - 1 - a) % 6 * 33 + (28 + t) by omega, i1, d, ar]
        unfold bp
        rw [show 1172 + 45 * (min (c 4 45 18) 7 - 1 - a) + (36 + t) = 1172 + 45 * (min (c 4 45 18) 7 - 1 - a) + 36 + t by omega]
      have db2 : -1 ≤ c 4 45 (f289_1 a c + 36 + t) ∧ c 4 45 (f289_1 a c + 36 + t) ≤ 295800000000000 := by
        rw [← dd, show (c 0 23 3 - 1 - a) % 6 * 33 + 28 + t = (c 0 23 3 - 1 - a) % 6 * 33 + (28 + t) by omega]
        exact db
      rw [if_neg e, if_neg e, bil_eq hI a0 a1 (by omega) (by omega)]
      simp only [zn_a]
      rw [pe, dd, w64_id (x := f161_1 0 a 0 t c * c 4 45 (28 + t)) (by omega), w64_id (x := s + f161_1 0 a 0 t c * c 4 45 (28 + t)) (by omega), show (if c 4 45 (f289_1 a c + 36 + t) ≤ v then v else c 4 45 (f289_1 a c + 36 + t)) = max v (c 4 45 (f289_1 a c + 36 + t)) by split <;> omega]
      exact mon_loop hI hs hp hx a0 a1 y2 n _ _ (t + 1) (by omega) (by omega) (by omega) (by omega) (by omega) (by omega) (by omega)
theorem money_T {c : zM} {a b : Int} (hI : BI (c 0) (c 4 45)) (hs : ST (c 0) (c 4 45)) (hp : ∀ t, 0 ≤ t → t < 4 → 0 ≤ c 4 45 (28 + t) ∧ c 4 45 (28 + t) ≤ 100) (h5 : 1 ≤ c 4 45 5 ∧ c 4 45 5 ≤ 1000000) (k1 : 0 ≤ c 4 45 1611 ∧ c 4 45 1611 ≤ 100) (k2 : 0 ≤ c 4 45 1612 ∧ c 4 45 1612 ≤ 200) (k3 : 0 ≤ c 4 45 1613 ∧ c 4 45 1613 ≤ 100) (hx : BL (c 0)) : f166_1 a b c = f293_1 a b c := by
  have i1 := hI.1
  have h23 : 0 ≤ c 0 23 3 := by rw [i1]; exact hI.2.1
  have u1 := hs.2.1
  have q10 := hs.2.2.2.2.2.2.2.1
  have q11 := hs.2.2.2.2.2.2.2.2.1
  have q12 := hs.2.2.2.2.2.2.2.2.2.1
  unfold f166_1 f293_1
  rw [zn_a (f289_1 a c)]
  by_cases a0 : a < 0
  · rw [if_pos a0, at_n (.inl a0), if_pos (show (-1 : Int) = -1 from rfl)]
  rw [if_neg a0, i1]
  by_cases a1 : min (c 4 45 18) 6 ≤ a
  · rw [if_pos a1, at_n (.inr a1), if_pos (show (-1 : Int) = -1 from rfl)]
  have ar := at_r (c := c) (a := a) (by omega) (by omega)
  rw [if_neg a1, if_neg (show ¬ f289_1 a c = -1 by omega)]
  by_cases b0 : b < 0
  · rw [if_pos b0, if_pos b0]
  rw [if_neg b0, if_neg b0]
  by_cases b1 : b ≤ 1
  case neg => rw [if_neg b1, if_neg b1]
  rw [if_pos b1, if_pos b1]
  have v20 : f168_1 0 20 c = c 4 45 1611 := by
    rw [← q10]
    simp only [f168_1, f76_1, zn_a, Int.reduceLT, Int.reduceLE, Int.reduceEq, Int.reduceSub, Int.reduceAdd, Int.reduceNeg, ↓reduceIte]
  have v21 : f168_1 0 21 c = c 4 45 1612 := by
    rw [← q11]
    simp only [f168_1, f76_1, zn_a, Int.reduceLT, Int.reduceLE, Int.reduceEq, Int.reduceSub, Int.reduceAdd, Int.reduceNeg, ↓reduceIte]
  have v22 : f168_1 0 22 c = c 4 45 1613 := by
    rw [← q12]
    simp only [f168_1, f76_1, zn_a, Int.reduceLT, Int.reduceLE, Int.reduceEq, Int.reduceSub, Int.reduceAdd, Int.reduceNeg, ↓reduceIte]
  have B0 := bil_s (a := a) (q := 0) hx h23 (by omega)
  have B2 := bil_s (a := a) (q := 2) hx h23 (by omega)
  have B5 := bil_s (a := a) (q := 5) hx h23 (by omega)
  have E0 := bil_eq (a := a) (q := 0) (d := -1) hI (by omega) (by omega) (by omega) (by omega)
  have E2 := bil_eq (a := a) (q := 2) (d := -1) hI (by omega) (by omega) (by omega) (by omega)
  have E5 := bil_eq (a := a) (q := 5) (d := -1) hI (by omega) (by omega) (by omega) (by omega)
  unfold f167_1
  rw [v20, v21, v22, E0, E2, E5, show max 1 (c 0 10 1) = c 4 45 5 by omega]
  generalize f161_1 0 a 0 (-1) c = G0 at B0 ⊢
  generalize f161_1 0 a 2 (-1) c = G2 at B2 ⊢
  generalize f161_1 0 a 5 (-1) c = G5 at B5 ⊢
  have M1 : ∀ v, 0 ≤ v → v ≤ 295800000000000 → 0 ≤ v * c 4 45 1611 ∧ v * c 4 45 1611 ≤ 295800000000000 * 100 := fun v v0 v1 => mul_le3 v0 v1 k1.1 k1.2
  have M2 := mul_le3 (a := G0) (b := c 4 45 1612) (A := 197200000000000) (B := 200) B0.1 B0.2 k2.1 k2.2
  simp only [zn_a]
  rw [w64_id (x := G2 + G5) (by omega), w64_id (x := G0 * c 4 45 1612) (by omega), w64_id (x := (G2 + G5) * 100) (by omega), w64_id (x := 100 * (G2 + G5)) (by omega), show 100 * (G2 + G5) = (G2 + G5) * 100 by omega, w64_id (x := (G2 + G5) * 100 - G0 * c 4 45 1612) (by omega)]
  obtain ⟨E, hE⟩ : ∃ E, E = max 0 ((G2 + G5) * 100 - G0 * c 4 45 1612) := ⟨_, rfl⟩
  have hE2 : (if (G2 + G5) * 100 - G0 * c 4 45 1612 ≤ 0 then 0 else (G2 + G5) * 100 - G0 * c 4 45 1612) = E := by rw [hE]; split <;> omega
  rw [hE2, ← hE]
  have M3 := mul_le3 (a := E) (b := c 4 45 1613) (A := 39440000000000000) (B := 100) (by omega) (by omega) k3.1 k3.2
  rw [w64_id (x := E * c 4 45 1613) (by omega)]
  obtain ⟨s, v, e1, e2, s0, s1, v0, v1⟩ := mon_loop (c := c) (a := a) (K1 := fun y501 y502 => w64 (w64 (w64 (y501 + w64 (y502 * c 4 45 1611)) * 100) + E * c 4 45 1613)) (K2 := fun y512 y513 => w64 ((if b = 0 then w64 (w64 (100 * w64 (y512 + w64 (y513 * c 4 45 1611))) + E * c 4 45 1613) else 100 * c 4 45 5).tdiv (fdiv (100 * c 4 45 5) (w64 (w64 (100 * w64 (y512 + w64 (y513 * c 4 45 1611))) + E * c 4 45 1613)) c))) hI hs hp hx (by omega) (by omega) b (zfu 5) 0 0 0 (by omega) (by omega) (by rw [zfu_eq]; omega) (by omega) (by omega) (by omega) (by omega)
  rw [e1, e2]
  have m1 := M1 v v0 v1
  try dsimp only
  rw [w64_id (x := v * c 4 45 1611) (by omega), w64_id (x := s + v * c 4 45 1611) (by omega), show 100 * (s + v * c 4 45 1611) = (s + v * c 4 45 1611) * 100 by omega, w64_id (x := (s + v * c 4 45 1611) * 100) (by omega), w64_id (x := (s + v * c 4 45 1611) * 100 + E * c 4 45 1613) (by omega), div_T (by omega) (by omega)]
theorem an_best {c : zM} {B a b : Int} (_hc : OM B c) (_hB : B ≤ 700000000) (h : Rel3 B c c) : f187_1 a b c = f311_1 a b c := best_T h.2.1.1.1.ld h.2.1.2.2.2.2.2.1
theorem an_money {c : zM} {B a b : Int} (hc : OM B c) (_hB : B ≤ 700000000) (h : Rel3 B c c) : f166_1 a b c = f293_1 a b c :=
  money_T h.2.1.2.2.1 h.2.1.1.2.1.2.2.2.1 (fun t t0 t1 => r45_28 hc.2.o 4 (by omega)) (r45_5 hc.2.o 4) (r45_1611 hc.2.o 4) (r45_1612 hc.2.o 4) (r45_1613 hc.2.o 4) h.2.1.2.2.2.2.2.2.2
