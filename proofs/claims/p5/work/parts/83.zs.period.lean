/-! What is told of THE PERIOD. -/
theorem isRoot.mono {v u s t : Int} (h : isRoot v s) (h' : isRoot u t) (hv : v ≤ u) : s ≤ t := by
  obtain ⟨s0, s1, s2⟩ := h
  obtain ⟨t0, t1, t2⟩ := h'
  by_cases hst : s ≤ t
  · exact hst
  · exfalso
    have := Int.mul_le_mul (show t + 1 ≤ s by omega) (show t + 1 ≤ s by omega) (by omega) (by omega)
    omega
theorem sq12 {P : Int} (h : -12000000 ≤ P ∧ P ≤ 12000000) : 0 ≤ P * P ∧ P * P ≤ 144000000000000 := ⟨sq_nn _, by
  have h1 : 0 ≤ (12000000 + P) * (12000000 - P) := Int.mul_nonneg (by omega) (by omega)
  rw [Int.add_mul, Int.mul_sub, Int.mul_sub] at h1
  omega⟩
theorem app_T {c : zM} {k P Q : Int} (h0 : c 0 22 (0 + k) = P) (h4 : c 0 22 (4 + k) = Q) (hP : -12000000 ≤ P ∧ P ≤ 12000000) (hQ : -12000000 ≤ Q ∧ Q ≤ 12000000) : f23_1 0 k c = f214_1 (P * P + Q * Q) c := by
  have p := sq12 hP
  have q := sq12 hQ
  unfold f23_1
  simp only [zn_a]
  rw [h0, h4, w64_id (x := P * P) (by omega), w64_id (x := Q * Q) (by omega), w64_id (x := P * P + Q * Q) (by omega)]
  exact rt_eq c c (by omega)
theorem fac_T {c : zM} {P s : Int} (hP : -12000000 ≤ P ∧ P ≤ 12000000) (hs : 0 ≤ s) : f143_1 P s c = f239_1 P s c := by
  unfold f143_1 f239_1
  simp only [zn_a]
  by_cases s0 : s = 0
  · rw [if_pos s0, if_pos s0]
  rw [if_neg s0, if_neg s0, w64_id (x := 1000 * P) (by omega)]
  by_cases p0 : P < 0
  · have b := ediv_b (a := 1000 * -P) (b := s) (A := 12000000000) (by omega) (by omega) (by omega)
    rw [if_pos p0, show 1000 * P = -(1000 * -P) by omega, Int.neg_tdiv, tdiv_nn (by omega), w64_id (by omega)]
  · have b := ediv_b (a := 1000 * P) (b := s) (A := 12000000000) (by omega) (by omega) (by omega)
    rw [if_neg p0, tdiv_nn (by omega), w64_id (by omega)]
theorem quad_T (P Q : Int) (c : zM) : f51_1 P Q c = f221_1 P Q c := by
  unfold f51_1 f221_1
  simp only [zn_a]
/-- all that one column tells -/
theorem tell_T {c : zM} {a b P Q V I R6 R7 : Int} (k : Int) (hk : (if a = -1 then 3 else a) = k) (h0 : c 0 22 (0 + k) = P) (h4 : c 0 22 (4 + k) = Q) (h8 : c 0 22 (8 + k) = V) (h12 : c 0 22 (12 + k) = I) (h6 : f142_1 0 2 a c = R6) (h7 : f142_1 0 3 a c = R7) (hP : -12000000 ≤ P ∧ P ≤ 12000000) (hQ : -12000000 ≤ Q ∧ Q ≤ 12000000) (hb : 0 ≤ b ∧ b ≤ 8) :
    f141_1 0 a b c = if b = 0 then P else if b = 1 then Q else if b = 2 then V else if b = 3 then I else if b = 4 then f214_1 (P * P + Q * Q) c else if b = 5 then f221_1 P Q c else if b = 6 then R6 else if b = 7 then R7 else if b = 8 then f239_1 P (f214_1 (P * P + Q * Q) c) c else -10000000000 := by
  have ha := app_T h0 h4 hP hQ
  have hs : 0 ≤ f214_1 (P * P + Q * Q) c := (root_b c hP hQ).2.1
  have hf := fac_T (c := c) hP hs
  unfold f141_1
  simp only [zn_a]
  rw [hk, h0, h4, h6, h7, ha, quad_T, hf]
  have hc : b = 0 ∨ b = 1 ∨ b = 2 ∨ b = 3 ∨ b = 4 ∨ b = 5 ∨ b = 6 ∨ b = 7 ∨ b = 8 := by omega
  rcases hc with e | e | e | e | e | e | e | e | e <;> subst e <;> simp only [Int.reduceEq, Int.reduceLT, Int.reduceMul, ↓reduceIte]
  · exact h0
  · exact h4
  · exact h8
  · exact h12
theorem one_loop {c : zM} {q a : Int} {K : Int → Int} (ha : 0 ≤ a) (h1 : a < c 0 19 3) : ∀ (n : Nat) (v y : Int), 0 ≤ y → y ≤ c 0 19 3 → c 0 19 3 - y < n → fl142_5_1 K 0 q a c n v y = K (if y ≤ a then max v (c 0 22 (q * 4 + a)) else v)
  | 0, v, y, h0, h2, h3 => by omega
  | n + 1, v, y, h0, h2, h3 => by
    show fl142_5_1_b (fl142_5_1 K 0 q a c n) K 0 q a c v y = _
    unfold fl142_5_1_b
    by_cases h : c 0 19 3 ≤ y
    · rw [if_pos h, if_neg (show ¬ y ≤ a by omega)]
    · rw [if_neg h, if_neg (show ¬ a = -1 by omega), zn_a]
      by_cases e : a = y
      · subst e
        rw [if_pos rfl, one_loop ha h1 n _ (a + 1) (by omega) (by omega) (by omega), if_neg (show ¬ a + 1 ≤ a by omega), if_pos (Int.le_refl a)]
      · rw [if_neg e, one_loop ha h1 n _ (y + 1) (by omega) (by omega) (by omega)]
        by_cases x : y ≤ a
        · rw [if_pos x, if_pos (show y + 1 ≤ a by omega)]
        · rw [if_neg x, if_neg (show ¬ y + 1 ≤ a by omega)]
theorem mean_one {c : zM} {q a S : Int} (ha : 0 ≤ a) (h1 : a < c 0 19 3) (h3 : c 0 19 3 ≤ 3) (h4 : c 0 19 4 = c 4 45 2) (hN : 4 ≤ c 4 45 2) (hS : c 0 22 (q * 4 + a) = S) (hb : 0 ≤ S ∧ S ≤ 4000000) : f142_1 0 q a c = f214_1 (S / c 4 45 2) c := by
  have b := ediv_b (a := S) (b := c 4 45 2) (A := 4000000) hb.1 hb.2 (by omega)
  unfold f142_1
  rw [one_loop ha h1 (zfu 4) 0 0 (by omega) (by omega) (by rw [zfu_eq]; omega), if_pos ha, hS, show max 0 S = S by omega, show max 1 (c 0 19 4) = c 4 45 2 by omega]
  simp only [zn_a]
  exact rt_eq c c (by omega)
theorem all_loop {c : zM} {q b : Int} (hw : WB (c 4 45)) (h3 : c 0 19 3 = c 4 45 1) (h4 : c 0 19 4 = c 4 45 2) (hb : b = 95 ∨ b = 143) (hS : ∀ f : Nat, (f : Int) < c 4 45 1 → c 0 22 (q * 4 + f) = SQ (c 4 45) b f) :
    ∀ (n n2 j : Nat) (v u : Int), (j : Int) ≤ c 4 45 1 → c 4 45 1 - j < n → c 4 45 1 - j < n2 → 0 ≤ v → v ≤ 4000000 → isRoot (v / c 4 45 2) u →
      fl142_5_1 (fun y501 => zn ((y501 / (max 1 (c 0 19 4)))) fun z507 => zn (f24_1 z507 c) fun v510 => v510) 0 q (-1) c n v j = fl238_5_1 (fun y501 => y501) b c n2 u j
  | 0, n2, j, v, u, h0, h1, h2, _, _, _ => by omega
  | n + 1, 0, j, v, u, h0, h1, h2, _, _, _ => by omega
  | n + 1, n2 + 1, j, v, u, h0, h1, h2, v0, v1, hr => by
    have hN := hw.2.2.1
    have hm : max 1 (c 0 19 4) = c 4 45 2 := by omega
    show fl142_5_1_b (fl142_5_1 (fun y501 => zn ((y501 / (max 1 (c 0 19 4)))) fun z507 => zn (f24_1 z507 c) fun v510 => v510) 0 q (-1) c n) (fun y501 => zn ((y501 / (max 1 (c 0 19 4)))) fun z507 => zn (f24_1 z507 c) fun v510 => v510) 0 q (-1) c v j = fl238_5_1_b (fl238_5_1 (fun y501 => y501) b c n2) (fun y501 => y501) b c u j
    unfold fl142_5_1_b fl238_5_1_b
    by_cases h : c 4 45 1 ≤ (j : Int)
    · have bb := ediv_b (a := v) (b := c 4 45 2) (A := 4000000) v0 v1 (by omega)
      rw [if_pos (show c 0 19 3 ≤ (j : Int) by omega), if_pos h, hm]
      simp only [zn_a]
      exact (rt_cls c (by omega)).uni hr
    · have hP := hw.2.1
      have sb := SQ_b hw hb (f := (j : Int)) (by omega) (by omega)
      have bS := ediv_b (a := SQ (c 4 45) b j) (b := c 4 45 2) (A := 4000000) sb.1 sb.2 (by omega)
      have rS := rt_ref (v := SQ (c 4 45) b j / c 4 45 2) c (by omega)
      rw [if_neg (show ¬ c 0 19 3 ≤ (j : Int) by omega), if_neg h, if_pos (show (-1 : Int) = -1 from rfl), hS j (by omega)]
      simp only [zn_a]
      rw [sq_r hw b j]
      refine all_loop hw h3 h4 hb hS n n2 (j + 1) _ _ (by omega) (by omega) (by omega) (by omega) (by omega) ?_
      by_cases x : SQ (c 4 45) b j ≤ v
      · have m := rS.mono hr (Int.ediv_le_ediv (by omega) x)
        rw [show max v (SQ (c 4 45) b j) = v by omega, if_pos m]
        exact hr
      · have m := hr.mono rS (Int.ediv_le_ediv (by omega) (show v ≤ SQ (c 4 45) b j by omega))
        rw [show max v (SQ (c 4 45) b j) = SQ (c 4 45) b j by omega]
        by_cases y : f214_1 (SQ (c 4 45) b j / c 4 45 2) c ≤ u
        · rw [if_pos y, show u = f214_1 (SQ (c 4 45) b j / c 4 45 2) c by omega]
          exact rS
        · rw [if_neg y]
          exact rS
theorem mean_all {c : zM} {q b : Int} (hw : WB (c 4 45)) (h3 : c 0 19 3 = c 4 45 1) (h4 : c 0 19 4 = c 4 45 2) (hb : b = 95 ∨ b = 143) (hS : ∀ f : Nat, (f : Int) < c 4 45 1 → c 0 22 (q * 4 + f) = SQ (c 4 45) b f) : f142_1 0 q (-1) c = f238_1 b c := by
  have hP := hw.2.1
  have hN := hw.2.2.1
  exact all_loop hw h3 h4 hb hS (zfu 4) (zfu 4) 0 0 0 (by have := hw.1; omega) (by rw [zfu_eq]; omega) (by rw [zfu_eq]; omega) (by omega) (by omega) ⟨by omega, by rw [Int.zero_ediv]; omega, by rw [Int.zero_ediv]; omega⟩
theorem an_period {c : zM} {B a b : Int} (_hc : OM B c) (hB : B ≤ 700000000) (h : Rel3 B c c) : f140_1 a b c = f237_1 a b c := by
  have hwv := h.2.1.1.2.1
  obtain ⟨p1, p2, ⟨w0, w3, w7, w11, w15, -⟩, -, hw⟩ := id hwv
  have hP := hw.2.1
  have hP1 := hw.1
  have hN := hw.2.2.1
  unfold f140_1 f237_1
  by_cases b8 : 0 ≤ b ∧ b ≤ 8
  case neg =>
    have ite_e : ∀ {p : Prop} [Decidable p] {x y z : Int}, (p → x = z) → (¬ p → y = z) → (if p then x else y) = z := fun {p} _ {x y z} h1 h2 => by
      by_cases hp : p
      · rw [if_pos hp]
        exact h1 hp
      · rw [if_neg hp]
        exact h2 hp
    have e1 : (if a < -1 then -10000000000 else if c 0 19 3 ≤ a then -10000000000 else if b < 0 then -10000000000 else if b ≤ 8 then zn (f141_1 0 a b c) fun v508 => v508 else (-10000000000 : Int)) = -10000000000 := by
      repeat' (refine ite_e (fun _ => ?_) (fun _ => ?_))
      all_goals first | (exfalso; omega) | rfl
    rw [e1]
    symm
    simp only [zn_a]
    repeat' (refine ite_e (fun _ => ?_) (fun _ => ?_))
    all_goals first | (exfalso; omega) | rfl
  by_cases a0 : a = -1
  · subst a0
    have t := tell_T (c := c) (a := -1) (b := b) 3 (by rw [if_pos rfl]) (P := f209_1 0 c) (Q := f209_1 1 c) (V := f209_1 2 c) (I := f209_1 3 c) (R6 := f238_1 95 c) (R7 := f238_1 143 c) (by rw [tg_r hw]; exact w3) (by rw [tg_r hw]; exact w7) (by rw [tg_r hw]; exact w11) (by rw [tg_r hw]; exact w15)
      (mean_all hw p1 p2 (.inl rfl) (fun f hf => (w0 f hf).2.2.1)) (mean_all hw p1 p2 (.inr rfl) (fun f hf => (w0 f hf).2.2.2)) (by rw [tg_r hw]; exact TG_b hw 0) (by rw [tg_r hw]; exact TG_b hw 1) b8
    rw [if_neg (show ¬ (-1 : Int) < -1 by decide), if_neg (show ¬ c 0 19 3 ≤ -1 by omega), if_neg (show ¬ b < 0 by omega), if_pos b8.2, if_pos (show (-1 : Int) = -1 from rfl)]
    simp only [zn_a]
    exact t
  rw [if_neg a0]
  by_cases a1 : a < 0
  · rw [if_pos (show a < -1 by omega), if_pos a1]
  by_cases a2 : c 0 19 3 ≤ a
  · rw [if_neg (show ¬ a < -1 by omega), if_pos a2, if_neg a1, if_neg (show ¬ a ≤ c 4 45 1 - 1 by omega)]
  obtain ⟨x0, x1, x2, x3⟩ := w0 a.toNat (by omega)
  rw [show ((a.toNat : Nat) : Int) = a by omega] at x0 x1 x2 x3
  have bA := AC_b hw (f := a) (by omega) (by omega)
  have bR := RE_b hw (f := a) (by omega) (by omega)
  have t := tell_T (c := c) (a := a) (b := b) a (by rw [if_neg a0]) (P := f210_1 a c) (Q := f212_1 a c) (V := f213_1 95 a c) (I := f213_1 143 a c) (R6 := f214_1 (f213_1 95 a c / c 4 45 2) c) (R7 := f214_1 (f213_1 143 a c / c 4 45 2) c)
    (by rw [ac_r hw, Int.zero_add]; exact x0) (by rw [re_r hw]; exact x1) (by rw [sq_r hw]; exact x2) (by rw [sq_r hw]; exact x3)
    (mean_one (by omega) (by omega) (by omega) p2 hN (by rw [sq_r hw]; exact x2) (by rw [sq_r hw]; exact SQ_b hw (.inl rfl) (by omega) (by omega))) (mean_one (by omega) (by omega) (by omega) p2 hN (by rw [sq_r hw]; exact x3) (by rw [sq_r hw]; exact SQ_b hw (.inr rfl) (by omega) (by omega))) (by rw [ac_r hw]; omega) (by rw [re_r hw]; omega) b8
  rw [if_neg (show ¬ a < -1 by omega), if_neg a2, if_neg (show ¬ b < 0 by omega), if_pos b8.2, if_neg a1, if_pos (show a ≤ c 4 45 1 - 1 by omega)]
  simp only [zn_a]
  exact t
