/-! Phases: the wave begins anew. -/
theorem sumN_0 {f : Nat → Int} : ∀ n : Nat, (∀ k, k < n → f k = 0) → sumN f n = 0
  | 0, _ => rfl
  | n + 1, e => by
    show sumN f n + f n = 0
    rw [sumN_0 n (fun k hk => e k (by omega)), e n (by omega)]
    rfl
theorem ws_zero {c : Nat → Int → Int} {w : Int → Int} (h22 : ∀ i, 0 ≤ i → i < 16 → c 22 i = 0) (h6 : c 19 6 = 0) (hw : ∀ i, 95 ≤ i → i ≤ 190 → w i = 0) (hb : WB w) : WS c w := by
  obtain ⟨p0, p1, n0, n1, -, -, -⟩ := hb
  have z1 : ∀ f : Int, 0 ≤ f → f < 3 → AC w f = 0 ∧ RE w f = 0 ∧ SQ w 95 f = 0 ∧ SQ w 143 f = 0 := fun f f0 f1 => by
    refine ⟨sumN_0 _ (fun k hk => ?_), sumN_0 _ (fun k hk => ?_), sumN_0 _ (fun k hk => ?_), sumN_0 _ (fun k hk => ?_)⟩
    · unfold tA
      rw [hw _ (by omega) (by omega), Int.zero_mul]
    · unfold tR
      rw [hw (95 + 16 * f + (k : Int)) (by omega) (by omega), Int.zero_mul]
    · unfold tS
      rw [hw _ (by omega) (by omega), Int.zero_mul]
    · unfold tS
      rw [hw _ (by omega) (by omega), Int.zero_mul]
  have z2 : ∀ i, sumN (TG w i) (w 1).toNat = 0 := fun i => sumN_0 _ (fun k hk => by
    obtain ⟨a1, a2, a3, a4⟩ := z1 (k : Int) (by omega) (by omega)
    unfold TG
    rw [a1, a2, a3, a4]
    repeat' split
    all_goals rfl)
  refine ⟨fun f hf => ?_, ?_, ?_, ?_, ?_, ?_⟩
  · obtain ⟨a1, a2, a3, a4⟩ := z1 (f : Int) (by omega) (by omega)
    rw [a1, a2, a3, a4]
    exact ⟨h22 _ (by omega) (by omega), h22 _ (by omega) (by omega), h22 _ (by omega) (by omega), h22 _ (by omega) (by omega)⟩
  · rw [z2, h22 3 (by omega) (by omega)]
  · rw [z2, h22 7 (by omega) (by omega)]
  · rw [z2, h22 11 (by omega) (by omega)]
  · rw [z2, h22 15 (by omega) (by omega)]
  · rw [h22 3 (by omega) (by omega), h22 7 (by omega) (by omega), h6]
    unfold isRoot
    omega
theorem nul202 {k : zM → Int × zM} : ∀ (n : Nat) (y : Int) (m : zM), 95 ≤ y → y ≤ 191 → 191 - y < n → ∃ m', fl202_67_1 k n y m = k m' ∧ (∀ i, y ≤ i → i ≤ 190 → m' 4 45 i = 0) ∧ (∀ i, (i < y ∨ 190 < i) → m' 4 45 i = m 4 45 i)
  | 0, y, m, h0, h1, h2 => by omega
  | n + 1, y, m, h0, h1, h2 => by
    show ∃ m', fl202_67_1_b (fl202_67_1 k n) k y m = k m' ∧ _
    unfold fl202_67_1_b
    by_cases h : 191 ≤ y
    · rw [if_pos h]
      exact ⟨m, rfl, fun i i0 i1 => by omega, fun _ _ => rfl⟩
    · rw [if_neg h, zs_a]
      obtain ⟨m', e, e1, e2⟩ := nul202 (k := k) n (y + 1) (z_upd m 4 45 y 0) (by omega) (by omega) (by omega)
      refine ⟨m', e, fun i i0 i1 => ?_, fun i hi => ?_⟩
      · by_cases z : i = y
        · rw [e2 i (by omega), z, zu_row, fu_s]
        · exact e1 i (by omega) i1
      · rw [e2 i (by omega), zu_row, fu_i _ _ (by omega)]
theorem f11_k {g : Nat} {a N : Int} : ∀ (n : Nat) (y : Int) (m : zM) (g' k : Nat), (g' ≠ g ∨ k ≠ 22) → fl11_6_1 (fun m => m) g a N n y m g' k = m g' k
  | 0, _, _, _, _, _ => rfl
  | n + 1, y, m, g', k, hk => by
    show fl11_6_1_b (fl11_6_1 (fun m => m) g a N n) (fun m => m) g a N y m g' k = _
    unfold fl11_6_1_b
    by_cases h : N ≤ y
    · rw [if_pos h]
    · rw [if_neg h, zs_a, f11_k n (y + 1) _ g' k hk]
      rcases hk with hk | hk
      · rw [zu_g _ _ _ hk]
      · rw [zu_k _ _ _ hk]
theorem phases_G {c r : zM} {B A Z a b : Int} (ha : I32 a) (hb : I32 b) (hc : OM B c) (hr : OM B r) (hB : B + 1 ≤ 1000000000) (hs : SE B (c 0) (r 4 45)) (h : MG A Z (c 0) (r 4 45)) (hn : WN (c 0) (r 4 45)) :
    MG A Z ((f16_1 a b c).2 0) ((f202_1 a b r).2 4 45) ∧ WN ((f16_1 a b c).2 0) ((f202_1 a b r).2 4 45) := by
  obtain ⟨j1, j2, -⟩ := q202_1 a b hr.1 hr.2 (by omega) ha hb
  have hwb' : WB ((f202_1 a b r).2 4 45) := WB.of (B := B) ⟨j1, j2.jb⟩
  obtain ⟨v, c1, r1, e1, e2, oc, ro, h1, k1, k2⟩ := shut_M hc hr hB hs h
  have n1 : WN (c1 0) (r1 4 45) := by
    have hwb := h.2.1.2.2.2.2
    obtain ⟨p0, p1, q0, q1, -⟩ := hwb
    obtain ⟨x1, x2⟩ := hn
    refine ⟨by rw [k2 1 (by omega), k2 2 (by omega), k2 3 (by omega)]; exact x1, fun k z0 z1 => ?_⟩
    rw [k2 3 (by omega)] at z1
    have m0 : 0 ≤ k % r 4 45 1 := Int.emod_nonneg _ (by omega)
    have m1 : k % r 4 45 1 < r 4 45 1 := Int.emod_lt_of_pos _ (by omega)
    have d0 : 0 ≤ k / r 4 45 1 := Int.ediv_nonneg z0 (by omega)
    rw [Int.mul_comm] at x1
    have d1 : k / r 4 45 1 < r 4 45 2 := Int.ediv_lt_of_lt_mul (by omega) (by omega)
    rw [k1 20 (by decide), k1 21 (by decide), k2 1 (by omega), k2 _ (by omega), k2 _ (by omega)]
    exact x2 k z0 z1
  revert hwb'
  unfold f16_1 f202_1
  rw [e1, e2]
  simp only [zb_a]
  by_cases hv : v = 0
  case neg =>
    rw [if_neg hv, if_neg hv]
    exact fun _ => ⟨h1, n1⟩
  rw [if_pos hv, if_pos hv]
  unfold f18_1
  by_cases a0 : a < 1
  · rw [if_pos a0, if_pos a0]
    exact fun _ => ⟨h1, n1⟩
  rw [if_neg a0, if_neg a0]
  by_cases a1 : a ≤ 3
  case neg =>
    rw [if_pos (show 3 < a by omega), if_neg a1]
    exact fun _ => ⟨h1, n1⟩
  rw [if_neg (show ¬ 3 < a by omega), if_pos a1]
  by_cases b0 : b < 4
  · rw [if_pos b0, if_pos b0]
    exact fun _ => ⟨h1, n1⟩
  rw [if_neg b0, if_neg b0]
  by_cases b1 : b ≤ 16
  case neg =>
    rw [if_pos (show 16 < b by omega), if_neg b1]
    exact fun _ => ⟨h1, n1⟩
  rw [if_neg (show ¬ 16 < b by omega), if_pos b1]
  by_cases b2 : b % 4 = 0
  case neg =>
    rw [if_neg b2, if_neg b2]
    exact fun _ => ⟨h1, n1⟩
  rw [if_pos b2, if_pos b2]
  simp only [zs_a]
  obtain ⟨m4, em4⟩ : ∃ x, x = z_upd (z_upd (z_upd (z_upd c1 0 19 3 a) 0 19 4 b) 0 19 5 0) 0 19 6 0 := ⟨_, rfl⟩
  rw [← em4]
  have x19 : ∀ i, m4 0 19 i = if i = 6 then 0 else if i = 5 then 0 else if i = 4 then b else if i = 3 then a else c1 0 19 i := fun i => by
    rw [em4, zu_row, zu_row, zu_row, zu_row]
    rfl
  have xk : ∀ k, k ≠ 19 → m4 0 k = c1 0 k := fun k hk => by rw [em4, zu_k _ _ _ hk, zu_k _ _ _ hk, zu_k _ _ _ hk, zu_k _ _ _ hk]
  have e11 : f11_1 0 0 m4 = fl11_6_1 (fun m => m) 0 0 16 (zfu 17) 0 m4 := rfl
  obtain ⟨z1, z2⟩ := nul11 (g := 0) (zfu 17) 0 m4 (by omega) (by omega) (by rw [zfu_eq]; omega)
  rw [e11]
  obtain ⟨m5, em5⟩ : ∃ x, x = fl11_6_1 (fun m => m) 0 0 16 (zfu 17) 0 m4 := ⟨_, rfl⟩
  have hw' : ∀ g k i, (g ≠ 0 ∨ k ≠ 22) → m5 g k i = m4 g k i := fun g k i hk => by
    rw [em5]
    rw [f11_k _ _ _ g k hk]
  rw [← em5] at z1 ⊢
  obtain ⟨r4, er4⟩ : ∃ x, x = z_upd (z_upd (z_upd r1 4 45 1 a) 4 45 2 b) 4 45 3 0 := ⟨_, rfl⟩
  rw [← er4]
  have y4 : ∀ i, r4 4 45 i = if i = 3 then 0 else if i = 2 then b else if i = 1 then a else r1 4 45 i := fun i => by
    rw [er4, zu_row, zu_row, zu_row]
    rfl
  obtain ⟨r5, e5, s1, s2⟩ := nul202 (k := fun m526 => ((1 : Int), m526)) (zfu 97) 95 r4 (by omega) (by omega) (by rw [zfu_eq]; omega)
  rw [e5]
  intro hwb'
  have hwb2 : WB (r5 4 45) := hwb'
  have v1 : r5 4 45 1 = a := by rw [s2 1 (by omega), y4, if_neg (by decide), if_neg (by decide), if_pos rfl]
  have v2 : r5 4 45 2 = b := by rw [s2 2 (by omega), y4, if_neg (by decide), if_pos rfl]
  have v3 : r5 4 45 3 = 0 := by rw [s2 3 (by omega), y4, if_pos rfl]
  have u19 : ∀ i, m5 0 19 i = m4 0 19 i := fun i => hw' 0 19 i (by omega)
  refine ⟨h1.wave (CB.of oc.2 0) (fun n n2 _ _ => FE_w (fun k e1 e2 e3 e4 => funext fun i => ?_) n2) (fun n n2 _ _ => FW_w (fun i i0 i1 i2 => ?_) n2) ?_ ?_ (ws_zero z1 ?_ s1 hwb2) hwb2, ?_, fun k k0 k1 => ?_⟩
  · rw [hw' 0 k i (.inr e4), xk k e1]
  · show r5 4 45 i = r1 4 45 i
    rw [s2 i (by omega), y4, if_neg (by omega), if_neg (by omega), if_neg (by omega)]
  · show m5 0 19 3 = r5 4 45 1
    rw [u19, x19, if_neg (by decide), if_neg (by decide), if_neg (by decide), if_pos rfl, v1]
  · show m5 0 19 4 = r5 4 45 2
    rw [u19, x19, if_neg (by decide), if_neg (by decide), if_pos rfl, v2]
  · rw [u19, x19, if_pos rfl]
  · show r5 4 45 3 < r5 4 45 1 * r5 4 45 2
    rw [v1, v2, v3]
    exact Int.mul_pos (by omega) (by omega)
  · exfalso
    have k1 : k < r5 4 45 3 := k1
    omega
