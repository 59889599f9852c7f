/-! The end of a block on both sides. -/
theorem shl151 {k : zM → zM} {a b : Int} : ∀ (n : Nat) (y : Int) (m : zM), 6 ≤ y → y ≤ 384 → 384 - y < n → ∃ m', fl232_151_1 k a b n y m = k m' ∧ (∀ g k, (g ≠ 4 ∨ k ≠ 45) → m' g k = m g k) ∧ (∀ i, 782 + y ≤ i → i < 1166 → m' 4 45 i = m 4 45 (i + 6)) ∧ (∀ i, (i < 782 + y ∨ 1166 ≤ i) → m' 4 45 i = m 4 45 i)
  | 0, y, m, h0, h1, h2 => by omega
  | n + 1, y, m, h0, h1, h2 => by
    show ∃ m', fl232_151_1_b (fl232_151_1 k a b n) k a b y m = k m' ∧ _
    unfold fl232_151_1_b
    by_cases h : 384 ≤ y
    · rw [if_pos h]
      exact ⟨m, rfl, fun _ _ _ => rfl, fun i i0 i1 => by omega, fun _ _ => rfl⟩
    · rw [if_neg h, zs_a]
      obtain ⟨m', e, e1, e2, e3⟩ := shl151 (k := k) (a := a) (b := b) n (y + 1) (z_upd m 4 45 (788 + y - 6) (m 4 45 (788 + y))) (by omega) (by omega) (by omega)
      refine ⟨m', e, fun g k' hk => ?_, fun i i0 i1 => ?_, fun i hi => ?_⟩
      · rw [e1 g k' hk]
        rcases hk with hk | hk
        · rw [zu_g _ _ _ hk]
        · rw [zu_k _ _ _ hk]
      · by_cases e4 : i = 782 + y
        · rw [e3 i (by omega), zu_row, show i = 788 + y - 6 by omega, fu_s, show 788 + y - 6 + 6 = 788 + y by omega]
        · rw [e2 i (by omega) i1, zu_row, fu_i _ _ (by omega)]
      · rw [e3 i (by omega), zu_row, fu_i _ _ (by omega)]
theorem lost112 {k : zM → zM} {a b : Int} : ∀ (n : Nat) (y : Int) (m : zM), 0 ≤ y → y ≤ 4 → 4 - y < n → ∃ m', fl232_112_1 k a b n y m = k m' ∧ (∀ g k, (g ≠ 4 ∨ k ≠ 45) → m' g k = m g k) ∧ (∀ i, y ≤ i → i < 4 → m' 4 45 (1607 + i) = w64 (m 4 45 (1607 + i) + m 4 45 (788 + (1 + i)))) ∧ (∀ i, (i < 1607 + y ∨ 1611 ≤ i) → m' 4 45 i = m 4 45 i)
  | 0, y, m, h0, h1, h2 => by omega
  | n + 1, y, m, h0, h1, h2 => by
    show ∃ m', fl232_112_1_b (fl232_112_1 k a b n) k a b y m = k m' ∧ _
    unfold fl232_112_1_b
    by_cases h : 4 ≤ y
    · rw [if_pos h]
      exact ⟨m, rfl, fun _ _ _ => rfl, fun i i0 i1 => by omega, fun _ _ => rfl⟩
    · rw [if_neg h, zn_a, zn_a, zs_a]
      have e9 : f234_1 0 (1 + y) m = m 4 45 (788 + (1 + y)) := by
        unfold f234_1
        congr 1
      rw [e9]
      obtain ⟨m', e, e1, e2, e3⟩ := lost112 (k := k) (a := a) (b := b) n (y + 1) (z_upd m 4 45 (1607 + y) (w64 (m 4 45 (1607 + y) + m 4 45 (788 + (1 + y))))) (by omega) (by omega) (by omega)
      refine ⟨m', e, fun g k' hk => ?_, fun i i0 i1 => ?_, fun i hi => ?_⟩
      · rw [e1 g k' hk]
        rcases hk with hk | hk
        · rw [zu_g _ _ _ hk]
        · rw [zu_k _ _ _ hk]
      · by_cases e4 : i = y
        · rw [e3 _ (by omega), zu_row, e4, fu_s]
        · rw [e2 i (by omega) i1, zu_row, fu_i _ _ (by omega), fu_i _ _ (by omega)]
      · rw [e3 i (by omega), zu_row, fu_i _ _ (by omega)]
/-- the six numbers of a line are put -/
noncomputable def put6 (m : zM) (p s : Int) : zM := zs (z_upd m 4 45 17 ((m 4 45 17) + 1)) fun m541 => zs (z_upd m541 4 45 (788 + (6 * p)) (m541 4 45 0)) fun m544 => zs (z_upd m544 4 45 ((788 + (6 * p)) + 1) (m544 4 45 22)) fun m546 => zs (z_upd m546 4 45 ((788 + (6 * p)) + 2) (m546 4 45 23)) fun m548 => zs (z_upd m548 4 45 ((788 + (6 * p)) + 3) (m548 4 45 24)) fun m550 => zs (z_upd m550 4 45 ((788 + (6 * p)) + 4) (m550 4 45 25)) fun m552 => zs (z_upd m552 4 45 ((788 + (6 * p)) + 5) s) fun m554 => m554
theorem put6_e (m : zM) {p : Int} (s : Int) (hp : 0 ≤ p) : put6 m p s = z_upd (z_upd (z_upd (z_upd (z_upd (z_upd (z_upd m 4 45 17 (m 4 45 17 + 1)) 4 45 (788 + 6 * p) (m 4 45 0)) 4 45 (788 + 6 * p + 1) (m 4 45 22)) 4 45 (788 + 6 * p + 2) (m 4 45 23)) 4 45 (788 + 6 * p + 3) (m 4 45 24)) 4 45 (788 + 6 * p + 4) (m 4 45 25)) 4 45 (788 + 6 * p + 5) s := by
  unfold put6
  simp only [zs_a]
  have a0 : z_upd m 4 45 17 (m 4 45 17 + 1) 4 45 0 = m 4 45 0 := by rw [zu_row, fu_i _ _ (by omega)]
  rw [a0]
  have a1 : z_upd (z_upd m 4 45 17 (m 4 45 17 + 1)) 4 45 (788 + 6 * p) (m 4 45 0) 4 45 22 = m 4 45 22 := by rw [zu_row, fu_i _ _ (by omega), zu_row, fu_i _ _ (by omega)]
  rw [a1]
  have a2 : z_upd (z_upd (z_upd m 4 45 17 (m 4 45 17 + 1)) 4 45 (788 + 6 * p) (m 4 45 0)) 4 45 (788 + 6 * p + 1) (m 4 45 22) 4 45 23 = m 4 45 23 := by rw [zu_row, fu_i _ _ (by omega), zu_row, fu_i _ _ (by omega), zu_row, fu_i _ _ (by omega)]
  rw [a2]
  have a3 : z_upd (z_upd (z_upd (z_upd m 4 45 17 (m 4 45 17 + 1)) 4 45 (788 + 6 * p) (m 4 45 0)) 4 45 (788 + 6 * p + 1) (m 4 45 22)) 4 45 (788 + 6 * p + 2) (m 4 45 23) 4 45 24 = m 4 45 24 := by rw [zu_row, fu_i _ _ (by omega), zu_row, fu_i _ _ (by omega), zu_row, fu_i _ _ (by omega), zu_row, fu_i _ _ (by omega)]
  rw [a3]
  have a4 : z_upd (z_upd (z_upd (z_upd (z_upd m 4 45 17 (m 4 45 17 + 1)) 4 45 (788 + 6 * p) (m 4 45 0)) 4 45 (788 + 6 * p + 1) (m 4 45 22)) 4 45 (788 + 6 * p + 2) (m 4 45 23)) 4 45 (788 + 6 * p + 3) (m 4 45 24) 4 45 25 = m 4 45 25 := by rw [zu_row, fu_i _ _ (by omega), zu_row, fu_i _ _ (by omega), zu_row, fu_i _ _ (by omega), zu_row, fu_i _ _ (by omega), zu_row, fu_i _ _ (by omega)]
  rw [a4]
theorem put6_ok (m : zM) {p : Int} (s : Int) (hp : 0 ≤ p ∧ p < 64) : put6 m p s 4 45 17 = m 4 45 17 + 1 ∧ (∀ k, 0 ≤ k → k < 6 → put6 m p s 4 45 (788 + 6 * p + k) = v6 (m 4 45 0) (m 4 45 22) (m 4 45 23) (m 4 45 24) (m 4 45 25) s k) ∧ (∀ i, i ≠ 17 → ¬ (788 + 6 * p ≤ i ∧ i < 794 + 6 * p) → put6 m p s 4 45 i = m 4 45 i) ∧ (∀ g k, (g ≠ 4 ∨ k ≠ 45) → put6 m p s g k = m g k) := by
  rw [put6_e m s hp.1]
  refine ⟨?_, fun k k0 k1 => ?_, fun i i0 i1 => ?_, fun g k h => ?_⟩
  · simp only [zu_row]
    rw [fu_i _ _ (by omega), fu_i _ _ (by omega), fu_i _ _ (by omega), fu_i _ _ (by omega), fu_i _ _ (by omega), fu_i _ _ (by omega), fu_s]
  · simp only [zu_row]
    unfold fu v6
    repeat' split
    all_goals first | rfl | omega
  · simp only [zu_row]
    rw [fu_i _ _ (by omega), fu_i _ _ (by omega), fu_i _ _ (by omega), fu_i _ _ (by omega), fu_i _ _ (by omega), fu_i _ _ (by omega), fu_i _ _ i0]
  · rcases h with h | h
    · simp only [zu_g _ _ _ h]
    · simp only [zu_k _ _ _ h]
/-- what is told of a block, as the reference has it -/
noncomputable def stR (a : Int) (m : zM) : Int := zn (if (m 4 45 26) ≤ 0 then (0 : Int) else 32) fun v506 => zn (zorL (m 4 45 27) v506) fun z511 => zn (zorL z511 a) fun z512 => zn (if (m 4 45 21) = 1 then (128 : Int) else (zn (((m 4 45 0) % (m 4 45 8))) fun z517 => if z517 = 0 then (0) else (128))) fun v520 => zn (zorL z512 v520) fun z525 => z525
/-- a line more: the reference -/
theorem line_r (m : zM) (a : Int) (h17 : 0 ≤ m 4 45 17) (h0 : w64 (m 4 45 25 + m 4 45 26) ≠ 0) : ∃ m1, f232_1 a m = (if a = 0 then f236_1 (f233_1 m1) else f233_1 m1) ∧ m1 4 45 17 = m 4 45 17 + 1 ∧
    (∀ k, 0 ≤ k → k < 6 → m1 4 45 (788 + 6 * (min (m 4 45 17 + 1) 64 - 1) + k) = v6 (m 4 45 0) (m 4 45 22) (m 4 45 23) (m 4 45 24) (m 4 45 25) (stR a m) k) ∧
    (∀ j k, 0 ≤ j → j < min (m 4 45 17 + 1) 64 - 1 → 0 ≤ k → k < 6 → m1 4 45 (788 + 6 * j + k) = if m 4 45 17 < 64 then m 4 45 (788 + 6 * j + k) else m 4 45 (788 + 6 * (j + 1) + k)) ∧
    (∀ k, 0 ≤ k → k < 4 → m1 4 45 (1607 + k) = if m 4 45 17 < 64 then m 4 45 (1607 + k) else w64 (m 4 45 (1607 + k) + m 4 45 (788 + (1 + k)))) ∧
    (∀ i, i ≠ 17 → (i < 788 ∨ 1171 < i) → (i < 1607 ∨ 1610 < i) → m1 4 45 i = m 4 45 i) ∧ (∀ g k, (g ≠ 4 ∨ k ≠ 45) → m1 g k = m g k) := by
  have e235 : ∀ q : zM, f235_1 q = if q 4 45 17 < 64 then q 4 45 17 else 64 := fun q => rfl
  have hst : ∀ (f : Int → zM), (zn (if (m 4 45 26) ≤ 0 then (0 : Int) else 32) fun v506 => zn (zorL (m 4 45 27) v506) fun z511 => zn (zorL z511 a) fun z512 => zn (if (m 4 45 21) = 1 then (128 : Int) else (zn (((m 4 45 0) % (m 4 45 8))) fun z517 => if z517 = 0 then (0) else (128))) fun v520 => zn (zorL z512 v520) fun z525 => f z525) = f (stR a m) := fun f => rfl
  unfold f232_1
  rw [zn_a, if_neg h0]
  rw [hst]
  by_cases h : m 4 45 17 < 64
  · rw [if_pos h]
    refine ⟨put6 m (m 4 45 17) (stR a m), ?_, ?_⟩
    · rw [e235, zn_a, if_pos h, if_neg (by omega)]
      rfl
    · obtain ⟨p1, p2, p3, p4⟩ := put6_ok m (stR a m) (p := m 4 45 17) (by omega)
      refine ⟨p1, fun k k0 k1 => ?_, fun j k j0 j1 k0 k1 => ?_, fun k k0 k1 => ?_, fun i i0 i1 i2 => p3 i i0 (by omega), p4⟩
      · rw [show min (m 4 45 17 + 1) 64 - 1 = m 4 45 17 by omega]
        exact p2 k k0 k1
      · rw [if_pos h]
        exact p3 _ (by omega) (by omega)
      · rw [if_pos h]
        exact p3 _ (by omega) (by omega)
  · rw [if_neg h]
    obtain ⟨m1, e, e1, e2, e3⟩ := lost112 (k := fun m569 => fl232_151_1 (fun m573 => zn (f235_1 m573) fun v579 => zn (if 64 ≤ v579 then (63) else (zn (f235_1 m573) fun v583 => v583)) fun v584 => zs (z_upd m573 4 45 17 ((m573 4 45 17) + 1)) fun m590 => zs (z_upd m590 4 45 (788 + (6 * v584)) (m590 4 45 0)) fun m593 => zs (z_upd m593 4 45 ((788 + (6 * v584)) + 1) (m593 4 45 22)) fun m595 => zs (z_upd m595 4 45 ((788 + (6 * v584)) + 2) (m595 4 45 23)) fun m597 => zs (z_upd m597 4 45 ((788 + (6 * v584)) + 3) (m597 4 45 24)) fun m599 => zs (z_upd m599 4 45 ((788 + (6 * v584)) + 4) (m599 4 45 25)) fun m601 => zs (z_upd m601 4 45 ((788 + (6 * v584)) + 5) (stR a m)) fun m603 => zs (f233_1 m603) fun m605 => zs (if a = 0 then (zs (f236_1 m605) fun m610 => m610) else (m605)) fun m614 => m614) a (stR a m) (zfu 379) 6 m569) (a := a) (b := stR a m) (zfu 5) 0 m (by omega) (by omega) (by rw [zfu_eq]; omega)
    obtain ⟨m2, g, g1, g2, g3⟩ := shl151 (k := fun m573 => zn (f235_1 m573) fun v579 => zn (if 64 ≤ v579 then (63) else (zn (f235_1 m573) fun v583 => v583)) fun v584 => zs (z_upd m573 4 45 17 ((m573 4 45 17) + 1)) fun m590 => zs (z_upd m590 4 45 (788 + (6 * v584)) (m590 4 45 0)) fun m593 => zs (z_upd m593 4 45 ((788 + (6 * v584)) + 1) (m593 4 45 22)) fun m595 => zs (z_upd m595 4 45 ((788 + (6 * v584)) + 2) (m595 4 45 23)) fun m597 => zs (z_upd m597 4 45 ((788 + (6 * v584)) + 3) (m597 4 45 24)) fun m599 => zs (z_upd m599 4 45 ((788 + (6 * v584)) + 4) (m599 4 45 25)) fun m601 => zs (z_upd m601 4 45 ((788 + (6 * v584)) + 5) (stR a m)) fun m603 => zs (f233_1 m603) fun m605 => zs (if a = 0 then (zs (f236_1 m605) fun m610 => m610) else (m605)) fun m614 => m614) (a := a) (b := stR a m) (zfu 379) 6 m1 (by omega) (by omega) (by rw [zfu_eq]; omega)
    have q : ∀ i, i < 788 → m2 4 45 i = m 4 45 i := fun i hi => by rw [g3 i (by omega), e3 i (by omega)]
    refine ⟨put6 m2 63 (stR a m), ?_, ?_⟩
    · rw [e]
      try dsimp only
      rw [g, e235, zn_a, if_neg (show ¬ m2 4 45 17 < 64 by rw [q 17 (by omega)]; exact h), if_pos (by omega)]
      rfl
    · obtain ⟨p1, p2, p3, p4⟩ := put6_ok m2 (stR a m) (p := 63) (by omega)
      rw [q 17 (by omega)] at p1
      rw [q 0 (by omega), q 22 (by omega), q 23 (by omega), q 24 (by omega), q 25 (by omega)] at p2
      refine ⟨p1, fun k k0 k1 => ?_, fun j k j0 j1 k0 k1 => ?_, fun k k0 k1 => ?_, fun i i0 i1 i2 => ?_, fun g' k hk => ?_⟩
      · rw [show min (m 4 45 17 + 1) 64 - 1 = 63 by omega]
        exact p2 k k0 k1
      · rw [if_neg h, p3 _ (by omega) (by omega), g2 _ (by omega) (by omega), e3 _ (by omega)]
        congr 1
        omega
      · rw [if_neg h, p3 _ (by omega) (by omega), g3 _ (by omega), e2 k k0 k1]
      · rw [p3 i i0 (by omega), g3 i (by omega), e3 i (by omega)]
      · rw [p4 g' k hk, g1 g' k hk, e1 g' k hk]
/-- the class' status -/
theorem end_c (m : zM) (g : Nat) (t blk told : Int) (h6 : 0 ≤ m g 27 6 ∧ m g 27 6 ≤ 1000000000) (h7 : 0 ≤ m g 27 7 ∧ m g 27 7 ≤ 1000000000) :
    nul27 (if m g 27 6 + m g 27 7 ≤ 0 then m else f62_1 g t (zn (if m g 27 7 ≤ 0 then m g 27 8 else zn (zor (m g 27 8) 32) fun z => z) fun a => zn (if m g 27 9 % blk = 0 then a else zn (zor a 128) fun z => z) fun a => zn (zor a told) fun a => zn (if t % blk = 0 then a else zn (zor a 128) fun z => z) fun a => a) m) (f60_1 g t blk told m) g t := by
  unfold f60_1
  rw [zn_a, w32_id (by omega)]
  simp only [zs_a]
  exact nul27_ok _ g t
theorem r64_1607 {B : Int} {m : zM} (h : OM B m) {i : Int} (hi : 1607 ≤ i ∧ i ≤ 1610) : -9223372036854775808 ≤ m 4 45 i ∧ m 4 45 i ≤ 9223372036854775807 := by
  have h1 := h.2 4 45 i (jq_of rfl)
  unfold jl jh at h1
  rw [jf_no hi (jb 45) rfl] at h1
  exact h1
/-- what goes on of it, and whether the line is there -/
theorem ends_T {c r : zM} {g : Nat} {t blk told : Int} (hr : ∀ i, 1607 ≤ i ∧ i ≤ 1610 → -9223372036854775808 ≤ r 4 45 i ∧ r 4 45 i ≤ 9223372036854775807) (h : LD (c g) (r 4 45)) (ho : OD (c g) (r 4 45)) (ht : t = r 4 45 0) (hb : blk = r 4 45 8) (hto : told = 0 ∨ told = 64) :
    ∃ r1, (if r 4 45 25 + r 4 45 26 = 0 then f232_1 told r = r1 else f232_1 told r = (if told = 0 then f236_1 r1 else r1)) ∧ LD (f60_1 g t blk told c g) (r1 4 45) ∧ f60_1 g t blk told c g 27 9 = t ∧ r1 4 45 21 = (if r 4 45 0 % r 4 45 8 = 0 then 0 else 1) ∧
      (∀ g' k, (g' ≠ g ∨ (k ≠ 27 ∧ k ≠ 28 ∧ k ≠ 29)) → f60_1 g t blk told c g' k = c g' k) ∧ (∀ i, i ≠ 17 → (i < 21 ∨ 27 < i) → (i < 788 ∨ 1171 < i) → (i < 1607 ∨ 1610 < i) → r1 4 45 i = r 4 45 i) ∧ (∀ g k, (g ≠ 4 ∨ k ≠ 45) → r1 g k = r g k) ∧ (if r 4 45 25 + r 4 45 26 = 0 then r1 4 45 17 = r 4 45 17 else r1 4 45 17 = r 4 45 17 + 1 ∧ r1 4 45 (788 + 6 * (min (r 4 45 17 + 1) 64 - 1)) = r 4 45 0) := by
  obtain ⟨a1, a2, a3, a4, b3, b4, b5, b6, b7, b8, b9, b10, b11, b12, b13, b14⟩ := h
  obtain ⟨n1, n2, n3, n4⟩ := end_c c g t blk told (by omega) (by omega)
  by_cases hz : r 4 45 25 + r 4 45 26 = 0
  · rw [if_pos (show c g 27 6 + c g 27 7 ≤ 0 by omega)] at n3 n4
    obtain ⟨g1, g2, g3, g4⟩ := begin_r r
    refine ⟨f233_1 r, ?_, ?_, n2, g2, fun g' k hk => n4 g' k (by omega), fun i i0 i1 i2 i3 => g3 i i1, g4, ?_⟩
    · rw [if_pos hz]
      unfold f232_1
      rw [zn_a, w64_id (by omega), if_pos hz]
      rfl
    · unfold LD LB
      rw [n1 3 (by omega) (by omega), n1 4 (by omega) (by omega), n1 5 (by omega) (by omega), n1 6 (by omega) (by omega), n1 7 (by omega) (by omega), n1 8 (by omega) (by omega), g1 22 (by omega) (by omega), g1 23 (by omega) (by omega), g1 24 (by omega) (by omega), g1 25 (by omega) (by omega), g1 26 (by omega) (by omega), g1 27 (by omega) (by omega), n3 2 (by omega), g3 17 (by omega), n4 g 28 (.inr (by decide)), n4 g 29 (.inr (by decide))]
      refine ⟨a1, a2, ⟨fun i i0 i1 k k0 k1 => ?_, a3.2⟩, fun k k0 k1 => ?_, rfl, rfl, rfl, rfl, rfl, rfl, by omega, by omega, by omega, by omega, by omega, by omega⟩
      · rw [g3 _ (by omega)]
        exact a3.1 i i0 i1 k k0 k1
      · rw [g3 _ (by omega)]
        exact a4 k k0 k1
    · rw [if_pos hz]
      exact g3 17 (by omega)
  · rw [if_neg (show ¬ c g 27 6 + c g 27 7 ≤ 0 by omega)] at n3 n4
    obtain ⟨m1, e, l17, ln, lo, ll, lx, lg⟩ := line_r r told a2 (by rw [w64_id (by omega)]; exact hz)
    obtain ⟨g1, g2, g3, g4⟩ := begin_r m1
    have hst := (stat_eq (m := c g 27 8) (off := c g 27 7) (told := told) (z1 := 0) (z2 := 0) (by omega) hto (c g 27 9 % blk = 0) (t % blk = 0)).1
    obtain ⟨p1, p2, p3, p4, p5⟩ := line_c c g t (zn (if c g 27 7 ≤ 0 then c g 27 8 else zn (zor (c g 27 8) 32) fun z => z) fun a => zn (if c g 27 9 % blk = 0 then a else zn (zor a 128) fun z => z) fun a => zn (zor a told) fun a => zn (if t % blk = 0 then a else zn (zor a 128) fun z => z) fun a => a)
    generalize (zn (if c g 27 7 ≤ 0 then c g 27 8 else zn (zor (c g 27 8) 32) fun z => z) fun a => zn (if c g 27 9 % blk = 0 then a else zn (zor a 128) fun z => z) fun a => zn (zor a told) fun a => zn (if t % blk = 0 then a else zn (zor a 128) fun z => z) fun a => a) = S at n3 n4 hst p1 p2 p3 p4 p5
    have hS : S = stR told r := by
      rw [hst]
      unfold stR
      simp only [zn_a]
      unfold OD at ho
      rw [b7, b8, ho, ht, hb]
    rw [hS] at p1 p2 p3 p4 p5 n3 n4
    have q : ∀ k, k ≠ 27 → f60_1 g t blk told c g k = f62_1 g t (stR told r) c g k := fun k hk => n4 g k (.inr hk)
    have L : LL (r 4 45 17 + 1) (f62_1 g t (stR told r) c g 28) (m1 4 45) := by
      refine a3.add a2 (f := v6 t (c g 27 3) (c g 27 4) (c g 27 5) (c g 27 6) (stR told r)) (fun i => ?_) (fun k k0 k1 => ?_) lo
      · rw [p1 i, a1]
      · rw [ln k k0 k1, ht, b3, b4, b5, b6]
    refine ⟨f233_1 m1, ?_, ?_, n2, ?_, fun g' k hk => ?_, fun i i0 i1 i2 i3 => ?_, fun g' k hk => ?_, ?_⟩
    · rw [if_neg hz]
      exact e
    · unfold LD LB
      rw [n1 3 (by omega) (by omega), n1 4 (by omega) (by omega), n1 5 (by omega) (by omega), n1 6 (by omega) (by omega), n1 7 (by omega) (by omega), n1 8 (by omega) (by omega), g1 22 (by omega) (by omega), g1 23 (by omega) (by omega), g1 24 (by omega) (by omega), g1 25 (by omega) (by omega), g1 26 (by omega) (by omega), g1 27 (by omega) (by omega), n3 2 (by omega), g3 17 (by omega), q 28 (by decide), q 29 (by decide), p3, l17]
      refine ⟨by omega, by omega, ⟨fun i i0 i1 k k0 k1 => ?_, L.2⟩, fun k k0 k1 => ?_, rfl, rfl, rfl, rfl, rfl, rfl, by omega, by omega, by omega, by omega, by omega, by omega⟩
      · rw [g3 _ (by omega)]
        exact L.1 i i0 i1 k k0 k1
      · rw [g3 _ (by omega), ll k k0 k1, p2 k k0 k1, a4 k k0 k1, a1]
        by_cases h64 : r 4 45 17 < 64
        · rw [if_pos h64, show r 4 45 17 % 64 * 6 + 1 + k = r 4 45 17 * 6 + (1 + k) by omega, a3.2 _ (Int.le_refl _) h64 (1 + k) (by omega) (by omega)]
          have h9 := hr (1607 + k) (by omega)
          rw [Int.add_zero, w64_id h9]
        · rw [if_neg h64]
          have h9 := a3.1 63 (by omega) (by omega) (1 + k) (by omega) (by omega)
          rw [show r 4 45 17 % 64 * 6 + 1 + k = (r 4 45 17 - 1 - 63) % 64 * 6 + (1 + k) by omega, h9, show 788 + 6 * (min (r 4 45 17) 64 - 1 - 63) + (1 + k) = 788 + (1 + k) by omega]
    · rw [g2, lx 0 (by omega) (by omega) (by omega), lx 8 (by omega) (by omega) (by omega)]
    · rw [n4 g' k (by omega)]
      exact p5 g' k hk
    · rw [g3 i i1, lx i i0 i2 i3]
    · rw [g4 g' k hk, lg g' k hk]
    · rw [if_neg hz, g3 17 (by omega), l17, g3 _ (by omega)]
      refine ⟨by first | rfl | trivial, ?_⟩
      have h9 := ln 0 (by omega) (by omega)
      rw [Int.add_zero] at h9
      exact h9
