/-! Seconds off, on both sides. -/
theorem WV.cpt {c c' : Nat → Int → Int} {w : Int → Int} (h : WV c w) (h3 : c' 19 3 = c 19 3) (h4 : c' 19 4 = c 19 4) (h6 : c' 19 6 = c 19 6) (h22 : c' 22 = c 22) (h10 : c' 10 = c 10) : WV c' w :=
  ⟨by rw [h3]; exact h.1, by rw [h4]; exact h.2.1, h.2.2.1.pt h.2.2.2.2 (fun i => by rw [h22]) h6 (fun _ _ => rfl), h.2.2.2.1.pt h10 (fun _ _ => rfl), h.2.2.2.2⟩
/-- a second off -/
noncomputable def oB (m : zM) : zM := f230_1 (z_upd (z_upd m 4 45 15 (w64 (m 4 45 15 + 1))) 4 45 26 (w64 (z_upd m 4 45 15 (w64 (m 4 45 15 + 1)) 4 45 26 + 1)))
noncomputable def oN : Nat → zM → zM
  | 0, r => r
  | n + 1, r => oB (oN n r)
theorem oN_add (r : zM) : ∀ a b : Nat, oN (b + a) r = oN b (oN a r)
  | a, 0 => by rw [Nat.zero_add]; rfl
  | a, b + 1 => by
    show oN (b + 1 + a) r = oB (oN b (oN a r))
    rw [← oN_add r a b, show b + 1 + a = (b + a) + 1 by omega]
    rfl
theorem r282_N {k : zM → Int × zM} {a : Int} : ∀ (n : Nat) (y : Int) (r : zM), y ≤ a → a - y < n → fl282_89_1 k a n y r = k (oN (a - y).toNat r)
  | 0, y, r, h0, h1 => by omega
  | n + 1, y, r, h0, h1 => by
    show fl282_89_1_b (fl282_89_1 k a n) k a y r = _
    unfold fl282_89_1_b
    by_cases h : a ≤ y
    · rw [if_pos h, show (a - y).toNat = 0 by omega]
      rfl
    · rw [if_neg h, zn_a, zs_a, zn_a, zs_a, zs_a, r282_N n (y + 1) _ (by omega) (by omega), show (a - y).toNat = (a - (y + 1)).toNat + 1 by omega, oN_add r 1]
      rfl
/-- what a second off writes ahead of the time -/
theorem oB_up {m : zM} (h15 : 0 ≤ m 4 45 15 ∧ m 4 45 15 ≤ 1000000000) (h26 : 0 ≤ m 4 45 26 ∧ m 4 45 26 ≤ 1000000000) : ∃ m2, oB m = f230_1 m2 ∧ (∀ i, m2 4 45 i = if i = 26 then m 4 45 26 + 1 else if i = 15 then m 4 45 15 + 1 else m 4 45 i) ∧ ∀ g k, (g ≠ 4 ∨ k ≠ 45) → m2 g k = m g k := by
  refine ⟨_, rfl, fun i => ?_, fun g k hk => ?_⟩
  · have e : z_upd m 4 45 15 (w64 (m 4 45 15 + 1)) 4 45 26 = m 4 45 26 := by rw [zu_row, fu_i _ _ (by decide)]
    rw [e, w64_id (x := m 4 45 15 + 1) (by omega), w64_id (x := m 4 45 26 + 1) (by omega), zu_row, zu_row]
    rfl
  · rcases hk with hk | hk
    · rw [zu_g _ _ _ hk, zu_g _ _ _ hk]
    · rw [zu_k _ _ _ hk, zu_k _ _ _ hk]
/-- j seconds off, j of them ahead of a block's end -/
def OQ (j : Int) (r m : zM) : Prop := m 4 45 0 = r 4 45 0 + j ∧ m 4 45 15 = r 4 45 15 + j ∧ m 4 45 26 = r 4 45 26 + j ∧ m 4 45 27 = (if j = 0 then r 4 45 27 else zorN (r 4 45 27) (onV (r 4 45))) ∧ (∀ i, i ≠ 0 → i ≠ 15 → i ≠ 26 → i ≠ 27 → m 4 45 i = r 4 45 i) ∧ ∀ g k, (g ≠ 4 ∨ k ≠ 45) → m g k = r g k
theorem OQ.on {j : Int} {r m : zM} (h : OQ j r m) : onV (m 4 45) = onV (r 4 45) := onV_of (fun i i0 i1 => h.2.2.2.2.1 i (by omega) (by omega) (by omega) (by omega))
theorem OQ.z27 {j : Int} {r m : zM} (h : OQ j r m) : zorN (m 4 45 27) (onV (r 4 45)) = zorN (r 4 45 27) (onV (r 4 45)) := by
  by_cases e : j = 0
  · rw [h.2.2.2.1, if_pos e]
  · rw [h.2.2.2.1, if_neg e]
    unfold zorN
    rw [Int.toNat_natCast, Nat.or_assoc, Nat.or_self]
theorem OQ.r27 {j : Int} {r m : zM} (h : OQ j r m) (hb : b01 (r 4 45)) (h27 : 0 ≤ r 4 45 27 ∧ r 4 45 27 < 32) : 0 ≤ m 4 45 27 ∧ m 4 45 27 < 32 := by
  rw [h.2.2.2.1]
  split
  · exact h27
  · exact zorN_32 h27 (onV_r hb)
theorem OQ.z (r : zM) : OQ 0 r r := ⟨by rw [Int.add_zero], by rw [Int.add_zero], by rw [Int.add_zero], by rw [if_pos rfl], fun _ _ _ _ _ => rfl, fun _ _ _ => rfl⟩
theorem oN_q {r : zM} (hb : b01 (r 4 45)) (h15 : 0 ≤ r 4 45 15 ∧ r 4 45 15 + 3600 ≤ 1000000000) (h26 : 0 ≤ r 4 45 26 ∧ r 4 45 26 + 3600 ≤ 1000000000) (h27 : 0 ≤ r 4 45 27 ∧ r 4 45 27 < 32) : ∀ j : Nat, (j : Int) ≤ 3600 → (∀ i : Nat, i < j → (r 4 45 0 + i + 1) % r 4 45 8 ≠ 0) → r 4 45 0 + j ≤ 2000000000 → OQ j r (oN j r) := by
  intro j
  induction j with
  | zero =>
    intro _ _ _
    exact OQ.z r
  | succ j ih =>
    intro hj hq ht
    have ih := ih (by omega) (fun i hi => hq i (by omega)) (by omega)
    have hon := ih.on
    have hz := ih.z27
    have hr27 := ih.r27 hb h27
    obtain ⟨a0, a15, a26, a27, ai, ag⟩ := ih
    show OQ _ r (oB (oN j r))
    obtain ⟨m, em⟩ : ∃ m, m = oN j r := ⟨_, rfl⟩
    rw [← em] at a0 a15 a26 a27 ai ag hon hz hr27 ⊢
    obtain ⟨m2, e, w2, g2⟩ := oB_up (m := m) (by omega) (by omega)
    have bm : b01 (m2 4 45) := hb.of (fun i i0 i1 => by rw [w2, if_neg (by omega), if_neg (by omega), ai i (by omega) (by omega) (by omega) (by omega)])
    have om : onV (m2 4 45) = onV (r 4 45) := by
      rw [← hon]
      exact onV_of (fun i i0 i1 => by rw [w2, if_neg (by omega), if_neg (by omega)])
    have u0 : m2 4 45 0 = r 4 45 0 + j := by rw [w2, if_neg (by decide), if_neg (by decide), a0]
    have u8 : m2 4 45 8 = r 4 45 8 := by rw [w2, if_neg (by decide), if_neg (by decide), ai 8 (by decide) (by decide) (by decide) (by decide)]
    have u27 : m2 4 45 27 = m 4 45 27 := by rw [w2, if_neg (by decide), if_neg (by decide)]
    rw [e, goes_q (m := m2) bm (by rw [u27]; exact hr27) (by rw [u0]; omega) (by rw [u0, u8]; exact hq j (by omega)), om, u27, hz]
    have ww : ∀ i, z_upd (z_upd m2 4 45 27 (zorN (r 4 45 27) (onV (r 4 45)))) 4 45 0 (m2 4 45 0 + 1) 4 45 i = if i = 0 then m2 4 45 0 + 1 else if i = 27 then zorN (r 4 45 27) (onV (r 4 45)) else m2 4 45 i := fun i => by rw [zu_row, zu_row]; rfl
    refine ⟨?_, ?_, ?_, ?_, fun i i0 i1 i2 i3 => ?_, fun g k hk => ?_⟩
    · rw [ww, if_pos rfl, u0]
      omega
    · rw [ww, if_neg (by decide), if_neg (by decide), w2, if_neg (by decide), if_pos rfl, a15]
      omega
    · rw [ww, if_neg (by decide), if_neg (by decide), w2, if_pos rfl, a26]
      omega
    · rw [ww, if_neg (by decide), if_pos rfl, if_neg (by omega)]
    · rw [ww, if_neg i0, if_neg i3, w2, if_neg i2, if_neg i1, ai i i0 i1 i2 i3]
    · rw [← ag g k hk, ← g2 g k hk]
      rcases hk with hk | hk
      · rw [zu_g _ _ _ hk, zu_g _ _ _ hk]
      · rw [zu_k _ _ _ hk, zu_k _ _ _ hk]
/-- n seconds off, up to a block's end at most -/
theorem chunk_T {c r m3 : zM} {B A Z n : Int} (hr : OM B r) (h3 : OM B m3) (hB : B + 1 ≤ 1000000000) (h : MG A Z (c 0) (r 4 45)) (hA : A ≤ 5000000) (hn : 1 ≤ n ∧ n ≤ 3600) (hq : ∀ i : Nat, (i : Int) < n - 1 → (c 0 8 9 + i + 1) % r 4 45 8 ≠ 0) (hl : c 0 8 9 + n ≤ 2000000000) (h15 : c 0 8 15 + 3600 ≤ 1000000000)
    (e3 : m3 = z_upd (z_upd (f133_1 0 n (c 0 33 3) c) 0 8 15 (w32 (f133_1 0 n (c 0 33 3) c 0 8 15 + n))) 0 8 9 (z_upd (f133_1 0 n (c 0 33 3) c) 0 8 15 (w32 (f133_1 0 n (c 0 33 3) c 0 8 15 + n)) 0 8 9 + n)) :
    MG A Z (f59_1 0 (f27_1 0 (m3 0 8 9 - 1) m3) m3 0) (oN n.toNat r 4 45) ∧ f59_1 0 (f27_1 0 (m3 0 8 9 - 1) m3) m3 0 8 9 = c 0 8 9 + n ∧ f59_1 0 (f27_1 0 (m3 0 8 9 - 1) m3) m3 0 8 15 = c 0 8 15 + n ∧ (∀ k, k ≠ 8 → (k < 27 ∨ 32 < k) → f59_1 0 (f27_1 0 (m3 0 8 9 - 1) m3) m3 0 k = c 0 k) ∧
    (∀ i, (1 ≤ i ∧ i ≤ 14) ∨ (40 ≤ i ∧ i ≤ 787) ∨ (1611 ≤ i ∧ i ≤ 1618) ∨ (1172 ≤ i ∧ i ≤ 1606) → oN n.toNat r 4 45 i = r 4 45 i) ∧ ∀ i, 8 ≤ i → i ≤ 14 → i ≠ 9 → f59_1 0 (f27_1 0 (m3 0 8 9 - 1) m3) m3 0 8 i = c 0 8 i := by
  obtain ⟨hMV, hWV, hCR, hCB, hs, hp⟩ := id h
  have ht := hMV.t
  obtain ⟨n13, n14, n15⟩ := hMV.n
  obtain ⟨b1, b2, b3, b4, b5, b6, b7, b8, b9, b10⟩ := id hCB
  obtain ⟨l1, l2, l3, l4, l5⟩ := hMV.ld
  obtain ⟨lb3, lb4, lb5, lb6, lb7, lb8, lb9, lb10, lb11, lb12, lb13, lb14⟩ := id l5
  have hk := hMV.k
  have on0 := onV_r hk.1
  -- the class
  have f1 : f133_1 0 n (c 0 33 3) c = z_upd (z_upd c 0 27 7 (c 0 27 7 + n)) 0 27 8 (zorN (c 0 27 8) (onV (r 4 45))) := by
    unfold f133_1
    simp only [zn_a, zs_a]
    have e : z_upd c 0 27 7 (w32 (c 0 27 7 + n)) 0 27 8 = c 0 27 8 := by rw [zu_row, fu_i _ _ (by decide)]
    rw [e, hk.2.1, w32_id (x := c 0 27 7 + n) (by omega), zor_eq (by omega) (by omega)]
  have q27 : ∀ i, m3 0 27 i = if i = 8 then zorN (c 0 27 8) (onV (r 4 45)) else if i = 7 then c 0 27 7 + n else c 0 27 i := fun i => by
    rw [e3, zu_k _ _ _ (by decide), zu_k _ _ _ (by decide), f1, zu_row, zu_row]
    rfl
  have q8 : ∀ i, m3 0 8 i = if i = 9 then c 0 8 9 + n else if i = 15 then c 0 8 15 + n else c 0 8 i := fun i => by
    have x8 : ∀ i, f133_1 0 n (c 0 33 3) c 0 8 i = c 0 8 i := fun i => by rw [f1, zu_k _ _ _ (by decide), zu_k _ _ _ (by decide)]
    have x9 : z_upd (f133_1 0 n (c 0 33 3) c) 0 8 15 (w32 (f133_1 0 n (c 0 33 3) c 0 8 15 + n)) 0 8 9 = c 0 8 9 := by rw [zu_row, fu_i _ _ (by decide), x8]
    rw [e3, x9, x8, w32_id (x := c 0 8 15 + n) (by omega), zu_row, zu_row]
    show fu (fu (f133_1 0 n (c 0 33 3) c 0 8) 15 (c 0 8 15 + n)) 9 (c 0 8 9 + n) i = _
    unfold fu
    rw [x8]
  have qk : ∀ k, k ≠ 8 → k ≠ 27 → m3 0 k = c 0 k := fun k k8 k27 => by rw [e3, zu_k _ _ _ k8, zu_k _ _ _ k8, f1, zu_k _ _ _ k27, zu_k _ _ _ k27]
  clear e3 f1
  -- the reference
  obtain ⟨i, hi⟩ : ∃ i : Nat, (i : Int) = n - 1 := ⟨(n - 1).toNat, by omega⟩
  have Q := oN_q (r := r) hk.1 (by omega) (by omega) (by omega) i (by omega) (fun k hk => by rw [ht]; exact hq k (by omega)) (by omega)
  have hon := Q.on
  have hz := Q.z27
  have hr27 := Q.r27 hk.1 ⟨lb13, lb14⟩
  obtain ⟨a0, a15, a26, a27, ai, ag⟩ := Q
  have eN : oN n.toNat r = oB (oN i r) := by
    rw [tn_s hi]
    rfl
  rw [eN]
  obtain ⟨m, em⟩ : ∃ m, m = oN i r := ⟨_, rfl⟩
  rw [← em] at a0 a15 a26 a27 ai ag hon hz hr27 ⊢
  obtain ⟨m2, e, w2, g2⟩ := oB_up (m := m) (by omega) (by omega)
  have bm : b01 (m2 4 45) := hk.1.of (fun i i0 i1 => by rw [w2, if_neg (by omega), if_neg (by omega), ai i (by omega) (by omega) (by omega) (by omega)])
  have om : onV (m2 4 45) = onV (r 4 45) := by
    rw [← hon]
    exact onV_of (fun i i0 i1 => by rw [w2, if_neg (by omega), if_neg (by omega)])
  have u0 : m2 4 45 0 = r 4 45 0 + (n - 1) := by rw [w2, if_neg (by decide), if_neg (by decide), a0, hi]
  have u27 : m2 4 45 27 = m 4 45 27 := by rw [w2, if_neg (by decide), if_neg (by decide)]
  have e27 : zorL (m2 4 45 27) (f231_1 m2) = zorN (r 4 45 27) (onV (r 4 45)) := by
    rw [on_r bm, om, u27, zorL_eq (by omega) (by omega), hz]
  obtain ⟨r5, er5⟩ : ∃ x, x = z_upd (z_upd m2 4 45 27 (zorN (r 4 45 27) (onV (r 4 45)))) 4 45 0 (r 4 45 0 + n) := ⟨_, rfl⟩
  have v5 : ∀ i, r5 4 45 i = if i = 0 then r 4 45 0 + n else if i = 27 then zorN (r 4 45 27) (onV (r 4 45)) else if i = 26 then r 4 45 26 + n else if i = 15 then r 4 45 15 + n else r 4 45 i := fun i' => by
    rw [er5, zu_row, zu_row]
    unfold fu
    by_cases x0 : i' = 0
    · rw [if_pos x0, if_pos x0]
    rw [if_neg x0, if_neg x0]
    by_cases x1 : i' = 27
    · rw [if_pos x1, if_pos x1]
    rw [if_neg x1, if_neg x1, w2]
    by_cases x2 : i' = 26
    · rw [if_pos x2, if_pos x2, a26]
      omega
    rw [if_neg x2, if_neg x2]
    by_cases x3 : i' = 15
    · rw [if_pos x3, if_pos x3, a15]
      omega
    rw [if_neg x3, if_neg x3, ai i' x0 x3 x2 x1]
  have eF : oB m = if r5 4 45 0 % r5 4 45 8 = 0 then f232_1 0 r5 else r5 := by
    rw [e]
    unfold f230_1
    simp only [zn_a, zs_a]
    have y0 : z_upd m2 4 45 27 (zorL (m2 4 45 27) (f231_1 m2)) 4 45 0 = r 4 45 0 + (n - 1) := by rw [zu_row, fu_i _ _ (by decide), u0]
    rw [y0, if_neg (show ¬ r 4 45 0 + (n - 1) = 2000000000 by omega), e27, show r 4 45 0 + (n - 1) + 1 = r 4 45 0 + n by omega, ← er5]
  rw [eF]
  have s5 : ∀ i, i ≠ 0 → i ≠ 27 → i ≠ 26 → i ≠ 15 → r5 4 45 i = r 4 45 i := fun i x0 x1 x2 x3 => by rw [v5, if_neg x0, if_neg x1, if_neg x2, if_neg x3]
  -- both
  have k278 : m3 0 27 8 = zorN (r 4 45 27) (onV (r 4 45)) := by rw [q27, if_pos rfl, lb8]
  have z32 := zorN_32 (x := r 4 45 27) (y := onV (r 4 45)) ⟨lb13, lb14⟩ on0
  have ld5 : LD (m3 0) (r5 4 45) := by
    have w17 : r5 4 45 17 = r 4 45 17 := s5 17 (by decide) (by decide) (by decide) (by decide)
    have q : ∀ i, i ≠ 8 → i ≠ 7 → m3 0 27 i = c 0 27 i := fun i h8 h7 => by rw [q27, if_neg h8, if_neg h7]
    have w26 : r5 4 45 26 = r 4 45 26 + n := by rw [v5, if_neg (by decide), if_neg (by decide), if_pos rfl]
    have w27 : r5 4 45 27 = zorN (r 4 45 27) (onV (r 4 45)) := by rw [v5, if_neg (by decide), if_pos rfl]
    refine ⟨by rw [q 2 (by decide) (by decide), w17]; exact l1, by omega, ⟨fun i i0 i1 k k0 k1 => ?_, fun j j0 j1 k k0 k1 => ?_⟩, fun k k0 k1 => ?_, ?_⟩
    · rw [w17] at i1 ⊢
      rw [qk 28 (by decide) (by decide), s5 _ (by omega) (by omega) (by omega) (by omega)]
      exact l3.1 i i0 i1 k k0 k1
    · rw [w17] at j0
      rw [qk 28 (by decide) (by decide)]
      exact l3.2 j j0 j1 k k0 k1
    · rw [qk 29 (by decide) (by decide), s5 _ (by omega) (by omega) (by omega) (by omega)]
      exact l4 k k0 k1
    · have v7 : m3 0 27 7 = c 0 27 7 + n := by rw [q27, if_neg (by decide), if_pos rfl]
      unfold LB
      rw [q 3 (by decide) (by decide), q 4 (by decide) (by decide), q 5 (by decide) (by decide), q 6 (by decide) (by decide), v7, k278, w26, w27, s5 22 (by decide) (by decide) (by decide) (by decide), s5 23 (by decide) (by decide) (by decide) (by decide), s5 24 (by decide) (by decide) (by decide) (by decide), s5 25 (by decide) (by decide) (by decide) (by decide)]
      omega
  have od5 : OD (m3 0) (r5 4 45) := by
    have k9 : m3 0 27 9 = c 0 27 9 := by rw [q27, if_neg (by decide), if_neg (by decide)]
    unfold OD
    rw [s5 21 (by decide) (by decide) (by decide) (by decide), s5 8 (by decide) (by decide) (by decide) (by decide), k9]
    exact hMV.od
  have dm5 : DM (m3 0) (r5 4 45) := hMV.d.pt (fun k k0 k1 => qk k (by omega) (by omega)) (fun i hi => s5 i (by omega) (by omega) (by omega) (by omega))
  have st5 : ST (m3 0) (r5 4 45) := hWV.2.2.2.1.pt (qk 10 (by decide) (by decide)) (fun i hi => s5 i (by omega) (by omega) (by omega) (by omega))
  have cr5 : CR (m3 0) (r5 4 45) := (hCR.c (by rw [qk 11 (by decide) (by decide)]) (qk 12 (by decide) (by decide)) (qk 13 (by decide) (by decide)) (qk 14 (by decide) (by decide)) (qk 15 (by decide) (by decide)) (qk 16 (by decide) (by decide)) (qk 17 (by decide) (by decide)) (qk 18 (by decide) (by decide))).w (CB.of h3.2 0) (fun i i0 i1 => s5 i (by omega) (by omega) (by omega) (by omega))
  have m38 : m3 0 8 9 = c 0 8 9 + n := by rw [q8, if_pos rfl]
  have r50 : r5 4 45 0 = c 0 8 9 + n := by rw [v5, if_pos rfl, ht]
  have tc := h.1.t
  have t0 := hr.w
  have bt := q27_1 0 (m3 0 8 9 - 1) h3.1 h3.2 (by omega) (by omega) (by omega)
  obtain ⟨y1, y2, y3, y4, y5, y6, y7, y8, y9⟩ := goes_T (c := m3) (r := r5) (g := 0) (B := B) (tar := f27_1 0 (m3 0 8 9 - 1) m3) (by omega) h3 (fun i hi => by rw [s5 i (by omega) (by omega) (by omega) (by omega)]; exact r64_1607 hr hi) (by rw [s5 8 (by decide) (by decide) (by decide) (by decide)]; exact r45_8 hr.2.o 4) (by rw [s5 9 (by decide) (by decide) (by decide) (by decide)]; exact r45_9 hr.2.o 4) (by omega) ld5 od5 dm5 st5 (by rw [m38, r50]) (by
      have w26 : r5 4 45 26 = r 4 45 26 + n := by rw [v5, if_neg (by decide), if_neg (by decide), if_pos rfl]
      have w25 := s5 25 (by decide) (by decide) (by decide) (by decide)
      omega) (by omega) (fun m' hm' => by
        rw [r50, ← m38]
        exact (tf_eq (cr5.w (CB.of h3.2 0) hm') (CB.of h3.2 0) (by omega)).symm) hB
  obtain ⟨R, hR⟩ : ∃ x, x = (if r5 4 45 0 % r5 4 45 8 = 0 then f232_1 0 r5 else r5) := ⟨_, rfl⟩
  rw [← hR] at y1 y2 y3 y5 y6 y7 ⊢
  obtain ⟨C, hC⟩ : ∃ x, x = f59_1 0 (f27_1 0 (m3 0 8 9 - 1) m3) m3 := ⟨_, rfl⟩
  rw [← hC] at y1 y2 y3 y4 y8 y9 ⊢
  have Ck : ∀ k, k ≠ 8 → (k < 27 ∨ 32 < k) → C 0 k = c 0 k := fun k k8 hk => by rw [y4 0 k (.inr hk), qk k k8 (by omega)]
  have C8 : ∀ i, C 0 8 i = m3 0 8 i := fun i => by rw [y4 0 8 (by omega)]
  have C8k : ∀ i, i ≠ 9 → i ≠ 15 → C 0 8 i = c 0 8 i := fun i h9 h15 => by rw [C8, q8, if_neg h9, if_neg h15]
  have C89 : C 0 8 9 = c 0 8 9 + n := by rw [C8, m38]
  have C815 : C 0 8 15 = c 0 8 15 + n := by rw [C8, q8, if_neg (by decide), if_pos rfl]
  have Rw : ∀ i, i ≠ 0 → i ≠ 15 → (i < 17 ∨ 39 < i) → (i < 788 ∨ 1171 < i) → (i < 1607 ∨ 1610 < i) → R 4 45 i = r 4 45 i := fun i i0 i1 i2 i3 i4 => by rw [y5 i i2 i3 i4, s5 i i0 (by omega) (by omega) i1]
  have R28 : ∀ i, 28 ≤ i → i ≤ 31 → R 4 45 i = r 4 45 i := fun i i0 i1 => by rw [y7 i i0 i1, s5 i (by omega) (by omega) (by omega) (by omega)]
  refine ⟨MG.of ?_ ⟨?_, ?_, ?_⟩ (hMV.o.pt (fun i i0 i1 => C8k i (by omega) (by omega)) (fun i i0 i1 => Rw i (by omega) (by omega) (by omega) (by omega) (by omega))) (hMV.r.pt (Ck 24 (by decide) (by decide)) (fun i i0 i1 => Rw i (by omega) (by omega) (by omega) (by omega) (by omega))) (hk.pt (fun k k0 k1 => Ck k (by omega) (by omega)) (fun i i0 i1 => Rw i (by omega) (by omega) (by omega) (by omega) (by omega))) (hMV.l.pt (fun k hk => Ck k (by omega) (by omega)) (fun i hi => Rw i (by omega) (by omega) (by omega) (by omega) (by omega))) y3 y1 y2 ((hWV.pt (fun i hi => ?_)).cpt (by rw [Ck 19 (by decide) (by decide)]) (by rw [Ck 19 (by decide) (by decide)]) (by rw [Ck 19 (by decide) (by decide)]) (Ck 22 (by decide) (by decide)) (Ck 10 (by decide) (by decide))) ((hCR.c (by rw [Ck 11 (by decide) (by decide)]) (Ck 12 (by decide) (by decide)) (Ck 13 (by decide) (by decide)) (Ck 14 (by decide) (by decide)) (Ck 15 (by decide) (by decide)) (Ck 16 (by decide) (by decide)) (Ck 17 (by decide) (by decide)) (Ck 18 (by decide) (by decide))).w ?_ (fun i i0 i1 => Rw i (by omega) (by omega) (by omega) (by omega) (by omega))) ?_ ?_ ?_, C89, C815, Ck, fun i hi => Rw i (by omega) (by omega) (by omega) (by omega) (by omega), fun i i0 i1 i2 => C8k i i2 (by omega)⟩
  · rw [y5 0 (by omega) (by omega) (by omega), r50, C89]
  · rw [Rw 13 (by omega) (by omega) (by omega) (by omega) (by omega), C8k 13 (by decide) (by decide)]
    exact n13
  · rw [Rw 14 (by omega) (by omega) (by omega) (by omega) (by omega), C8k 14 (by decide) (by decide)]
    exact n14
  · rw [y5 15 (by omega) (by omega) (by omega), v5, if_neg (by decide), if_neg (by decide), if_neg (by decide), if_pos rfl, C815, n15]
  · by_cases h28 : 28 ≤ i ∧ i ≤ 31
    · exact R28 i h28.1 h28.2
    · exact Rw i (by omega) (by omega) (by omega) (by omega) (by omega)
  · obtain ⟨j1, j2⟩ := q59_1 0 (f27_1 0 (m3 0 8 9 - 1) m3) h3.1 h3.2 hB (by omega) bt
    rw [hC]
    exact CB.of j2.jb 0
  · have x27 : ∀ i, 3 ≤ i → i ≤ 8 → C 0 27 i = 0 ∨ C 0 27 i = m3 0 27 i := y8
    refine ⟨by rw [C8k 13 (by decide) (by decide)]; exact b1, fun i i0 i1 => by rw [Ck 24 (by decide) (by decide), C8k 13 (by decide) (by decide)]; exact b2 i i0 i1, fun i i0 i1 => ?_, ?_, by rw [C8k 14 (by decide) (by decide), C8k 13 (by decide) (by decide)]; exact b5, fun m m0 m1 => by rw [C8k 13 (by decide) (by decide), Ck 34 (by decide) (by decide), Ck 35 (by decide) (by decide), Ck 36 (by decide) (by decide)]; exact b6 m m0 m1, by rw [C8k 10 (by decide) (by decide), C8k 13 (by decide) (by decide)]; exact b7, ?_, by rw [C815]; omega, ?_⟩
    · rw [C8k 13 (by decide) (by decide)]
      rcases x27 i i0 (by omega) with e | e
      · rw [e]
        omega
      · rw [e, q27, if_neg (by omega), if_neg (by omega)]
        exact b3 i i0 i1
    · rw [C8k 13 (by decide) (by decide)]
      rcases x27 6 (by decide) (by decide) with e | e
      · rw [e]
        omega
      · rw [e, q27, if_neg (by decide), if_neg (by decide)]
        exact b4
    · rw [C815]
      rcases x27 7 (by decide) (by decide) with e | e
      · rw [e]
        omega
      · rw [e, q27, if_neg (by decide), if_pos rfl]
        omega
    · rcases x27 8 (by decide) (by decide) with e | e
      · rw [e]
        omega
      · rw [e, k278]
        exact z32
  · rw [C8k 12 (by decide) (by decide), C8k 11 (by decide) (by decide), C8k 10 (by decide) (by decide)]
    exact hs
  · rw [C8k 11 (by decide) (by decide)]
    exact hp
