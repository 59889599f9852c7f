section
/-! Bounds that what is kept of lines, demands and bills stays in (the class alone). -/
def LN (c : Nat → Int → Int) : Prop := ∀ j, 0 ≤ j → j < 64 → 0 ≤ c 28 (j * 6 + 1) ∧ c 28 (j * 6 + 1) ≤ 49300000000000
def DB (c : Nat → Int → Int) : Prop := ∀ t, 0 ≤ t → t < 4 → -1 ≤ c 31 t ∧ c 31 t ≤ 295800000000000
def BL (c : Nat → Int → Int) : Prop := (∀ i, 0 ≤ i → i < 28 → 0 ≤ c 25 i ∧ c 25 i ≤ c 24 i) ∧ (∀ j i, 0 ≤ j → j < 6 → 0 ≤ i → i < 28 → 0 ≤ c 26 (j * 33 + i) ∧ c 26 (j * 33 + i) ≤ 49300000000000) ∧ ∀ j k, 0 ≤ j → j < 6 → 0 ≤ k → k < 4 → -1 ≤ c 26 (j * 33 + (28 + k)) ∧ c 26 (j * 33 + (28 + k)) ≤ 295800000000000
def XI (c : Nat → Int → Int) : Prop := LN c ∧ DB c ∧ BL c
theorem LN.of {c c' : Nat → Int → Int} (h : LN c) (e : ∀ i, 0 ≤ i → i < 384 → c' 28 i = c 28 i) : LN c' := fun j j0 j1 => by
  rw [e _ (by omega) (by omega)]
  exact h j j0 j1
theorem DB.of {c c' : Nat → Int → Int} (h : DB c) (e : ∀ t, 0 ≤ t → t < 4 → c' 31 t = c 31 t) : DB c' := fun t t0 t1 => by
  rw [e t t0 t1]
  exact h t t0 t1
theorem BL.of {c c' : Nat → Int → Int} (h : BL c) (e24 : ∀ i, 0 ≤ i → i < 28 → c 24 i ≤ c' 24 i) (e25 : ∀ i, 0 ≤ i → i < 28 → c' 25 i = c 25 i) (e26 : ∀ i, 0 ≤ i → i < 198 → c' 26 i = c 26 i) : BL c' := by
  obtain ⟨h1, h2, h3⟩ := h
  refine ⟨fun i i0 i1 => ?_, fun j i j0 j1 i0 i1 => ?_, fun j k j0 j1 k0 k1 => ?_⟩
  · have a := h1 i i0 i1
    have b := e24 i i0 i1
    rw [e25 i i0 i1]
    omega
  · rw [e26 _ (by omega) (by omega)]
    exact h2 j i j0 j1 i0 i1
  · rw [e26 _ (by omega) (by omega)]
    exact h3 j k j0 j1 k0 k1
theorem XI.fe {c c' : Nat → Int → Int} (h : XI c) (h5 : FE 5 c c') (h7 : FE 7 c c') (h8 : FE 8 c c') (h10 : FE 10 c c') : XI c' :=
  ⟨h.1.of (fun i i0 i1 => h7.p28_0 i i0 (by omega)), h.2.1.of (fun i i0 i1 => h8.p31_0 i i0 (by omega)), h.2.2.of (fun i i0 i1 => Int.le_of_eq (h10.p24_0 i i0 (by omega)).symm) (fun i i0 i1 => h5.p25_0 i i0 (by omega)) (fun i i0 i1 => h5.p26_0 i i0 (by omega))⟩
/-- a block's end -/
theorem end_LN {m : zM} {g : Nat} {t blk told : Int} (h6 : 0 ≤ m g 27 6 ∧ m g 27 6 ≤ 1000000000) (h7 : 0 ≤ m g 27 7 ∧ m g 27 7 ≤ 1000000000) (h3 : 0 ≤ m g 27 3 ∧ m g 27 3 ≤ 49300000000000) (h : LN (m g)) : LN (f60_1 g t blk told m g) ∧ ∀ k, k < 27 ∨ 29 < k → f60_1 g t blk told m g k = m g k := by
  obtain ⟨-, -, -, n4⟩ := end_c m g t blk told h6 h7
  refine ⟨fun j j0 j1 => ?_, fun k hk => ?_⟩
  · rw [n4 g 28 (.inr (by decide))]
    split
    · exact h j j0 j1
    · rw [(line_c m g t _).1]
      split
      · rename_i q
        have e : j * 6 + 1 - m g 27 2 % 64 * 6 = 1 := by omega
        rw [e]
        unfold v6
        rw [if_neg (by decide), if_pos rfl]
        exact h3
      · exact h j j0 j1
  · rw [n4 g k (.inr (by omega))]
    split
    · rfl
    · rw [(line_c m g t _).2.2.2.2 g k (.inr (by omega))]
/-- the sum of some lines -/
theorem sum_LN {c : zM} {g : Nat} {win : Int} (h : LN (c g)) : ∀ (n : Nat) (s y : Int), 0 ≤ y → 0 ≤ s → s ≤ 49300000000000 * y → y ≤ 64 → win ≤ 64 → 0 ≤ win → y ≤ win → win - y < n → 0 ≤ fl68_5_1 (fun v => v) g 0 win c n s y ∧ fl68_5_1 (fun v => v) g 0 win c n s y ≤ 49300000000000 * win
  | 0, s, y, h0, h1, h2, h3, h4, h5, h6, h7 => by omega
  | n + 1, s, y, h0, h1, h2, h3, h4, h5, h6, h7 => by
    show 0 ≤ fl68_5_1_b (fl68_5_1 (fun v => v) g 0 win c n) (fun v => v) g 0 win c s y ∧ fl68_5_1_b (fl68_5_1 (fun v => v) g 0 win c n) (fun v => v) g 0 win c s y ≤ _
    unfold fl68_5_1_b
    by_cases e : 0 + win ≤ y
    · rw [if_pos e]
      show 0 ≤ s ∧ s ≤ _
      omega
    · have b := h ((c g 27 2 - 1 - y) % 64) (by omega) (by omega)
      rw [if_neg e, zn_a, w64_id (by omega)]
      exact sum_LN h n _ (y + 1) (by omega) (by omega) (by omega) (by omega) h4 h5 (by omega) (by omega)
theorem dem_X {m : zM} {g : Nat} {win blk tar : Int} (h : LN (m g)) (hd : DB (m g)) (hw : 0 ≤ win ∧ win ≤ 6) (ht : 0 ≤ tar ∧ tar < 4) : DB (f64_1 g g win blk tar m g) ∧ ∀ k, k < 30 ∨ 32 < k → f64_1 g g win blk tar m g k = m g k := by
  rw [f64_k]
  by_cases e : f65_1 g win blk m = 0
  · rw [if_pos e]
    exact ⟨hd, fun _ _ => rfl⟩
  rw [if_neg e]
  have b : 0 ≤ f68_1 g 0 win m ∧ f68_1 g 0 win m ≤ 49300000000000 * win := sum_LN h (zfu 128) 0 0 (by omega) (by omega) (by omega) (by omega) (by omega) (by omega) (by omega) (by rw [zfu_eq]; omega)
  generalize f68_1 g 0 win m = S at b ⊢
  unfold dcK
  simp only [zn_a, zs_a]
  generalize w32 (z_upd m g 30 2 S g 28 (((z_upd m g 30 2 S g 27 2 - 1 - 0) % 64 * 6) + 0)) = T
  have q31 : z_upd (z_upd m g 30 2 S) g 30 3 T g 31 = m g 31 := by rw [zu_k _ _ _ (by decide), zu_k _ _ _ (by decide)]
  have q30 : z_upd (z_upd m g 30 2 S) g 30 3 T g 30 2 = S := by rw [zu_row, fu_i _ _ (by decide), zu_row, fu_s]
  rw [q30]
  by_cases f : S ≤ z_upd (z_upd m g 30 2 S) g 30 3 T g 31 tar
  · rw [if_pos f]
    exact ⟨hd.of (fun t _ _ => by rw [q31]), fun k hk => by rw [zu_k _ _ _ (by omega), zu_k _ _ _ (by omega)]⟩
  · rw [if_neg f]
    refine ⟨fun t t0 t1 => ?_, fun k hk => by rw [zu_k _ _ _ (by omega), zu_k _ _ _ (by omega), zu_k _ _ _ (by omega), zu_k _ _ _ (by omega)]⟩
    rw [zu_k _ _ _ (show (31 : Nat) ≠ 32 by decide), zu_row]
    by_cases x : t = tar
    · rw [x, fu_s]
      omega
    · rw [fu_i _ _ x, q31]
      exact hd t t0 t1
theorem f59_X {m : zM} {g : Nat} {tar : Int} (h6 : 0 ≤ m g 27 6 ∧ m g 27 6 ≤ 1000000000) (h7 : 0 ≤ m g 27 7 ∧ m g 27 7 ≤ 1000000000) (h3 : 0 ≤ m g 27 3 ∧ m g 27 3 ≤ 49300000000000) (hw : 0 ≤ m g 10 5 ∧ m g 10 5 ≤ 6) (ht : 0 ≤ tar ∧ tar < 4) (h : LN (m g)) (hd : DB (m g)) : LN (f59_1 g tar m g) ∧ DB (f59_1 g tar m g) ∧ ∀ k, k < 27 ∨ 32 < k → f59_1 g tar m g k = m g k := by
  unfold f59_1
  simp only [zn_a, zs_a]
  split
  · obtain ⟨a1, a2⟩ := end_LN (t := m g 8 9) (blk := max 1 (m g 10 4)) (told := 0) h6 h7 h3 h
    generalize f60_1 g (m g 8 9) (max 1 (m g 10 4)) 0 m = m1 at a1 a2 ⊢
    obtain ⟨b1, b2⟩ := dem_X (win := m1 g 10 5) (blk := max 1 (m g 10 4)) (tar := tar) a1 (hd.of (fun t _ _ => by rw [a2 31 (.inr (by decide))])) (by rw [a2 10 (.inl (by decide))]; exact hw) ht
    exact ⟨a1.of (fun i _ _ => by rw [b2 28 (.inl (by decide))]), b1, fun k hk => by rw [b2 k (by omega), a2 k (by omega)]⟩
  · exact ⟨h, hd, fun _ _ => rfl⟩
/-- a stretch of seconds -/
theorem cS_X {c r : zM} {g : Nat} {B n tar seen A Z : Int} (hg : g < 3) (hc : OM B c) (hr : OM B r) (hB : B + 20 ≤ 1000000000) (hwv : WV (c g) (r 4 45)) (hcb : CBD A Z (c g)) (hA : A ≤ 2890000) (hob : c g 8 12 = 0 ∨ c g 8 12 = 1) (hn : 1 ≤ n ∧ n ≤ 3600) (ht : 0 ≤ tar ∧ tar < 4) (hseen : -2147483648 ≤ seen ∧ seen ≤ 2147483647) (h9 : c g 8 9 + (n - 1) ≤ 2000000000) (hx : XI (c g)) : XI (cS g n tar seen c g) := by
  obtain ⟨s0, s1, s2, s3, s4, s5, s6, -, -, -, s10⟩ := id hwv.2.2.2.1
  obtain ⟨bP, bQ, bS⟩ := hwv.sums
  have hu := r45_5 hr.2.o 4
  have hp : ∀ t, 0 ≤ t → t < 4 → 0 ≤ r 4 45 (28 + t) ∧ r 4 45 (28 + t) ≤ 100 := fun t t0 t1 => r45_28 hr.2.o 4 (by omega)
  obtain ⟨D, hD⟩ : ∃ D : Int → Int, ∀ q, D q = DL (c g 8 12) (c g 22 3) (c g 22 7) (c g 19 6) (c g 10 0) q := ⟨_, fun _ => rfl⟩
  have hDb : ∀ q, 0 ≤ D q ∧ D q ≤ 17000000 := fun q => by
    rw [hD q]
    unfold DL
    split
    · exact dl_b bP bQ bS q
    · omega
  obtain ⟨cb1, cb2, cb3, cb4, cb5, cb6, cb7, cb8, cb9, cb10⟩ := hcb
  have hFB : FB g c := ⟨bP, bQ, bS, fun i i0 i1 => by have := cb2 i i0 i1; omega, by omega, fun t t0 t1 => by rw [s6 t t0 t1]; exact hp t t0 t1, by omega, by have := cb3 3 (by omega) (by omega); omega, by have := cb3 4 (by omega) (by omega); omega, by have := cb3 5 (by omega) (by omega); omega, by omega, hob⟩
  obtain ⟨f1, f2, f3, f4, f5, f6, f7, f8, f9⟩ := flow_c (n := n) (tar := tar) hFB (by omega) ht hD
  obtain ⟨j1, j2⟩ := q49_1 g n tar hc.1 hc.2 (by omega) hg (by omega) (by omega)
  have o1 : OM B (f49_1 g n tar c) := ⟨j1, j2.jb⟩
  have tc := hc.t g
  have nD : ∀ q, 0 ≤ n * D q ∧ n * D q ≤ 3600 * 17000000 := fun q => mul_le3 (by omega) (by omega) (hDb q).1 (hDb q).2
  have r105 := r10_5 hc.2.o g
  have f24 : ∀ i, 0 ≤ i → i < 28 → c g 24 i ≤ f49_1 g n tar c g 24 i := fun i i0 i1 => by
    have e := f1 (i / 4) (i % 4) (by omega) (by omega) (by omega) (by omega)
    rw [show i / 4 * 4 + i % 4 = i by omega] at e
    have z := nD (i / 4)
    rw [e]
    split <;> omega
  unfold cS
  simp only [zn_a, zs_a]
  rw [f8 13 (by decide) (by decide), w32_id (x := c g 8 13 + n) (by omega)]
  obtain ⟨c1, ec1⟩ : ∃ x, x = f49_1 g n tar c := ⟨_, rfl⟩
  rw [← ec1] at f1 f2 f3 f4 f5 f6 f7 f8 f9 o1 f24 ⊢
  have o2 := u8_13 (g := g) (x := c g 8 13 + n) o1 (by omega)
  have t2 : z_upd c1 g 8 13 (c g 8 13 + n) g 8 9 = c g 8 9 := by rw [zu_row, fu_i _ _ (by decide), f8 9 (by decide) (by decide)]
  rw [t2]
  have o3 := u8_9 (g := g) (x := c g 8 9 + (n - 1)) o2 (by omega)
  obtain ⟨c3, ec3⟩ : ∃ x, x = z_upd (z_upd c1 g 8 13 (c g 8 13 + n)) g 8 9 (c g 8 9 + (n - 1)) := ⟨_, rfl⟩
  rw [← ec3] at o3 ⊢
  have dk : ∀ k, k ≠ 8 → c3 g k = c1 g k := fun k hk => by rw [ec3, zu_k _ _ _ hk, zu_k _ _ _ hk]
  obtain ⟨k1, k2⟩ := q53_1 g o3.1 o3.2 (by omega) hg
  have o4 : OM (B + 1) (f53_1 g c3) := ⟨k1, k2.jb⟩
  obtain ⟨c4, ec4⟩ : ∃ x, x = f53_1 g c3 := ⟨_, rfl⟩
  rw [← ec4] at k2 o4 ⊢
  have u10 := r10_0 (i := 3) o4.2.o g (by omega)
  have u9 := o4.t g
  obtain ⟨k3, k4⟩ := q56_1 g g n seen (c4 g 10 3) (c4 g 8 9) o4.1 o4.2 (by omega) hg hg (by omega) hseen (by omega) (by omega)
  obtain ⟨c5, ec5⟩ : ∃ x, x = f56_1 g g n seen (c4 g 10 3) (c4 g 8 9) c4 := ⟨_, rfl⟩
  rw [← ec5] at k4 ⊢
  have fe : ∀ n, n = 5 ∨ n = 7 ∨ n = 8 ∨ n = 10 ∨ n = 3 → FE n (c3 g) (c5 g) := fun n hn => by
    rcases hn with e | e | e | e | e <;> subst e
    · exact (FE.j k2 g 5 rfl).trans (FE.j k4 g 5 rfl)
    · exact (FE.j k2 g 7 rfl).trans (FE.j k4 g 7 rfl)
    · exact (FE.j k2 g 8 rfl).trans (FE.j k4 g 8 rfl)
    · exact (FE.j k2 g 10 rfl).trans (FE.j k4 g 10 rfl)
    · exact (FE.j k2 g 3 rfl).trans (FE.j k4 g 3 rfl)
  have e5 := fe 5 (.inl rfl)
  have e7 := fe 7 (.inr (.inl rfl))
  have e8 := fe 8 (.inr (.inr (.inl rfl)))
  have e10 := fe 10 (.inr (.inr (.inr (.inl rfl))))
  have e3 := fe 3 (.inr (.inr (.inr (.inr rfl))))
  unfold f58_1
  simp only [zn_a, zs_a]
  have b6 : c5 g 27 6 = c g 27 6 := by rw [e7.p27_2 6 (by omega) (by omega), dk 27 (by decide), f7 6 (by decide) (by decide) (by decide)]
  have b7 : c5 g 27 7 = c g 27 7 := by rw [e7.p27_2 7 (by omega) (by omega), dk 27 (by decide), f7 7 (by decide) (by decide) (by decide)]
  have b3 : c5 g 27 3 = c g 27 3 + n * D 0 := by rw [e7.p27_2 3 (by omega) (by omega), dk 27 (by decide), f4]
  rw [b6, w32_id (x := c g 27 6 + n) (by omega)]
  generalize zor (z_upd c5 g 27 6 (c g 27 6 + n) g 27 8) (c5 g 33 3) = Y
  obtain ⟨c6, ec6⟩ : ∃ x, x = z_upd (z_upd c5 g 27 6 (c g 27 6 + n)) g 27 8 Y := ⟨_, rfl⟩
  rw [← ec6]
  have d6 : ∀ k, k ≠ 27 → c6 g k = c5 g k := fun k hk => by rw [ec6, zu_k _ _ _ hk, zu_k _ _ _ hk]
  have d27 : ∀ i, c6 g 27 i = if i = 8 then Y else if i = 6 then c g 27 6 + n else c5 g 27 i := fun i => by rw [ec6, zu_row, zu_row]; rfl
  obtain ⟨c7, ec7⟩ : ∃ x, x = (if 2000000000 ≤ c6 g 8 9 then c6 else z_upd c6 g 8 9 (c6 g 8 9 + 1)) := ⟨_, rfl⟩
  rw [← ec7]
  have d7 : ∀ k, k ≠ 8 → c7 g k = c6 g k := fun k hk => by
    rw [ec7]
    split
    · rfl
    · rw [zu_k _ _ _ hk]
  have z3 := cb3 3 (by omega) (by omega)
  have zn0 := nD 0
  obtain ⟨x1, x2, x3⟩ := hx
  have l7 : LN (c7 g) := x1.of (fun i i0 i1 => by rw [d7 28 (by decide), d6 28 (by decide), e7.p28_0 i i0 (by omega), dk 28 (by decide), f9 g 28 (.inr (by decide))])
  have l8 : DB (c7 g) := x2.of (fun t t0 t1 => by rw [d7 31 (by decide), d6 31 (by decide), e8.p31_0 t t0 (by omega), dk 31 (by decide), f9 g 31 (.inr (by decide))])
  obtain ⟨y1, y2, y3⟩ := f59_X (m := c7) (g := g) (tar := tar) (by rw [d7 27 (by decide), d27, if_neg (by decide), if_pos rfl]; omega) (by rw [d7 27 (by decide), d27, if_neg (by decide), if_neg (by decide), b7]; omega) (by rw [d7 27 (by decide), d27, if_neg (by decide), if_neg (by decide), b3]; omega)
    (by rw [d7 10 (by decide), d6 10 (by decide), e3.p10_0 5 (by omega) (by omega), dk 10 (by decide), f9 g 10 (.inr (by decide))]; omega) ht l7 l8
  refine ⟨y1, y2, x3.of (fun i i0 i1 => ?_) (fun i i0 i1 => ?_) (fun i i0 i1 => ?_)⟩
  · rw [y3 24 (.inl (by decide)), d7 24 (by decide), d6 24 (by decide), e10.p24_0 i i0 (by omega), dk 24 (by decide)]
    exact f24 i i0 i1
  · rw [y3 25 (.inl (by decide)), d7 25 (by decide), d6 25 (by decide), e5.p25_0 i i0 (by omega), dk 25 (by decide), f9 g 25 (.inr (by decide))]
  · rw [y3 26 (.inl (by decide)), d7 26 (by decide), d6 26 (by decide), e5.p26_0 i i0 (by omega), dk 26 (by decide), f9 g 26 (.inr (by decide))]
theorem XI.rows {c c' : Nat → Int → Int} (h : XI c) (e : ∀ k, 24 ≤ k → k ≤ 31 → k ≠ 27 → k ≠ 29 → k ≠ 30 → c' k = c k) : XI c' :=
  ⟨h.1.of (fun i _ _ => by rw [e 28 (by decide) (by decide) (by decide) (by decide) (by decide)]), h.2.1.of (fun i _ _ => by rw [e 31 (by decide) (by decide) (by decide) (by decide) (by decide)]), h.2.2.of (fun i _ _ => Int.le_of_eq (by rw [e 24 (by decide) (by decide) (by decide) (by decide) (by decide)])) (fun i _ _ => by rw [e 25 (by decide) (by decide) (by decide) (by decide) (by decide)]) (fun i _ _ => by rw [e 26 (by decide) (by decide) (by decide) (by decide) (by decide)])⟩
theorem f26_X {c r : zM} {g : Nat} {B a A Z : Int} (hg : g < 3) (hc : OM B c) (hr : OM B r) (hB : B + 20 ≤ 1000000000) (hwv : WV (c g) (r 4 45)) (hcb : CBD A Z (c g)) (hA : A ≤ 2890000) (hop : c g 8 12 = shO (c g 8 11) (c g 8 10)) (ha : 1 ≤ a ∧ a ≤ 3600) (hx : XI (c g)) : XI ((f26_1 g a c).2 g) := by
  have tc := hc.t g
  have t0 := q27_1 g (c g 8 9) hc.1 hc.2 (by omega) (by omega) (by omega)
  have u2 := r10_0 (i := 2) hc.2.o g (by omega)
  have s0 := q34_1 g (c g 10 2) hc.1 hc.2 (by omega) hg u2
  obtain ⟨p1, p2, p3, p4⟩ := q35_1 g a (f27_1 g (c g 8 9) c) (f34_1 g (c g 10 2) c) hc.1 hc.2 (by omega) hg ha t0 s0 (by omega)
  have hob : c g 8 12 = 0 ∨ c g 8 12 = 1 := by
    rw [hop]
    unfold shO
    repeat' split
    all_goals omega
  rw [f26_k]
  exact cS_X hg hc hr hB hwv hcb hA hob p1 (by omega) s0 (by omega) hx
end
section
/-! A stretch is as many seconds of the reference. -/
noncomputable def fN : Nat → zM → zM
  | 0, r => r
  | n + 1, r => f208_1 (fN n r)
theorem fN_add (r : zM) : ∀ a b : Nat, fN (b + a) r = fN b (fN a r)
  | a, 0 => by rw [Nat.zero_add]; rfl
  | a, b + 1 => by
    show fN (b + 1 + a) r = f208_1 (fN b (fN a r))
    rw [← fN_add r a b, show b + 1 + a = (b + a) + 1 by omega]
    rfl
theorem sec_row {B : Int} {m0 m : zM} (h : J (zQ [26, 27, 28, 29, 30, 31, 32, 33] [4]) m0 B m) {k : Nat} (hk : k ≠ 45) : m 4 k = m0 4 k := h.row k (by
  unfold jp
  split <;> first | rfl | exact absurd rfl hk) rfl 4
/-- what seconds leave of the reference's row -/
def keepW (w w' : Int → Int) : Prop := ∀ i, (1 ≤ i ∧ i ≤ 9) ∨ i = 18 ∨ (28 ≤ i ∧ i ≤ 31) ∨ (95 ≤ i ∧ i ≤ 787) ∨ (1172 ≤ i ∧ i ≤ 1486) ∨ (1611 ≤ i ∧ i ≤ 1618) → w' i = w i
theorem keepW.trans {a b c : Int → Int} (h : keepW a b) (h' : keepW b c) : keepW a c := fun i hi => (h' i hi).trans (h i hi)
theorem fN_keep {r : zM} {B : Int} (ho : OM B r) : ∀ n : Nat, B + 11 * (n : Int) ≤ 1000000000 → OM (B + 11 * (n : Int)) (fN n r) ∧ keepW (r 4 45) (fN n r 4 45) ∧ (∀ g k, (g ≠ 4 ∨ k ≠ 45) → fN n r g k = r g k)
  | 0, _ => ⟨ho.up (by omega), fun _ _ => rfl, fun _ _ _ => rfl⟩
  | n + 1, hB => by
    obtain ⟨h1, h2, h3⟩ := fN_keep ho n (by omega)
    obtain ⟨k1, k2, k3⟩ := sec_keep h1 (by omega)
    refine ⟨k1.up (by omega), h2.trans k2, fun g k hk => ?_⟩
    show f208_1 (fN n r) g k = r g k
    rw [← h3 g k hk]
    by_cases hg : g = 4
    · subst hg
      exact sec_row k3 (by omega)
    · rw [jy k3 (by simpa using hg)]
theorem tn_s {n : Int} {i : Nat} (h : (i : Int) = n - 1) : n.toNat = i + 1 := by omega
/-- the tariff of a stretch -/
theorem tar_T {c r : zM} {g : Nat} {x s : Int} (h : CR (c g) (r 4 45)) (hb : CB (c g)) (x0 : 0 ≤ x) (hs : x ≤ s) (hs2 : s < f37_1 g x c) : ∀ m : zM, (∀ i, 287 ≤ i → i ≤ 787 → m 4 45 i = r 4 45 i) → f217_1 s m = f27_1 g x c := fun m hm => by
  have h1 : CR (c g) (m 4 45) := h.w hb hm
  rw [← tf_eq h1 hb (by omega)]
  exact held_const h hb x0 hs hs2
theorem stretch_T {c r : zM} {g : Nat} {B a A Z : Int} (hg : g < 3) (hMV : MV (c g) (r 4 45)) (hc : OM B c) (hr : OM B r) (hB : B + 40000 ≤ 1000000000) (hwv : WV (c g) (r 4 45)) (hcr : CR (c g) (r 4 45)) (hcb : CBD A Z (c g)) (hA : A ≤ 4990000) (hZ : Z ≤ 900000000) (hop : c g 8 12 = shO (c g 8 11) (c g 8 10)) (hpre : c g 8 11 = 0 ∨ c g 8 11 = 1) (ha : 1 ≤ a ∧ a ≤ 3600) :
    ∃ n c', f26_1 g a c = (n, c') ∧ 1 ≤ n ∧ n ≤ a ∧ MV (c' g) (fN n.toNat r 4 45) ∧ c' g 8 12 = shO (c' g 8 11) (c' g 8 10) ∧ c' g 8 11 = c g 8 11 ∧ CBD (A + n) Z (c' g) ∧ (c' g 8 13 = c g 8 13 + n ∧ c' g 8 15 = c g 8 15 ∧ c' g 8 10 ≤ c g 8 10) ∧ OM (B + 8) c' ∧ (∀ k, 1 ≤ k → k ≤ 5 → FE k (c g) (c' g)) ∧ (∀ g', g' ≠ g → c' g' = c g') ∧ (∀ i : Nat, (i : Int) < n → fN i r 4 45 12 = c g 8 12) := by
  have hbC := CB.of hc.2 g
  have tc := hc.t g
  obtain ⟨e0, -⟩ := id hMV
  have hst := hwv.2.2.2.1
  obtain ⟨s0, s1, s2, s3, s4, s5, s6, -, -, -, s10⟩ := id hst
  obtain ⟨bP, bQ, bS⟩ := hwv.sums
  have hu := r45_5 hr.2.o 4
  have h7 := r45_7 hr.2.o 4
  have hp : ∀ t, 0 ≤ t → t < 4 → 0 ≤ r 4 45 (28 + t) ∧ r 4 45 (28 + t) ≤ 100 := fun t t0 t1 => r45_28 hr.2.o 4 (by omega)
  -- what is seen, which tariff
  obtain ⟨tar, etar⟩ : ∃ x, x = f27_1 g (c g 8 9) c := ⟨_, rfl⟩
  obtain ⟨seen, eseen⟩ : ∃ x, x = f34_1 g (c g 10 2) c := ⟨_, rfl⟩
  have htb : 0 ≤ tar ∧ tar ≤ 3 := by rw [etar]; exact q27_1 g (c g 8 9) hc.1 hc.2 (by omega) (by omega) (by omega)
  have hsb : -2147483648 ≤ seen ∧ seen ≤ 2147483647 := by rw [eseen]; exact q34_1 g (c g 10 2) hc.1 hc.2 (by omega) hg (r10_0 hc.2.o g (i := 2) (by omega))
  obtain ⟨so, eso⟩ : ∃ so : Int → Int, so = fun y => if zand (zshr seen y) 1 = 1 then (1 : Int) else 0 := ⟨_, rfl⟩
  have hso2 : ∀ y, 2 ≤ y → y < 5 → (so y = 0 ∨ so y = 1) ∧ (if zand (zshr seen y) 1 = 1 then (1 : Int) else 0) = so y := fun y _ _ => by
    rw [eso]
    refine ⟨?_, rfl⟩
    dsimp only
    split
    · exact .inr rfl
    · exact .inl rfl
  have hso : ∀ m' : zM, WV (c g) (m' 4 45) → ∀ y, 2 ≤ y → y < 5 → soR y m' = so y := fun m' hm y y0 y1 => by
    obtain ⟨x1, x2, x3, x4, x5⟩ := hm
    have h9 := (seen_T (g := g) (low := c g 10 2) x5 x3 x1 x2 x4.2.2.1 y y0 y1).2
    rw [← eseen] at h9
    rw [eso]
    exact h9.symm
  obtain ⟨D, eD⟩ : ∃ D : Int → Int, D = fun q => DL (c g 8 12) (c g 22 3) (c g 22 7) (c g 19 6) (c g 10 0) q := ⟨_, rfl⟩
  have hD : ∀ q, D q = DL (c g 8 12) (c g 22 3) (c g 22 7) (c g 19 6) (c g 10 0) q := fun q => by rw [eD]
  obtain ⟨K, hK⟩ : ∃ K, K = if crp (c g 8 12) (c g 22 3) (c g 22 7) (c g 10 0) = 0 then (0 : Int) else 1 := ⟨_, rfl⟩
  obtain ⟨q26a, q26b, q26c⟩ := q26_1 g a hc.1 hc.2 (by omega) hg ha ha.1
  -- how long
  obtain ⟨n, en⟩ : ∃ n, n = f35_1 g a tar seen c := ⟨_, rfl⟩
  have hn : (1 ≤ n ∧ n ≤ a) ∧ (1 < n → c g 8 9 + n ≤ 2000000000 ∧ c g 8 9 + n ≤ f37_1 g (c g 8 9) c ∧ c g 8 9 % r 4 45 8 + n ≤ r 4 45 8 ∧ (∀ w : Int → Int, b01 w → c g 33 3 = onV w → ∀ m, 2 ≤ m → m < 5 → (w (40 + m) = 1 → so m = 1) ∧ (w (40 + m) = 0 → so m = 1 → c g 36 m + n ≤ c g 10 3 + 1)) ∧
      (c g 8 11 ≠ 0 → c g 8 12 = 0 → ∀ j, 0 ≤ j → j < n → 0 < c g 8 10 - ((c g 24 tar + j * D 0) / c g 10 1 - c g 24 tar / c g 10 1) * c g 10 (6 + tar))) := by
    rw [en]
    unfold f35_1
    by_cases hL : c g 8 9 < 2000000000
    case neg =>
      rw [if_neg hL]
      exact ⟨by omega, fun h9 => by omega⟩
    rw [if_pos hL]
    simp only [zn_a]
    have hh := (held_next hcr hbC tc.1 0).1
    rw [show max 1 (c g 10 4) = r 4 45 8 by omega]
    have b8 := r45_8 hr.2.o 4
    have hmod0 : 0 ≤ c g 8 9 % r 4 45 8 := Int.emod_nonneg _ (by omega)
    have hmod1 : c g 8 9 % r 4 45 8 < r 4 45 8 := Int.emod_lt_of_pos _ (by omega)
    obtain ⟨M, hM⟩ : ∃ M, M = min (min (min a (2000000000 - c g 8 9)) (f37_1 g (c g 8 9) c - c g 8 9)) (r 4 45 8 - c g 8 9 % r 4 45 8) := ⟨_, rfl⟩
    rw [← hM]
    obtain ⟨-, cb2, cb3, -, cb5, cb6, cb7, -⟩ := id hcb
    have cb1 := hcb.1
    have hlen : ∀ m, 2 ≤ m → m < 5 → 0 ≤ c g 36 m ∧ c g 36 m ≤ 1000000000 := fun m m0 m1 => by have := cb6 m (by omega) m1; omega
    have hMK := hMV.2.2.2.2.2.2.2.2.2.1
    obtain ⟨v, ev, v1, v2, v3⟩ := turn_T (c := c) (g := g) (seen := seen) (delay := c g 10 3) (a := M) (w := r 4 45) (so := so) hMK.1 hMK.2.1 hlen (by omega) (by omega) hso2
    rw [ev]
    have hob : c g 8 12 = 0 ∨ c g 8 12 = 1 := by
      rw [hop]
      unfold shO
      repeat' split
      all_goals omega
    have hFB : FB g c := ⟨bP, bQ, bS, fun i i0 i1 => by have := cb2 i i0 i1; omega, by omega, fun t t0 t1 => by rw [s6 t t0 t1]; exact hp t t0 t1, by omega, by have := cb3 3 (by omega) (by omega); omega, by have := cb3 4 (by omega) (by omega); omega, by have := cb3 5 (by omega) (by omega); omega, by omega, hob⟩
    obtain ⟨u, eu, u1, u2, u3⟩ := open_T2 (c := c) (g := g) (tar := tar) (a := v) hFB (by omega) (by omega) (by omega) (fun h11 h12 => by
      rw [hop] at h12
      unfold shO at h12
      have : c g 8 11 = 1 := by omega
      rw [if_pos this] at h12
      by_cases h9 : c g 8 10 ≤ 0
      · rw [if_pos h9] at h12
        omega
      · omega) hD
    rw [eu]
    refine ⟨by omega, fun h9 => ⟨by omega, by omega, by omega, fun w hw ho m m0 m1 => ?_, fun h11 h12 j j0 j1 => u3 h11 h12 j j0 j1 h9⟩⟩
    obtain ⟨v', ev', v1', v2', v3'⟩ := turn_T (c := c) (g := g) (seen := seen) (delay := c g 10 3) (a := M) (w := w) (so := so) hw ho hlen (by omega) (by omega) hso2
    have evv : v' = v := ev'.symm.trans ev
    obtain ⟨x1, x2⟩ := v3' (by omega) m m0 m1
    exact ⟨x1, fun h8 h7 => by have := x2 h8 h7; omega⟩
  obtain ⟨⟨n0, n1⟩, hn2⟩ := hn
  -- all but the last second
  have key : ∀ i : Nat, (i : Int) < n → QJ D K i tar so (c g) (fN i r 4 45) := by
    intro i
    induction i with
    | zero => exact fun _ => hMV.qj D so K tar
    | succ i ih =>
      intro hi
      have hQ := ih (by omega)
      obtain ⟨x1, x2, x3, x4, x5⟩ := hn2 (by omega)
      obtain ⟨k1, k2, k3⟩ := fN_keep hr i (by omega)
      have wv := hwv.pt (w' := fN i r 4 45) (fun i' hi' => k2 i' (by omega))
      have ci : fN i r 4 45 0 = c g 8 9 + i := hQ.1
      have r8 : fN i r 4 45 8 = r 4 45 8 := k2 8 (by omega)
      have h9 := quiet_T (c := c) (r := fN i r) (g := g) (B := B + 11 * (i : Int)) (j := (i : Int)) (tar := tar) (K := K) (A := A) (Z := Z) (D := D) (so := so) hQ k1 (by omega) wv hcb (by omega) hop hpre hD hK (by omega) (by omega)
        (fun m' hm' => by
          rw [hm' 0 (.inl rfl), ci, etar]
          exact tar_T hcr hbC tc.1 (by omega) (by omega) m' (fun i' i0 i1 => by rw [hm' i' (.inr ⟨i0, i1⟩), k2 i' (by omega)]))
        hso (fun y y0 y1 => (hso2 y y0 y1).1) (by omega)
        (by
          rw [ci, r8]
          rcases s10 with h | h | h | h | h <;> rw [h] at x3 ⊢ <;> omega)
        (fun h11 h12 => x5 (by omega) h12 ((i : Int) + 1) (by omega) (by omega))
        (fun m m0 m1 => by
          have hk0 := hQ.2.2.2.2.2.2.1.1
          obtain ⟨y1, y2⟩ := x4 (fN i r 4 45) hk0.1 hk0.2.1 m m0 m1
          exact ⟨y1, fun z1 z2 => by have := y2 z1 z2; omega⟩)
      rw [show ((i + 1 : Nat) : Int) = (i : Int) + 1 by omega]
      exact h9
  -- the last
  obtain ⟨i, hi⟩ : ∃ i : Nat, (i : Int) = n - 1 := ⟨(n - 1).toNat, by omega⟩
  have hQ := key i (by omega)
  obtain ⟨k1, k2, k3⟩ := fN_keep hr i (by omega)
  have wv := hwv.pt (w' := fN i r 4 45) (fun i' hi' => k2 i' (by omega))
  have ci : fN i r 4 45 0 = c g 8 9 + i := hQ.1
  have hh := (held_next hcr hbC tc.1 0).1
  have hheld : c g 8 9 + (i : Int) < f37_1 g (c g 8 9) c := by
    by_cases h1 : 1 < n
    · have := (hn2 h1).2.1
      omega
    · omega
  have T := tar_T hcr hbC tc.1 (s := c g 8 9 + (i : Int)) (by omega) hheld
  obtain ⟨f1, f2, f3, f4, f5, f6, f7, f8⟩ := final_T (c := c) (r := fN i r) (g := g) (B := B + 11 * (i : Int)) (j := (i : Int)) (n := n) (tar := tar) (seen := seen) (K := K) (A := A) (Z := Z) (D := D) (so := so) hg hQ (hc.up (by omega)) k1 (by omega) wv hcb (by omega) hZ hop hpre hD hK (by omega) (by omega) (by omega) hsb
    (fun m' hm' => by
      rw [hm' 0 (.inl rfl), ci, etar]
      exact T m' (fun i' i0 i1 => by rw [hm' i' (.inr ⟨i0, i1⟩), k2 i' (by omega)]))
    (fun m hm => by
      rw [ci, etar]
      exact T m (fun i' i0 i1 => by rw [hm i' i0 i1, k2 i' (by omega)]))
    hso hso2 (fun y y0 y1 h9 h8 => by
      by_cases h1 : 1 < n
      · have hk0 := hQ.2.2.2.2.2.2.1.1
        have := ((hn2 h1).2.2.2.1 (fN i r 4 45) hk0.1 hk0.2.1 y y0 y1).1 h9
        omega
      · omega)
  have eN : fN n.toNat r = f208_1 (fN i r) := by
    rw [tn_s hi]
    rfl
  have e26 : f26_1 g a c = (n, cS g n tar seen c) := by rw [f26_k, ← etar, ← eseen, ← en]
  rw [e26] at q26a q26b
  refine ⟨n, cS g n tar seen c, e26, n0, n1, by rw [eN]; exact f1, f2, f3, f4, ⟨f6, f7, f8⟩, ⟨q26a, q26b.jb⟩, fun k k0 k1 => ?_, fun g' hg' => jy q26b (by simpa using hg'), fun i' hi' => (key i' hi').2.2.2.2.1⟩
  rcases (show k = 1 ∨ k = 2 ∨ k = 3 ∨ k = 4 ∨ k = 5 by omega) with rfl | rfl | rfl | rfl | rfl
  · exact FE.j q26b g 1 rfl
  · exact FE.j q26b g 2 rfl
  · exact FE.j q26b g 3 rfl
  · exact FE.j q26b g 4 rfl
  · exact FE.j q26b g 5 rfl
end
section
/-! Many seconds: again, in thought. -/
theorem CBD.up {A A' Z Z' : Int} {c : Nat → Int → Int} (h : CBD A Z c) (hA : A ≤ A') (hZ : Z ≤ Z') : CBD A' Z' c := by
  obtain ⟨h1, h2, h3, h4, h5, h6, h7⟩ := h
  exact ⟨by omega, h2, h3, h4, h5, fun m m0 m1 => by have := h6 m m0 m1; omega, h7⟩
theorem WV.ce {c c' : Nat → Int → Int} {w : Int → Int} (h : WV c w) (h2 : FE 2 c c') (h3 : FE 3 c c') : WV c' w := by
  obtain ⟨a1, a2, a3, a4, a5⟩ := h
  exact ⟨by rw [h2.p19_3 3 (by omega) (by omega)]; exact a1, by rw [h2.p19_3 4 (by omega) (by omega)]; exact a2, a3.fe a5 h2 (FW.rf 2 w), a4.fe h3 (FW.rf 3 w), a5⟩
/-- prepaid, off, credit: what seconds do -/
def KC (c c' : Nat → Int → Int) : Prop := c' 8 11 = c 8 11 ∧ c' 8 15 = c 8 15 ∧ c' 8 10 ≤ c 8 10 ∧ (XI c → XI c')
theorem KC.rf (c : Nat → Int → Int) : KC c c := ⟨rfl, rfl, Int.le_refl _, fun h => h⟩
theorem KC.trans {a b c : Nat → Int → Int} (h : KC a b) (h' : KC b c) : KC a c := ⟨h'.1.trans h.1, h'.2.1.trans h.2.1, Int.le_trans h'.2.2.1 h.2.2.1, fun x => h'.2.2.2 (h.2.2.2 x)⟩
/-- class and reference as far as seconds move them -/
def MG (A Z : Int) (c : Nat → Int → Int) (w : Int → Int) : Prop := MV c w ∧ WV c w ∧ CR c w ∧ CBD A Z c ∧ c 8 12 = shO (c 8 11) (c 8 10) ∧ (c 8 11 = 0 ∨ c 8 11 = 1)
theorem jf_mem2 {i : Int} {p : Int × Int} : ∀ l : List (Int × Int × Int × Int), jf l i = some p → ∃ q, q ∈ l ∧ q.1 ≤ i ∧ i ≤ q.2.1 ∧ q.2.2 = p
  | [], h => by cases h
  | z :: r, h => by
    unfold jf at h
    split at h
    · rename_i h1
      exact ⟨z, List.mem_cons_self, h1.1, h1.2, by injection h⟩
    · obtain ⟨q, h1, h2⟩ := jf_mem2 r h
      exact ⟨q, List.mem_cons_of_mem _ h1, h2⟩
theorem ja1_in {i : Int} (h : ja 45 i = 1 + 20) : 287 ≤ i ∧ i ≤ 787 := by
  unfold ja at h
  cases e : jf (jp 45) i with
  | none => rw [e] at h; exact absurd h (by decide)
  | some q =>
    rw [e] at h
    obtain ⟨x, h1, h2, h3, h4⟩ := jf_mem2 _ e
    subst h4
    have hx : ∀ x, x ∈ jp 45 → x.2.2.1.toNat = 21 → x = (287, 787, 21, 0) := by decide
    have := hx x h1 h
    subst this
    exact ⟨h2, h3⟩
theorem stretch_G {c r : zM} {g : Nat} {B a A Z : Int} (hg : g < 3) (h : MG A Z (c g) (r 4 45)) (hc : OM B c) (hr : OM B r) (hB : B + 40000 ≤ 1000000000) (hA : A ≤ 2890000) (hZ : Z ≤ 900000000) (ha : 1 ≤ a ∧ a ≤ 3600) :
    ∃ n c', f26_1 g a c = (n, c') ∧ 1 ≤ n ∧ n ≤ a ∧ MG (A + n) Z (c' g) (fN n.toNat r 4 45) ∧ KC (c g) (c' g) ∧ OM (B + 8) c' ∧ (∀ k, 1 ≤ k → k ≤ 5 → FE k (c g) (c' g)) ∧ (∀ g', g' ≠ g → c' g' = c g') ∧ (∀ i : Nat, (i : Int) < n → fN i r 4 45 12 = c g 8 12) := by
  obtain ⟨h1, h2, h3, h4, h5, h6⟩ := h
  obtain ⟨n, c', e, n0, n1, m1, m2, m3, m4, m5, m6, m7, m8, m9⟩ := stretch_T hg h1 hc hr hB h2 h3 h4 (by omega) hZ h5 h6 ha
  obtain ⟨-, k2, -⟩ := fN_keep hr n.toNat (by omega)
  refine ⟨n, c', e, n0, n1, ⟨m1, (h2.pt (fun i hi => k2 i (by omega))).ce (m7 2 (by omega) (by omega)) (m7 3 (by omega) (by omega)), ?_, m4, m2, by rw [m3]; exact h6⟩, ⟨m3, m5.2.1, m5.2.2, fun hx => by
    have y := f26_X hg hc hr (by omega) h2 h4 (by omega) h5 ha hx
    rw [e] at y
    exact y⟩, m6, m7, m8, m9⟩
  exact h3.fe (CB.of hc.2 g) (m7 1 (by omega) (by omega)) (fun i i0 i1 e9 => by
    have hi : 287 ≤ i ∧ i ≤ 787 := ja1_in e9
    exact k2 i (by omega))
theorem times_loop {g : Nat} (hg : g < 3) {a Z : Int} (ha : 1 ≤ a ∧ a ≤ 3600) (hZ : Z ≤ 900000000) : ∀ (n : Nat) (y2 y3 : Int) (c r : zM) (B A : Int), MG A Z (c g) (r 4 45) → OM B c → OM B r → 0 ≤ y2 → 0 ≤ y3 → y2 + y3 ≤ a → a - y3 < n → B + 11 * y2 + 40000 ≤ 1000000000 → A + y2 ≤ 2890000 →
    ∃ c', fl25_4_1 (fun m => m) g a n y2 y3 c = c' ∧ MG (A + y2) Z (c' g) (fN y2.toNat r 4 45) ∧ KC (c g) (c' g) ∧ (∀ k, 1 ≤ k → k ≤ 5 → FE k (c g) (c' g)) ∧ (∀ g', g' ≠ g → c' g' = c g')
  | 0, y2, y3, c, r, B, A, h, hc, hr, h0, h1, h2, h3, hB, hA => by omega
  | n + 1, y2, y3, c, r, B, A, h, hc, hr, h0, h1, h2, h3, hB, hA => by
    show ∃ c', fl25_4_1_b (fl25_4_1 (fun m => m) g a n) (fun m => m) g a y2 y3 c = c' ∧ _
    unfold fl25_4_1_b
    by_cases h4 : a ≤ y3
    · rw [if_pos h4]
      have e : y2 = 0 := by omega
      subst e
      exact ⟨c, rfl, by rw [Int.add_zero]; exact h, KC.rf _, fun k _ _ => FE.rf k _, fun _ _ => rfl⟩
    rw [if_neg h4]
    by_cases h5 : y2 ≤ 0
    · rw [if_pos h5]
      have e : y2 = 0 := by omega
      subst e
      exact ⟨c, rfl, by rw [Int.add_zero]; exact h, KC.rf _, fun k _ _ => FE.rf k _, fun _ _ => rfl⟩
    rw [if_neg h5]
    obtain ⟨v, c1, e, v0, v1, m1, m2, m3, m4, m5, -⟩ := stretch_G hg h hc hr (by omega) (by omega) hZ (a := y2) (by omega)
    obtain ⟨k1, -, -⟩ := fN_keep hr v.toNat (by omega)
    rw [e, zb_a]
    obtain ⟨c', e', x1, x2, x3, x4⟩ := times_loop hg ha hZ n (y2 - v) (y3 + 1) c1 (fN v.toNat r) (B + 11 * v) (A + v) m1 (m3.up (by omega)) (k1.up (by omega)) (by omega) (by omega) (by omega) (by omega) (by omega) (by omega)
    refine ⟨c', e', ?_, m2.trans x2, fun k k0 k1 => (m4 k k0 k1).trans (x3 k k0 k1), fun g' hg' => by rw [x4 g' hg', m5 g' hg']⟩
    rw [← fN_add, show (y2 - v).toNat + v.toNat = y2.toNat by omega, show A + v + (y2 - v) = A + y2 by omega] at x1
    exact x1
theorem times_G {c r : zM} {g : Nat} {B a A Z : Int} (hg : g < 3) (h : MG A Z (c g) (r 4 45)) (hc : OM B c) (hr : OM B r) (hB : B + 80000 ≤ 1000000000) (hA : A ≤ 2880000) (hZ : Z ≤ 900000000) (ha : 1 ≤ a ∧ a ≤ 900) :
    ∃ c', f25_1 g a c = c' ∧ MG (A + a) Z (c' g) (fN a.toNat r 4 45) ∧ KC (c g) (c' g) ∧ (∀ k, 1 ≤ k → k ≤ 5 → FE k (c g) (c' g)) ∧ (∀ g', g' ≠ g → c' g' = c g') :=
  times_loop hg (by omega) hZ (zfu 901) a 0 c r B A h hc hr (by omega) (by omega) (by omega) (by rw [zfu_eq]; omega) (by omega) (by omega)
theorem r279_N {k : zM → Int × zM} {a : Int} : ∀ (n : Nat) (y : Int) (r : zM), y ≤ a → a - y < n → fl279_18_1 k a n y r = k (fN (a - y).toNat r)
  | 0, y, r, h0, h1 => by omega
  | n + 1, y, r, h0, h1 => by
    show fl279_18_1_b (fl279_18_1 k a n) k a y r = _
    unfold fl279_18_1_b
    by_cases h : a ≤ y
    · rw [if_pos h, show (a - y).toNat = 0 by omega]
      rfl
    · rw [if_neg h, zs_a, r279_N n (y + 1) _ (by omega) (by omega), show (a - y).toNat = (a - (y + 1)).toNat + 1 by omega, fN_add r 1]
      rfl
theorem r302_N {k : zM → Int × zM} {a b : Int} : ∀ (n : Nat) (y : Int) (r : zM), y ≤ a → a - y < n → fl302_41_1 k a b n y r = k (fN (a - y).toNat r)
  | 0, y, r, h0, h1 => by omega
  | n + 1, y, r, h0, h1 => by
    show fl302_41_1_b (fl302_41_1 k a b n) k a b y r = _
    unfold fl302_41_1_b
    by_cases h : a ≤ y
    · rw [if_pos h, show (a - y).toNat = 0 by omega]
      rfl
    · rw [if_neg h, zs_a, r302_N n (y + 1) _ (by omega) (by omega), show (a - y).toNat = (a - (y + 1)).toNat + 1 by omega, fN_add r 1]
      rfl
/-- a register's sum over the tariffs -/
theorem sum4 {c : zM} {g : Nat} {y s : Int} (hb : ∀ t, 0 ≤ t → t < 4 → 0 ≤ c g 24 (y + t) ∧ c g 24 (y + t) ≤ 1000000000000000) (hs : s = c g 24 (y + 0) + c g 24 (y + 1) + c g 24 (y + 2) + c g 24 (y + 3)) : f72_1 g y (-1) c = s := by
  have b0 := hb 0 (by omega) (by omega)
  have b1 := hb 1 (by omega) (by omega)
  have b2 := hb 2 (by omega) (by omega)
  have b3 := hb 3 (by omega) (by omega)
  unfold f72_1
  rw [if_pos rfl, zfu_eq]
  have e : fl72_16_1 (fun y502 => y502) g y c 5 0 0 = w64 (w64 (w64 (w64 (0 + c g 24 (y + 0)) + c g 24 (y + 1)) + c g 24 (y + 2)) + c g 24 (y + 3)) := rfl
  rw [e, w64_id (x := 0 + _) (by omega), w64_id (x := 0 + c g 24 (y + 0) + c g 24 (y + 1)) (by omega), w64_id (x := 0 + c g 24 (y + 0) + c g 24 (y + 1) + c g 24 (y + 2)) (by omega), w64_id (by omega)]
  omega
theorem total_T {c r : zM} {g : Nat} {A Z q : Int} (h : MG A Z (c g) (r 4 45)) (hA : A ≤ 5000000) (hq : 0 ≤ q ∧ q < 7) : f71_1 g q (-1) c = r 4 45 (60 + 5 * q + 4) ∧ 0 ≤ r 4 45 (60 + 5 * q + 4) ∧ r 4 45 (60 + 5 * q + 4) ≤ 1000000000000000 := by
  obtain ⟨⟨-, -, -, -, -, -, -, m8, m9, -⟩, -, -, ⟨c1, c2, -⟩, -⟩ := h
  have b : ∀ t, 0 ≤ t → t < 4 → 0 ≤ c g 24 (q * 4 + t) ∧ c g 24 (q * 4 + t) ≤ 100000000000000 := fun t t0 t1 => by have := c2 (q * 4 + t) (by omega) (by omega); omega
  have b0 := b 0 (by omega) (by omega)
  have b1 := b 1 (by omega) (by omega)
  have b2 := b 2 (by omega) (by omega)
  have b3 := b 3 (by omega) (by omega)
  have e := m9 q hq.1 hq.2
  rw [m8 q 0 hq.1 hq.2 (by omega) (by omega), m8 q 1 hq.1 hq.2 (by omega) (by omega), m8 q 2 hq.1 hq.2 (by omega) (by omega), m8 q 3 hq.1 hq.2 (by omega) (by omega)] at e
  refine ⟨?_, by omega, by omega⟩
  unfold f71_1
  rw [zn_a]
  exact sum4 (fun t t0 t1 => by have := b t t0 t1; omega) e
theorem reads_T {c r : zM} {g : Nat} {A Z q : Int} (h : MG A Z (c g) (r 4 45)) (hA : A ≤ 5000000) (hu : 1 ≤ r 4 45 5 ∧ r 4 45 5 ≤ 1000000) (hq : 0 ≤ q ∧ q < 7) : f70_1 g q c = w64 ((r 4 45 (60 + 5 * q + 4)).tdiv (r 4 45 5)) := by
  have e := (total_T h hA hq).1
  have s1 := h.2.1.2.2.2.1.2.1
  unfold f70_1
  simp only [zn_a]
  rw [e, show max 1 (c g 10 1) = r 4 45 5 by omega]
theorem again_G {c r : zM} {B a A Z : Int} (h : MG A Z (c 0) (r 4 45)) (hc : OM B c) (hr : OM B r) (hB : B + 80000 ≤ 1000000000) (hA : A ≤ 2880000) (hZ : Z ≤ 900000000) : (f69_1 a c).1 = (f279_1 a r).1 ∧ MG (A + 900) Z ((f69_1 a c).2 0) ((f279_1 a r).2 4 45) ∧ KC (c 0) ((f69_1 a c).2 0) := by
  unfold f69_1 f279_1
  by_cases h1 : a < 1
  · rw [if_pos h1, if_pos h1]
    exact ⟨rfl, ⟨h.1, h.2.1, h.2.2.1, h.2.2.2.1.up (by omega) (Int.le_refl _), h.2.2.2.2⟩, KC.rf _⟩
  rw [if_neg h1, if_neg h1]
  by_cases h2 : a ≤ 900
  case neg =>
    rw [if_neg h2, if_neg h2]
    exact ⟨rfl, ⟨h.1, h.2.1, h.2.2.1, h.2.2.2.1.up (by omega) (Int.le_refl _), h.2.2.2.2⟩, KC.rf _⟩
  rw [if_pos h2, if_pos h2, zs_a, zn_a, r279_N (zfu 901) 0 r (by omega) (by rw [zfu_eq]; omega), show a - 0 = a by omega]
  obtain ⟨c', e, m1, m2, m3, m4⟩ := times_G (by omega) h hc hr hB hA hZ (a := a) (by omega)
  obtain ⟨k1, -, -⟩ := fN_keep hr a.toNat (by omega)
  rw [e]
  simp only [zn_a]
  refine ⟨?_, ⟨m1.1, m1.2.1, m1.2.2.1, m1.2.2.2.1.up (by omega) (Int.le_refl _), m1.2.2.2.2⟩, m2⟩
  exact reads_T (q := 0) m1 (by omega) (r45_5 k1.2.o 4) (by omega)
end
section
/-! What moves, part by part. -/
theorem MV.of {c : Nat → Int → Int} {w : Int → Int} (t : w 0 = c 8 9) (n : CN c w) (o : CO c w) (r : RG c w) (k : MK c w) (l : LG c w) (d : DM c w) (ld : LD c w) (od : OD c w) : MV c w := ⟨t, n.1, n.2.1, n.2.2, o.1, o.2.1, o.2.2, r.1, r.2, k, l, d, ld, od⟩
theorem MV.t {c : Nat → Int → Int} {w : Int → Int} (h : MV c w) : w 0 = c 8 9 := h.1
theorem MV.n {c : Nat → Int → Int} {w : Int → Int} (h : MV c w) : CN c w := ⟨h.2.1, h.2.2.1, h.2.2.2.1⟩
theorem MV.o {c : Nat → Int → Int} {w : Int → Int} (h : MV c w) : CO c w := ⟨h.2.2.2.2.1, h.2.2.2.2.2.1, h.2.2.2.2.2.2.1⟩
theorem MV.r {c : Nat → Int → Int} {w : Int → Int} (h : MV c w) : RG c w := ⟨h.2.2.2.2.2.2.2.1, h.2.2.2.2.2.2.2.2.1⟩
theorem MV.k {c : Nat → Int → Int} {w : Int → Int} (h : MV c w) : MK c w := h.2.2.2.2.2.2.2.2.2.1
theorem MV.l {c : Nat → Int → Int} {w : Int → Int} (h : MV c w) : LG c w := h.2.2.2.2.2.2.2.2.2.2.1
theorem MV.d {c : Nat → Int → Int} {w : Int → Int} (h : MV c w) : DM c w := h.2.2.2.2.2.2.2.2.2.2.2.1
theorem MV.ld {c : Nat → Int → Int} {w : Int → Int} (h : MV c w) : LD c w := h.2.2.2.2.2.2.2.2.2.2.2.2.1
theorem MV.od {c : Nat → Int → Int} {w : Int → Int} (h : MV c w) : OD c w := h.2.2.2.2.2.2.2.2.2.2.2.2.2
theorem CN.fe {c c' : Nat → Int → Int} {w w' : Int → Int} (h : CN c w) (h1 : FE 13 c c') (h2 : FW 13 w w') : CN c' w' := by
  unfold CN
  rw [h1.p8_13 13 (by omega) (by omega), h1.p8_13 14 (by omega) (by omega), h1.p8_13 15 (by omega) (by omega), h2 13 (by omega) (by omega) (ja45_13 (by omega)), h2 14 (by omega) (by omega) (ja45_13 (by omega)), h2 15 (by omega) (by omega) (ja45_13 (by omega))]
  exact h
theorem CO.fe {c c' : Nat → Int → Int} {w w' : Int → Int} (h : CO c w) (h1 : FE 12 c c') (h2 : FW 12 w w') : CO c' w' := by
  unfold CO
  rw [h1.p8_10 10 (by omega) (by omega), h1.p8_10 11 (by omega) (by omega), h1.p8_10 12 (by omega) (by omega), h2 10 (by omega) (by omega) (ja45_10 (by omega)), h2 11 (by omega) (by omega) (ja45_10 (by omega)), h2 12 (by omega) (by omega) (ja45_10 (by omega))]
  exact h
theorem RG.fe {c c' : Nat → Int → Int} {w w' : Int → Int} (h : RG c w) (h1 : FE 10 c c') (h2 : FW 10 w w') : RG c' w' := by
  have e : ∀ i, 60 ≤ i → i ≤ 94 → w' i = w i := fun i i0 i1 => h2 i (by omega) (by omega) (ja45_60 ⟨i0, i1⟩)
  refine ⟨fun q t q0 q1 t0 t1 => ?_, fun q q0 q1 => ?_⟩
  · rw [e _ (by omega) (by omega), h1.p24_0 _ (by omega) (by omega)]
    exact h.1 q t q0 q1 t0 t1
  · rw [e _ (by omega) (by omega), e _ (by omega) (by omega), e _ (by omega) (by omega), e _ (by omega) (by omega), e _ (by omega) (by omega)]
    exact h.2 q q0 q1
theorem OD.fe {c c' : Nat → Int → Int} {w w' : Int → Int} (h : OD c w) (h1 : FE 7 c c') (h3 : w' 8 = w 8) (h2 : FW 7 w w') : OD c' w' := by
  unfold OD
  rw [h2 21 (by omega) (by omega) (ja45_21 (by omega)), h3, h1.p27_2 9 (by omega) (by omega)]
  exact h
/-- the bounds, part by part -/
theorem CBD.fe {A Z : Int} {c c' : Nat → Int → Int} (h : CBD A Z c) (h7 : FE 7 c c') (h9 : FE 9 c c') (h10 : FE 10 c c') (h12 : FE 12 c c') (h13 : FE 13 c c') : CBD A Z c' := by
  obtain ⟨b1, b2, b3, b4, b5, b6, b7, b8, b9, b10⟩ := h
  unfold CBD
  rw [h13.p8_13 13 (by omega) (by omega), h13.p8_13 14 (by omega) (by omega), h13.p8_13 15 (by omega) (by omega), h12.p8_10 10 (by omega) (by omega), h7.p27_2 6 (by omega) (by omega), h7.p27_2 7 (by omega) (by omega), h7.p27_2 8 (by omega) (by omega)]
  refine ⟨b1, fun i i0 i1 => ?_, fun i i0 i1 => ?_, b4, b5, fun m m0 m1 => ?_, b7, b8, b9, b10⟩
  · rw [h10.p24_0 i i0 (by omega)]
    exact b2 i i0 i1
  · rw [h7.p27_2 i (by omega) (by omega)]
    exact b3 i i0 i1
  · rw [h9.p34_0 m m0 (by omega), h9.p35_0 m m0 (by omega), h9.p36_0 m m0 (by omega)]
    exact b6 m m0 m1
theorem WV.fe {c c' : Nat → Int → Int} {w w' : Int → Int} (h : WV c w) (h2 : FE 2 c c') (h3 : FE 3 c c') (k2 : FW 2 w w') (k3 : FW 3 w w') : WV c' w' := by
  have e : ∀ i, (1 ≤ i ∧ i ≤ 3) ∨ (95 ≤ i ∧ i ≤ 286) → w' i = w i := fun i hi => by
    rcases hi with hi | hi
    · exact k2 i (by omega) (by omega) (ja45_1 hi)
    · exact k2 i (by omega) (by omega) (ja45_95 hi)
  obtain ⟨a1, a2, a3, a4, a5⟩ := h
  exact ⟨by rw [h2.p19_3 3 (by omega) (by omega), e 1 (by omega)]; exact a1, by rw [h2.p19_3 4 (by omega) (by omega), e 2 (by omega)]; exact a2, a3.fe a5 h2 k2, a4.fe h3 k3, a5.pt e⟩
/-- all of it -/
theorem MG.fe {A Z : Int} {c c' : Nat → Int → Int} {w w' : Int → Int} (h : MG A Z c w) (hb : CB c) (e : ∀ n, n ≠ 4 → n ≠ 5 → FE n c c') (e' : ∀ n, n ≠ 4 → n ≠ 5 → FW n w w') : MG A Z c' w' := by
  obtain ⟨h1, h2, h3, h4, h5, h6⟩ := h
  have q8 : w' 8 = w 8 := e' 3 (by decide) (by decide) 8 (by omega) (by omega) (ja45_4 (by omega))
  refine ⟨MV.of ?_ (h1.n.fe (e 13 (by decide) (by decide)) (e' 13 (by decide) (by decide))) (h1.o.fe (e 12 (by decide) (by decide)) (e' 12 (by decide) (by decide))) (h1.r.fe (e 10 (by decide) (by decide)) (e' 10 (by decide) (by decide))) (h1.k.fe (e 9 (by decide) (by decide)) (e' 9 (by decide) (by decide))) (h1.l.fe (e 6 (by decide) (by decide)) (e' 6 (by decide) (by decide))) (h1.d.fe (e 8 (by decide) (by decide)) (e' 8 (by decide) (by decide))) (h1.ld.fe (e 7 (by decide) (by decide)) (e' 7 (by decide) (by decide))) (h1.od.fe (e 7 (by decide) (by decide)) q8 (e' 7 (by decide) (by decide))), h2.fe (e 2 (by decide) (by decide)) (e 3 (by decide) (by decide)) (e' 2 (by decide) (by decide)) (e' 3 (by decide) (by decide)), h3.fe hb (e 1 (by decide) (by decide)) (e' 1 (by decide) (by decide)), h4.fe (e 7 (by decide) (by decide)) (e 9 (by decide) (by decide)) (e 10 (by decide) (by decide)) (e 12 (by decide) (by decide)) (e 13 (by decide) (by decide)), ?_, ?_⟩
  · exact (time_fe (c := c) (w := w) h1.t.symm (e 11 (by decide) (by decide)) (e' 11 (by decide) (by decide))).symm
  · rw [(e 12 (by decide) (by decide)).p8_10 12 (by omega) (by omega), (e 12 (by decide) (by decide)).p8_10 11 (by omega) (by omega), (e 12 (by decide) (by decide)).p8_10 10 (by omega) (by omega)]
    exact h5
  · rw [(e 12 (by decide) (by decide)).p8_10 11 (by omega) (by omega)]
    exact h6
/-- all but the wave -/
theorem MG.wave {A Z : Int} {c c' : Nat → Int → Int} {w w' : Int → Int} (h : MG A Z c w) (hb : CB c) (e : ∀ n, n ≠ 2 → n ≠ 4 → n ≠ 5 → FE n c c') (e' : ∀ n, n ≠ 2 → n ≠ 4 → n ≠ 5 → FW n w w') (h1' : c' 19 3 = w' 1) (h2' : c' 19 4 = w' 2) (hs : WS c' w') (hw : WB w') : MG A Z c' w' := by
  obtain ⟨h1, h2, h3, h4, h5, h6⟩ := h
  have q8 : w' 8 = w 8 := e' 3 (by decide) (by decide) (by decide) 8 (by omega) (by omega) (ja45_4 (by omega))
  refine ⟨MV.of ?_ (h1.n.fe (e 13 (by decide) (by decide) (by decide)) (e' 13 (by decide) (by decide) (by decide))) (h1.o.fe (e 12 (by decide) (by decide) (by decide)) (e' 12 (by decide) (by decide) (by decide))) (h1.r.fe (e 10 (by decide) (by decide) (by decide)) (e' 10 (by decide) (by decide) (by decide))) (h1.k.fe (e 9 (by decide) (by decide) (by decide)) (e' 9 (by decide) (by decide) (by decide))) (h1.l.fe (e 6 (by decide) (by decide) (by decide)) (e' 6 (by decide) (by decide) (by decide))) (h1.d.fe (e 8 (by decide) (by decide) (by decide)) (e' 8 (by decide) (by decide) (by decide))) (h1.ld.fe (e 7 (by decide) (by decide) (by decide)) (e' 7 (by decide) (by decide) (by decide))) (h1.od.fe (e 7 (by decide) (by decide) (by decide)) q8 (e' 7 (by decide) (by decide) (by decide))), ⟨h1', h2', hs, h2.2.2.2.1.fe (e 3 (by decide) (by decide) (by decide)) (e' 3 (by decide) (by decide) (by decide)), hw⟩, h3.fe hb (e 1 (by decide) (by decide) (by decide)) (e' 1 (by decide) (by decide) (by decide)), h4.fe (e 7 (by decide) (by decide) (by decide)) (e 9 (by decide) (by decide) (by decide)) (e 10 (by decide) (by decide) (by decide)) (e 12 (by decide) (by decide) (by decide)) (e 13 (by decide) (by decide) (by decide)), ?_, ?_⟩
  · exact (time_fe (c := c) (w := w) h1.t.symm (e 11 (by decide) (by decide) (by decide)) (e' 11 (by decide) (by decide) (by decide))).symm
  · rw [(e 12 (by decide) (by decide) (by decide)).p8_10 12 (by omega) (by omega), (e 12 (by decide) (by decide) (by decide)).p8_10 11 (by omega) (by omega), (e 12 (by decide) (by decide) (by decide)).p8_10 10 (by omega) (by omega)]
    exact h5
  · rw [(e 12 (by decide) (by decide) (by decide)).p8_10 11 (by omega) (by omega)]
    exact h6
end
section
/-! A sample more, on both sides. -/
theorem wn_put {c c' : Nat → Int → Int} {w w' : Int → Int} {P s a b : Int} (hP : 1 ≤ P ∧ P ≤ 3) (hs : 0 ≤ s ∧ s < 48) (h16 : s / P < 16)
    (h : ∀ k, 0 ≤ k → k < s → c 20 k = w (191 + 16 * (k % P) + k / P) ∧ c 21 k = w (239 + 16 * (k % P) + k / P))
    (e20 : ∀ i, c' 20 i = fu (c 20) s a i) (e21 : ∀ i, c' 21 i = fu (c 21) s b i)
    (ew : ∀ i, 191 ≤ i → i ≤ 286 → w' i = if i = 191 + 16 * (s % P) + s / P then a else if i = 239 + 16 * (s % P) + s / P then b else w i) :
    ∀ k, 0 ≤ k → k < s + 1 → c' 20 k = w' (191 + 16 * (k % P) + k / P) ∧ c' 21 k = w' (239 + 16 * (k % P) + k / P) := by
  intro k k0 k1
  have hp3 : P = 1 ∨ P = 2 ∨ P = 3 := by omega
  have bk : 0 ≤ k % P ∧ k % P < 3 ∧ 0 ≤ k / P ∧ k / P < 16 := by rcases hp3 with rfl | rfl | rfl <;> omega
  have bs : 0 ≤ s % P ∧ s % P < 3 ∧ 0 ≤ s / P := by rcases hp3 with rfl | rfl | rfl <;> omega
  have hd : k ≠ s → 16 * (k % P) + k / P ≠ 16 * (s % P) + s / P := by rcases hp3 with rfl | rfl | rfl <;> omega
  have w1 := ew (191 + 16 * (k % P) + k / P) (by omega) (by omega)
  have w2 := ew (239 + 16 * (k % P) + k / P) (by omega) (by omega)
  rw [e20, e21, w1, w2]
  by_cases e : k = s
  · rw [e, fu_s, fu_s, if_pos rfl, if_neg (show ¬ 239 + 16 * (s % P) + s / P = 191 + 16 * (s % P) + s / P by omega), if_pos rfl]
    exact ⟨rfl, rfl⟩
  · have hd := hd e
    obtain ⟨x, y⟩ := h k k0 (by omega)
    rw [fu_i _ _ e, fu_i _ _ e, x, y, if_neg (show ¬ 191 + 16 * (k % P) + k / P = 191 + 16 * (s % P) + s / P by omega), if_neg (show ¬ 191 + 16 * (k % P) + k / P = 239 + 16 * (s % P) + s / P by omega), if_neg (show ¬ 239 + 16 * (k % P) + k / P = 191 + 16 * (s % P) + s / P by omega), if_neg (show ¬ 239 + 16 * (k % P) + k / P = 239 + 16 * (s % P) + s / P by omega)]
    exact ⟨rfl, rfl⟩
/-- a period is full: its sums -/
theorem ws_new {c c' : Nat → Int → Int} {w w' : Int → Int} (hP : 1 ≤ w 1 ∧ w 1 ≤ 3) (hN : 4 ≤ w 2 ∧ w 2 ≤ 16) (h : ∀ k, 0 ≤ k → k < w 1 * w 2 → c 20 k = w (191 + 16 * (k % w 1) + k / w 1) ∧ c 21 k = w (239 + 16 * (k % w 1) + k / w 1))
    (e1 : w' 1 = w 1) (e2 : w' 2 = w 2) (ew : ∀ i, 0 ≤ i → i < 96 → w' (95 + i) = w (191 + i)) (hi : IN c (w 1) (w 2) (w 2).toNat 0 (c' 22)) (hr : isRoot (c' 22 3 * c' 22 3 + c' 22 7 * c' 22 7) (c' 19 6)) : WS c' w' := by
  have pl : ∀ k f : Int, 0 ≤ k → k < w 2 → 0 ≤ f → f < w 1 → c 20 (k * w 1 + f) = w' (95 + 16 * f + k) ∧ c 21 (k * w 1 + f) = w' (143 + 16 * f + k) := by
    intro k f k0 k1 f0 f1
    obtain ⟨x0, x1, x2, x3⟩ : 0 ≤ k * w 1 + f ∧ k * w 1 + f < w 1 * w 2 ∧ (k * w 1 + f) % w 1 = f ∧ (k * w 1 + f) / w 1 = k := by
      rcases (show w 1 = 1 ∨ w 1 = 2 ∨ w 1 = 3 by omega) with e | e | e <;> rw [e] at f1 ⊢ <;> omega
    obtain ⟨y1, y2⟩ := h _ x0 x1
    rw [x2, x3] at y1 y2
    have z1 := ew (16 * f + k) (by omega) (by omega)
    have z2 := ew (48 + (16 * f + k)) (by omega) (by omega)
    rw [y1, y2, show 95 + 16 * f + k = 95 + (16 * f + k) by omega, z1, show 143 + 16 * f + k = 95 + (48 + (16 * f + k)) by omega, z2, show 191 + (16 * f + k) = 191 + 16 * f + k by omega, show 191 + (48 + (16 * f + k)) = 239 + 16 * f + k by omega]
    exact ⟨rfl, rfl⟩
  have tq : ∀ f k : Nat, (f : Int) < w 1 → (k : Int) < w 2 → cT c (w 1) (w 2) 0 k f = tA w' f k ∧ cT c (w 1) (w 2) 1 k f = tR w' (w 2) f k ∧ cT c (w 1) (w 2) 2 k f = tS w' 95 f k ∧ cT c (w 1) (w 2) 3 k f = tS w' 143 f k := by
    intro f k hf hk
    obtain ⟨a, b⟩ := pl k f (by omega) hk (by omega) hf
    have m0 : 0 ≤ ((k : Int) + w 2 / 4) % w 2 := Int.emod_nonneg _ (by omega)
    have m1 : ((k : Int) + w 2 / 4) % w 2 < w 2 := Int.emod_lt_of_pos _ (by omega)
    obtain ⟨-, d⟩ := pl (((k : Int) + w 2 / 4) % w 2) f m0 m1 (by omega) hf
    unfold tA tR tS
    refine ⟨?_, ?_, ?_, ?_⟩
    · show c 20 ((k : Int) * w 1 + f) * c 21 ((k : Int) * w 1 + f) = _
      rw [a, b]
    · show c 20 ((k : Int) * w 1 + f) * c 21 ((((k : Int) + w 2 / 4) % w 2) * w 1 + f) = _
      rw [a, d]
    · show c 20 ((k : Int) * w 1 + f) * c 20 ((k : Int) * w 1 + f) = _
      rw [a]
    · show c 21 ((k : Int) * w 1 + f) * c 21 ((k : Int) * w 1 + f) = _
      rw [b]
  have sq : ∀ f : Nat, (f : Int) < w 1 → sumN (fun j => cT c (w 1) (w 2) 0 j f) (w 2).toNat = AC w' f ∧ sumN (fun j => cT c (w 1) (w 2) 1 j f) (w 2).toNat = RE w' f ∧ sumN (fun j => cT c (w 1) (w 2) 2 j f) (w 2).toNat = SQ w' 95 f ∧ sumN (fun j => cT c (w 1) (w 2) 3 j f) (w 2).toNat = SQ w' 143 f := fun f hf => by
    unfold AC RE SQ
    rw [e2]
    exact ⟨sumN_congr _ (fun k hk => (tq f k hf (by omega)).1), sumN_congr _ (fun k hk => (tq f k hf (by omega)).2.1), sumN_congr _ (fun k hk => (tq f k hf (by omega)).2.2.1), sumN_congr _ (fun k hk => (tq f k hf (by omega)).2.2.2)⟩
  have one : ∀ (q f : Nat), q < 4 → (f : Int) < w 1 → c' 22 ((q : Int) * 4 + f) = sumN (fun j => cT c (w 1) (w 2) q j f) (w 2).toNat := fun q f hq hf => by
    have h9 := (hi q hq).1 f hf
    rw [if_neg (Nat.not_lt_zero f)] at h9
    exact h9
  have tot : ∀ q : Nat, q < 4 → c' 22 ((q : Int) * 4 + 3) = sumN (fun f => sumN (fun j => cT c (w 1) (w 2) q j f) (w 2).toNat) (w 1).toNat := fun q hq => by
    rw [(hi q hq).2]
    exact Int.add_zero _
  refine ⟨fun f hf => ?_, ?_, ?_, ?_, ?_, hr⟩
  · rw [e1] at hf
    obtain ⟨s1, s2, s3, s4⟩ := sq f hf
    have o0 := one 0 f (by omega) hf
    have o1 := one 1 f (by omega) hf
    have o2 := one 2 f (by omega) hf
    have o3 := one 3 f (by omega) hf
    rw [show ((0 : Nat) : Int) * 4 + (f : Int) = (f : Int) by omega] at o0
    rw [show ((1 : Nat) : Int) * 4 + (f : Int) = 4 + (f : Int) by omega] at o1
    rw [show ((2 : Nat) : Int) * 4 + (f : Int) = 8 + (f : Int) by omega] at o2
    rw [show ((3 : Nat) : Int) * 4 + (f : Int) = 12 + (f : Int) by omega] at o3
    rw [o0, o1, o2, o3, s1, s2, s3, s4]
    exact ⟨rfl, rfl, rfl, rfl⟩
  · have t := tot 0 (by omega)
    rw [show ((0 : Nat) : Int) * 4 + 3 = 3 by omega] at t
    rw [t, e1]
    exact sumN_congr _ (fun f hf => by
      unfold TG
      rw [if_pos rfl]
      exact (sq f (by omega)).1)
  · have t := tot 1 (by omega)
    rw [show ((1 : Nat) : Int) * 4 + 3 = 7 by omega] at t
    rw [t, e1]
    exact sumN_congr _ (fun f hf => by
      unfold TG
      rw [if_neg (by decide), if_pos rfl]
      exact (sq f (by omega)).2.1)
  · have t := tot 2 (by omega)
    rw [show ((2 : Nat) : Int) * 4 + 3 = 11 by omega] at t
    rw [t, e1]
    exact sumN_congr _ (fun f hf => by
      unfold TG
      rw [if_neg (by decide), if_neg (by decide), if_pos rfl]
      exact (sq f (by omega)).2.2.1)
  · have t := tot 3 (by omega)
    rw [show ((3 : Nat) : Int) * 4 + 3 = 15 by omega] at t
    rw [t, e1]
    exact sumN_congr _ (fun f hf => by
      unfold TG
      rw [if_neg (by decide), if_neg (by decide), if_neg (by decide)]
      exact (sq f (by omega)).2.2.2)
/-- only the wave's rows are others -/
theorem FE_w {c c' : Nat → Int → Int} (h : ∀ k, k ≠ 19 → k ≠ 20 → k ≠ 21 → k ≠ 22 → c' k = c k) {n : Nat} (hn : n ≠ 2) : FE n c c' := fun x hx e i _ _ => by
  have hx2 : ∀ x, x ∈ fcl → x.1 ≠ 2 → x.2.1 ≠ 19 ∧ x.2.1 ≠ 20 ∧ x.2.1 ≠ 21 ∧ x.2.1 ≠ 22 := by decide
  obtain ⟨a1, a2, a3, a4⟩ := hx2 x hx (by omega)
  rw [h _ a1 a2 a3 a4]
theorem FW_w {w w' : Int → Int} (h : ∀ i, 0 ≤ i → ¬ (1 ≤ i ∧ i ≤ 3) → ¬ (95 ≤ i ∧ i ≤ 286) → w' i = w i) {n : Nat} (hn : n ≠ 2) : FW n w w' := fun i h0 h1 e => h i h0 (fun hh => by rw [ja45_1 hh] at e; omega) (fun hh => by rw [ja45_95 hh] at e; omega)
theorem cpv205 {B : Int} {k : zM → Int × zM} : ∀ (n : Nat) (y : Int) (m : zM), 0 ≤ y → y ≤ 96 → 96 - y < n → OM B m → ∃ m', fl205_139_1 k n y m = k m' ∧ OM B m' ∧ (∀ i, y ≤ i → i < 96 → m' 4 45 (95 + i) = m 4 45 (191 + i)) ∧ (∀ i, (i < 95 + y ∨ 190 < i) → m' 4 45 i = m 4 45 i)
  | 0, y, m, h0, h1, h2, h3 => by omega
  | n + 1, y, m, h0, h1, h2, h3 => by
    show ∃ m', fl205_139_1_b (fl205_139_1 k n) k y m = k m' ∧ _
    unfold fl205_139_1_b
    by_cases h : 96 ≤ y
    · rw [if_pos h]
      exact ⟨m, rfl, h3, fun i i0 i1 => by omega, fun _ _ => rfl⟩
    · rw [if_neg h, zs_a]
      have b := r45_95 h3.2.o 4 (i := 191 + y) (by omega)
      obtain ⟨m', e, e1, e2, e3⟩ := cpv205 (k := k) n (y + 1) (z_upd m 4 45 (95 + y) (m 4 45 (191 + y))) (by omega) (by omega) (by omega) (u45_95 (g := 4) h3 (by omega) b)
      refine ⟨m', e, e1, fun i i0 i1 => ?_, fun i hi => ?_⟩
      · by_cases e4 : i = y
        · rw [e3 _ (by omega), zu_row, e4, fu_s]
        · rw [e2 i (by omega) i1, zu_row, fu_i _ _ (by omega)]
      · rw [e3 i (by omega), zu_row, fu_i _ _ (by omega)]
theorem MG.up {A A' Z Z' : Int} {c : Nat → Int → Int} {w : Int → Int} (h : MG A Z c w) (hA : A ≤ A') (hZ : Z ≤ Z') : MG A' Z' c w := ⟨h.1, h.2.1, h.2.2.1, h.2.2.2.1.up hA hZ, h.2.2.2.2⟩
theorem sample_G {c r : zM} {B a b A Z : Int} (hc : OM B c) (hr : OM B r) (hB : B + 80000 ≤ 1000000000) (hA : A ≤ 2880000) (hZ : Z ≤ 900000000) (h : MG A Z (c 0) (r 4 45)) (hn : WN (c 0) (r 4 45)) (h5 : c 0 19 5 = r 4 45 3) :
    MG (A + 1) Z ((f19_1 a b c).2 0) ((f205_1 a b r).2 4 45) ∧ WN ((f19_1 a b c).2 0) ((f205_1 a b r).2 4 45) ∧ KC (c 0) ((f19_1 a b c).2 0) := by
  have up : MG (A + 1) Z (c 0) (r 4 45) := h.up (by omega) (Int.le_refl _)
  unfold f19_1 f205_1
  by_cases c1 : a < -500
  · rw [if_pos c1, if_pos c1]
    exact ⟨up, hn, KC.rf _⟩
  rw [if_neg c1, if_neg c1]
  by_cases c2 : a ≤ 500
  case neg =>
    rw [if_pos (by omega), if_neg c2]
    exact ⟨up, hn, KC.rf _⟩
  rw [if_neg (by omega), if_pos c2]
  by_cases c3 : b < -500
  · rw [if_pos c3, if_pos c3]
    exact ⟨up, hn, KC.rf _⟩
  rw [if_neg c3, if_neg c3]
  by_cases c4 : b ≤ 500
  case neg =>
    rw [if_neg c4, if_neg c4]
    exact ⟨up, hn, KC.rf _⟩
  rw [if_pos c4, if_pos c4]
  obtain ⟨w1, w2, hws, hst, hwb⟩ := id h.2.1
  obtain ⟨p0, p1, n0, n1, s0, s1, -⟩ := id hwb
  obtain ⟨P, hP⟩ : ∃ P, P = r 4 45 1 := ⟨_, rfl⟩
  obtain ⟨s, hs⟩ : ∃ s, s = r 4 45 3 := ⟨_, rfl⟩
  obtain ⟨q3, hq⟩ := id hn
  rw [← hP, ← hs] at q3 hq
  rw [← hP] at p0 p1 w1
  rw [← hs] at s0 s1 h5
  have hp3 : P = 1 ∨ P = 2 ∨ P = 3 := by omega
  obtain ⟨x0, x1, x2, x3⟩ : 0 ≤ s % P ∧ s % P < 3 ∧ 0 ≤ s / P ∧ s / P < 16 := by rcases hp3 with e | e | e <;> rw [e] at q3 ⊢ <;> omega
  -- the class
  obtain ⟨k1, k2, -⟩ := q20_1 0 a b hc.1 hc.2 (by omega) (by omega) (by omega) (by omega)
  obtain ⟨m1, em1⟩ : ∃ x, x = z_upd (z_upd (z_upd c 0 20 (c 0 19 5) a) 0 21 (c 0 19 5) b) 0 19 5 (c 0 19 5 + 1) := ⟨_, rfl⟩
  have d19 : ∀ i, m1 0 19 i = if i = 5 then s + 1 else c 0 19 i := fun i => by
    rw [em1, zu_row, zu_k _ _ _ (show (19 : Nat) ≠ 21 by decide), zu_k _ _ _ (show (19 : Nat) ≠ 20 by decide), h5]
    rfl
  have d20 : ∀ i, m1 0 20 i = fu (c 0 20) s a i := fun i => by rw [em1, zu_k _ _ _ (show (20 : Nat) ≠ 19 by decide), zu_k _ _ _ (show (20 : Nat) ≠ 21 by decide), zu_row, h5]
  have d21 : ∀ i, m1 0 21 i = fu (c 0 21) s b i := fun i => by rw [em1, zu_k _ _ _ (show (21 : Nat) ≠ 19 by decide), zu_row, zu_k _ _ _ (show (21 : Nat) ≠ 20 by decide), h5]
  have dk : ∀ k, k ≠ 19 → k ≠ 20 → k ≠ 21 → m1 0 k = c 0 k := fun k e1 e2 e3 => by rw [em1, zu_k _ _ _ e1, zu_k _ _ _ e3, zu_k _ _ _ e2]
  have e20 : f20_1 0 a b c = if P * r 4 45 2 ≤ s + 1 then (1, f21_1 0 (z_upd m1 0 19 5 0)) else (0, m1) := by
    unfold f20_1
    simp only [zs_a, zn_a]
    have t5 : z_upd c 0 20 (c 0 19 5) a 0 19 5 = c 0 19 5 := by rw [zu_k _ _ _ (by decide)]
    have t6 : z_upd (z_upd c 0 20 (c 0 19 5) a) 0 21 (c 0 19 5) b 0 19 5 = c 0 19 5 := by rw [zu_k _ _ _ (by decide), zu_k _ _ _ (by decide)]
    have d193 : m1 0 19 3 = P := by rw [d19, if_neg (by decide), w1]
    have d194 : m1 0 19 4 = r 4 45 2 := by rw [d19, if_neg (by decide), w2]
    have d195 : m1 0 19 5 = s + 1 := by rw [d19, if_pos rfl]
    rw [t5, t6, ← em1, d193, d194, d195]
  -- the reference
  have t1 : z_upd r 4 45 (191 + 16 * (s % P) + s / P) a 4 45 1 = P := by rw [zu_row, fu_i _ _ (by omega), hP]
  obtain ⟨m2, em2⟩ : ∃ x, x = z_upd (z_upd (z_upd r 4 45 (191 + 16 * (s % P) + s / P) a) 4 45 (239 + 16 * (s % P) + s / P) b) 4 45 3 (s + 1) := ⟨_, rfl⟩
  have g3 : z_upd (z_upd r 4 45 (191 + 16 * (s % P) + s / P) a) 4 45 (239 + 16 * (s % P) + s / P) b 4 45 3 = s := by rw [zu_row, fu_i _ _ (by omega), zu_row, fu_i _ _ (by omega), hs]
  have gw : ∀ i, m2 4 45 i = if i = 3 then s + 1 else if i = 239 + 16 * (s % P) + s / P then b else if i = 191 + 16 * (s % P) + s / P then a else r 4 45 i := fun i => by
    rw [em2, zu_row, zu_row, zu_row]
    rfl
  have v3 : m2 4 45 3 = s + 1 := by rw [gw, if_pos rfl]
  have v1 : m2 4 45 1 = P := by rw [gw, if_neg (by omega), if_neg (by omega), if_neg (by omega), hP]
  have v2 : m2 4 45 2 = r 4 45 2 := by rw [gw, if_neg (by omega), if_neg (by omega), if_neg (by omega)]
  have lo : ∀ i, 0 ≤ i → ¬ (1 ≤ i ∧ i ≤ 3) → ¬ (95 ≤ i ∧ i ≤ 286) → m2 4 45 i = r 4 45 i := fun i i0 i1 i2 => by rw [gw, if_neg (by omega), if_neg (by omega), if_neg (by omega)]
  have ow : OM B (z_upd (z_upd r 4 45 (191 + 16 * (s % P) + s / P) a) 4 45 (239 + 16 * (s % P) + s / P) b) := u45_95 (g := 4) (u45_95 (g := 4) hr (by omega) (by omega)) (by omega) (by omega)
  have hput : ∀ c' : Nat → Int → Int, c' 20 = m1 0 20 → c' 21 = m1 0 21 → ∀ w' : Int → Int, (∀ i, 191 ≤ i → i ≤ 286 → w' i = m2 4 45 i) → ∀ k, 0 ≤ k → k < s + 1 → c' 20 k = w' (191 + 16 * (k % P) + k / P) ∧ c' 21 k = w' (239 + 16 * (k % P) + k / P) := fun c' h20 h21 w' hw' =>
    wn_put (c := c 0) (c' := c') (w := r 4 45) (w' := w') (a := a) (b := b) ⟨p0, p1⟩ ⟨s0, by omega⟩ x3 hq (fun i => by rw [h20, d20]) (fun i => by rw [h21, d21]) (fun i i0 i1 => by
      rw [hw' i i0 i1, gw, if_neg (by omega)]
      by_cases e1 : i = 191 + 16 * (s % P) + s / P
      · rw [if_neg (show ¬ i = 239 + 16 * (s % P) + s / P by omega), if_pos e1, if_pos e1]
      · rw [if_neg e1, if_neg e1])
  rw [e20]
  simp only [zn_a, zs_a]
  rw [← hP, ← hs, t1, g3, ← em2, v3, v1, v2]
  by_cases d : P * r 4 45 2 ≤ s + 1
  case neg =>
    rw [if_neg d, if_pos (show s + 1 < P * r 4 45 2 by omega)]
    rw [zb_a]
    rw [if_pos rfl]
    have s47 : s + 1 ≤ 47 := by rcases hp3 with e | e | e <;> rw [e] at d <;> omega
    have go : OM B m2 := by
      rw [em2]
      exact u45_3 (g := 4) ow (by omega)
    refine ⟨(h.wave (CB.of hc.2 0) (fun n n2 _ _ => FE_w (fun k e1 e2 e3 _ => dk k e1 e2 e3) n2) (fun n n2 _ _ => FW_w lo n2) ?_ ?_ (hws.pt hwb (fun i => by rw [dk 22 (by decide) (by decide) (by decide)]) ?_ (fun i hi => by rw [gw, if_neg (by omega), if_neg (by omega), if_neg (by omega)])) (WB.of go)).up (by omega) (Int.le_refl _), ⟨?_, fun k k0 k1 => ?_⟩, ?_⟩
    · rw [d19, if_neg (by decide), v1, w1]
    · rw [d19, if_neg (by decide), v2, w2]
    · rw [d19, if_neg (by decide)]
    · show m2 4 45 3 < m2 4 45 1 * m2 4 45 2
      rw [v3, v1, v2]
      omega
    · have k1 : k < m2 4 45 3 := k1
      rw [v3] at k1
      show m1 0 20 k = m2 4 45 (191 + 16 * (k % m2 4 45 1) + k / m2 4 45 1) ∧ m1 0 21 k = m2 4 45 (239 + 16 * (k % m2 4 45 1) + k / m2 4 45 1)
      rw [v1]
      exact hput (m1 0) rfl rfl (m2 4 45) (fun _ _ _ => rfl) k k0 k1
    · have e8 : m1 0 8 = c 0 8 := dk 8 (by decide) (by decide) (by decide)
      have kc : KC (c 0) (m1 0) := ⟨by rw [e8], by rw [e8], by rw [e8]; exact Int.le_refl _, fun hx => hx.rows (fun k k0 k1 _ _ _ => dk k (by omega) (by omega) (by omega))⟩
      exact kc
  rw [e20, if_pos d] at k1 k2
  try dsimp only at k1 k2
  rw [if_pos d, if_neg (show ¬ s + 1 < P * r 4 45 2 by omega)]
  rw [zb_a]
  rw [if_neg (show ¬ (1 : Int) = 0 by decide)]
  obtain ⟨mm, emm⟩ : ∃ x, x = z_upd m1 0 19 5 0 := ⟨_, rfl⟩
  rw [← emm] at k1 k2 ⊢
  have y19 : ∀ i, mm 0 19 i = if i = 5 then 0 else c 0 19 i := fun i => by
    rw [emm, zu_row]
    by_cases e : i = 5
    · rw [e, fu_s, if_pos rfl]
    · rw [fu_i _ _ e, d19, if_neg e, if_neg e]
  have yk : ∀ k, k ≠ 19 → mm 0 k = m1 0 k := fun k hk => by rw [emm, zu_k _ _ _ hk]
  have y3 : mm 0 19 3 = P := by rw [y19, if_neg (by decide), w1]
  have y4 : mm 0 19 4 = r 4 45 2 := by rw [y19, if_neg (by decide), w2]
  have yc : cB5 (mm 0) := fun i i0 i1 => by
    have b1 := r20_0 (i := i) hc.2.o 0 (by omega)
    have b2 := r21_0 (i := i) hc.2.o 0 (by omega)
    rw [yk 20 (by decide), yk 21 (by decide), d20, d21]
    unfold fu
    constructor <;> split <;> omega
  obtain ⟨z1, z2, z3, z4⟩ := sumup_c (m := mm) (g := 0) yc (by rw [y3]; omega) (by rw [y4]; omega)
  obtain ⟨c2, ec2⟩ : ∃ x, x = f21_1 0 mm := ⟨_, rfl⟩
  rw [← ec2] at k1 k2 z1 z2 z3 z4 ⊢
  have o2 : OM B c2 := ⟨k1, k2.jb⟩
  obtain ⟨m3, em3⟩ : ∃ x, x = z_upd m2 4 45 3 0 := ⟨_, rfl⟩
  have o3 : OM B m3 := by
    rw [em3, em2, z_upd_upd]
    exact u45_3 (g := 4) ow (by omega)
  rw [← em3]
  have u : ∀ i, i ≠ 3 → m3 4 45 i = m2 4 45 i := fun i hi => by rw [em3, zu_row, fu_i _ _ hi]
  obtain ⟨m4, e4, o4, a1, a2⟩ := cpv205 (B := B) (k := fun m534 => ((0 : Int), f208_1 m534)) (zfu 97) 0 m3 (by omega) (by omega) (by rw [zfu_eq]; omega) o3
  rw [e4]
  have b1 : m4 4 45 1 = P := by rw [a2 1 (by omega), u 1 (by decide), v1]
  have b2 : m4 4 45 2 = r 4 45 2 := by rw [a2 2 (by omega), u 2 (by decide), v2]
  have b3 : m4 4 45 3 = 0 := by rw [a2 3 (by omega), em3, zu_row, fu_s]
  have wsn : WS (c2 0) (m4 4 45) := by
    have g1 : m3 4 45 1 = P := by rw [u 1 (by decide), v1]
    have g2 : m3 4 45 2 = r 4 45 2 := by rw [u 2 (by decide), v2]
    refine ws_new (c := mm 0) (w := m3 4 45) (by rw [g1]; omega) (by rw [g2]; omega) (fun k k0 k1 => ?_) (by rw [b1, g1]) (by rw [b2, g2]) (fun i i0 i1 => a1 i i0 i1) ?_ z2
    · rw [g1, g2] at k1
      rw [g1]
      exact hput (mm 0) (yk 20 (by decide)) (yk 21 (by decide)) (m3 4 45) (fun i i0 i1 => u i (by omega)) k k0 (by omega)
    · rw [g1, g2]
      rw [y3, y4] at z1
      exact z1
  have hMG : MG A Z (c2 0) (m4 4 45) := by
    refine h.wave (CB.of hc.2 0) (fun n n2 _ _ => FE_w (fun k e1 e2 e3 e4 => ?_) n2) (fun n n2 _ _ => FW_w (fun i i0 i1 i2 => ?_) n2) ?_ ?_ wsn (WB.of o4)
    · rw [z3 0 k (.inr ⟨e4, e1⟩), yk k e1, dk k e1 e2 e3]
    · rw [a2 i (by omega), u i (by omega), lo i i0 i1 i2]
    · rw [z4 3 (by decide), y3, b1]
    · rw [z4 4 (by decide), y4, b2]
  obtain ⟨c5, e5, j1, jk, -, -⟩ := times_G (g := 0) (by omega) hMG o2 o4 hB hA hZ (a := 1) (by omega)
  have j1' : MG (A + 1) Z (c5 0) (f208_1 m4 4 45) := j1
  rw [e5]
  obtain ⟨-, kp, -⟩ := sec_keep (r := m4) o4 (by omega)
  refine ⟨j1', ⟨?_, fun k k0 k1 => ?_⟩, ?_⟩
  · show f208_1 m4 4 45 3 < f208_1 m4 4 45 1 * f208_1 m4 4 45 2
    rw [kp 3 (by omega), kp 1 (by omega), kp 2 (by omega), b1, b2, b3]
    rcases hp3 with e | e | e <;> rw [e] <;> omega
  · have k1 : k < f208_1 m4 4 45 3 := k1
    rw [kp 3 (by omega), b3] at k1
    omega
  · have e8 : c2 0 8 = c 0 8 := by rw [z3 0 8 (.inr (by decide)), yk 8 (by decide), dk 8 (by decide) (by decide) (by decide)]
    exact KC.trans ⟨by rw [e8], by rw [e8], by rw [e8]; exact Int.le_refl _, fun hx => hx.rows (fun k k0 k1 _ _ _ => by rw [z3 0 k (.inr (by omega)), yk k (by omega), dk k (by omega) (by omega) (by omega)])⟩ jk
end
section
/-! Seal, marks, credit: what the log tells. -/
theorem MG.of {A Z : Int} {c : Nat → Int → Int} {w : Int → Int} (t : w 0 = c 8 9) (n : CN c w) (o : CO c w) (r : RG c w) (k : MK c w) (l : LG c w) (d : DM c w) (ld : LD c w) (od : OD c w) (v : WV c w) (cr : CR c w) (b : CBD A Z c) (s : c 8 12 = shO (c 8 11) (c 8 10)) (p : c 8 11 = 0 ∨ c 8 11 = 1) : MG A Z c w := ⟨MV.of t n o r k l d ld od, v, cr, b, s, p⟩
/-- stores beside the log -/
theorem LG.zz {c : zM} {r : zM} {k : Nat} {i x j y : Int} (h : LG (c 0) (r 4 45)) (hk : k ≠ 37 ∧ k ≠ 38) (hj : j ≠ 16 ∧ (j < 1487 ∨ 1606 < j)) : LG (z_upd c 0 k i x 0) (z_upd r 4 45 j y 4 45) :=
  h.pt (fun k' hk' => zu_k _ _ _ (by omega)) (fun i hi => by rw [zu_row, fu_i _ _ (by omega)])
theorem LG.zc {c : zM} {w : Int → Int} {k : Nat} {i x : Int} (h : LG (c 0) w) (hk : k ≠ 37 ∧ k ≠ 38) : LG (z_upd c 0 k i x 0) w :=
  h.pt (fun k' hk' => zu_k _ _ _ (by omega)) (fun i hi => rfl)
theorem LG.zr {c : Nat → Int → Int} {r : zM} {j y : Int} (h : LG c (r 4 45)) (hj : j ≠ 16 ∧ (j < 1487 ∨ 1606 < j)) : LG c (z_upd r 4 45 j y 4 45) :=
  h.pt (fun k' hk' => rfl) (fun i hi => by rw [zu_row, fu_i _ _ (by omega)])
/-- a line more, with the class' clock -/
theorem LG.log4 {c r : zM} {b x : Int} (h : LG (c 0) (r 4 45)) (ht : c 0 8 9 = r 4 45 0) : LG (f54_1 0 b x c 0) (f223_1 b x r 4 45) := by
  unfold f54_1
  rw [zs_a]
  exact h.log ht
theorem log4_c (m : zM) (b x : Int) : (∀ g' k, (g' ≠ 0 ∨ (k ≠ 37 ∧ k ≠ 38)) → f54_1 0 b x m g' k = m g' k) := by
  unfold f54_1
  rw [zs_a]
  exact (log_c m 0 (m 0 8 9) b x).2.2.1
theorem seal_L {c r : zM} {B a : Int} (hc : OM B c) (ht : c 0 8 9 = r 4 45 0) (hs : SE B (c 0) (r 4 45)) (h : LG (c 0) (r 4 45)) : LG ((f114_1 a c).2 0) ((f276_1 a r).2 4 45) := by
  have hv : 0 ≤ c 0 39 0 ∧ c 0 39 0 ≤ 1 := r39_0 hc.2.o 0
  have s1 := hs.1
  unfold f114_1 f115_1 f276_1
  by_cases h0 : c 0 39 0 = 0
  case neg =>
    rw [if_neg h0, if_pos (show r 4 45 1614 = 1 by omega), zb_a, if_pos rfl]
    exact h
  rw [if_pos h0, if_neg (show ¬ r 4 45 1614 = 1 by omega)]
  by_cases h1 : a < 0
  · rw [if_pos h1, if_pos h1, zb_a, if_pos rfl]
    exact h
  rw [if_neg h1, if_neg h1]
  by_cases h2 : a ≤ 9999
  case neg =>
    rw [if_neg h2, if_neg h2, zb_a, if_pos rfl]
    exact h
  rw [if_pos h2, if_pos h2, zs_a, zs_a, zb_a, if_neg (show ¬ (1 : Int) = 0 by decide), zs_a, zs_a, zs_a, zs_a]
  refine LG.log4 ((h.zz (by decide) (by decide)).zz (by decide) (by decide)) ?_
  try dsimp only
  rw [zu_k _ _ _ (by decide), zu_k _ _ _ (by decide), zu_row, fu_i _ _ (by decide), zu_row, fu_i _ _ (by decide)]
  exact ht
theorem open_L {c r : zM} {B a : Int} (hc : OM B c) (ht : c 0 8 9 = r 4 45 0) (hs : SE B (c 0) (r 4 45)) (h : LG (c 0) (r 4 45)) : LG ((f116_1 a c).2 0) ((f277_1 a r).2 4 45) := by
  have hv : 0 ≤ c 0 39 0 ∧ c 0 39 0 ≤ 1 := r39_0 hc.2.o 0
  obtain ⟨s1, s2, s3, s4, s5, s6, s7⟩ := hs
  have e118 : f118_1 0 (c 0 8 9) c = f278_1 r := by
    unfold f118_1 f278_1
    rw [ht, s4, zn_a]
    split <;> omega
  unfold f116_1 f117_1 f277_1
  by_cases h0 : c 0 39 0 = 0
  · rw [if_pos h0, if_pos (show r 4 45 1614 = 0 by omega), zb_a]
    exact h
  rw [if_neg h0, if_neg (show ¬ r 4 45 1614 = 0 by omega), zn_a, zn_a, e118]
  by_cases c1 : f278_1 r ≤ 0
  case neg =>
    rw [if_neg c1, if_neg c1, zb_a]
    exact h
  rw [if_pos c1, if_pos c1, s2]
  by_cases c2 : a = r 4 45 1615
  · rw [if_pos c2, if_pos c2]
    unfold f119_1
    simp only [zs_a, zb_a]
    refine LG.log4 (((h.zz (by decide) (by decide)).zz (by decide) (by decide)).zz (by decide) (by decide)) ?_
    try dsimp only
    rw [zu_k _ _ _ (by decide), zu_k _ _ _ (by decide), zu_k _ _ _ (by decide), zu_row, fu_i _ _ (by decide), zu_row, fu_i _ _ (by decide), zu_row, fu_i _ _ (by decide)]
    exact ht
  · rw [if_neg c2, if_neg c2]
    simp only [zs_a]
    have t1 : z_upd c 0 39 2 (c 0 39 2 + 1) 0 8 9 = z_upd r 4 45 1616 (r 4 45 1616 + 1) 4 45 0 := by rw [zu_k _ _ _ (by decide), zu_row, fu_i _ _ (by decide)]; exact ht
    have v1 : z_upd c 0 39 2 (c 0 39 2 + 1) 0 39 2 = r 4 45 1616 + 1 := by rw [zu_row, fu_s, s3]
    have v2 : z_upd r 4 45 1616 (r 4 45 1616 + 1) 4 45 1616 = r 4 45 1616 + 1 := by rw [zu_row, fu_s]
    have l1 : LG (z_upd c 0 39 2 (c 0 39 2 + 1) 0) (z_upd r 4 45 1616 (r 4 45 1616 + 1) 4 45) := h.zz (by decide) (by decide)
    rw [v1, v2]
    generalize z_upd c 0 39 2 (c 0 39 2 + 1) = m1 at t1 v1 l1 ⊢
    generalize z_upd r 4 45 1616 (r 4 45 1616 + 1) = r1 at t1 v2 l1 ⊢
    have l2 := l1.log4 (b := 32) (x := r 4 45 1616 + 1) t1
    have k1 := log4_c m1 32 (r 4 45 1616 + 1)
    obtain ⟨-, -, -, k3, k4⟩ := log_r r1 32 (r 4 45 1616 + 1) l1.2.1
    have v3 : f54_1 0 32 (r 4 45 1616 + 1) m1 0 39 2 = r 4 45 1616 + 1 := by rw [k1 0 39 (by omega), v1]
    have v4 : f223_1 32 (r 4 45 1616 + 1) r1 4 45 1616 = r 4 45 1616 + 1 := by rw [k4 1616 (by omega) (by omega), v2]
    have t2 : f54_1 0 32 (r 4 45 1616 + 1) m1 0 8 9 = f223_1 32 (r 4 45 1616 + 1) r1 4 45 0 := by rw [k1 0 8 (by omega), k4 0 (by omega) (by omega), t1]
    rw [v3, v4]
    generalize f54_1 0 32 (r 4 45 1616 + 1) m1 = m2 at l2 t2 ⊢
    generalize f223_1 32 (r 4 45 1616 + 1) r1 = r2 at l2 t2 ⊢
    by_cases c3 : r 4 45 1616 + 1 < 3
    · rw [if_pos c3, if_pos c3, zb_a]
      exact l2
    · rw [if_neg c3, if_neg c3]
      unfold f121_1
      simp only [zs_a, zb_a]
      refine LG.log4 ((l2.zz (by decide) (by decide)).zz (by decide) (by decide)) ?_
      try dsimp only
      rw [zu_k _ _ _ (by decide), zu_k _ _ _ (by decide), zu_row, fu_i _ _ (by decide), zu_row, fu_i _ _ (by decide)]
      exact t2
/-! a mark by hand -/
theorem mk_of {c c' r r' : zM} {y : Int} (hk : MK (c 0) (r 4 45)) (k0 : K0 (c' 0) (r' 4 45)) (ck : CK 0 c c') (rk : RK y r r') (hy : 0 ≤ y ∧ y < 5) : MK (c' 0) (r' 4 45) := by
  obtain ⟨-, -, -, h4, h5⟩ := hk
  refine ⟨k0.1, k0.2.1, k0.2.2, fun m m0 m1 => ?_, fun m m0 m1 => ?_⟩
  · rw [ck 0 35 (by omega), rk.1 _ (by omega) (by omega) (by omega) (by omega)]
    exact h4 m m0 m1
  · rw [ck 0 36 (by omega), rk.1 _ (by omega) (by omega) (by omega) (by omega)]
    exact h5 m m0 m1
theorem mark_S {c r : zM} {A Z a b : Int} (h : MG A Z (c 0) (r 4 45)) (hA : A ≤ 5000000) (hZ : Z ≤ 900000000) (hb : 0 ≤ b ∧ b ≤ 1) :
    MK ((f134_1 a b c).2 0) ((f283_1 a b r).2 4 45) ∧ LG ((f134_1 a b c).2 0) ((f283_1 a b r).2 4 45) ∧ ∀ m, 0 ≤ m → m < 5 → (0 ≤ (f134_1 a b c).2 0 34 m ∧ (f134_1 a b c).2 0 34 m ≤ Z + 1 + c 0 8 13) ∧ (f134_1 a b c).2 0 35 m = c 0 35 m ∧ (f134_1 a b c).2 0 36 m = c 0 36 m := by
  have hk := h.1.k
  have hl := h.1.l
  have ht := h.1.t
  have b1 := h.2.2.2.1.1
  have bb := h.2.2.2.1.2.2.2.2.2.1
  have same : ∀ m, 0 ≤ m → m < 5 → (0 ≤ c 0 34 m ∧ c 0 34 m ≤ Z + 1 + c 0 8 13) ∧ c 0 35 m = c 0 35 m ∧ c 0 36 m = c 0 36 m := fun m m0 m1 => ⟨by have := (bb m m0 m1).1; omega, rfl, rfl⟩
  unfold f134_1 f283_1
  by_cases a0 : a < 0
  · rw [if_pos a0, if_pos a0]
    exact ⟨hk, hl, same⟩
  rw [if_neg a0, if_neg a0]
  by_cases a1 : 2 ≤ a
  · rw [if_pos a1, if_neg (show ¬ a ≤ 1 by omega)]
    exact ⟨hk, hl, same⟩
  rw [if_neg a1, if_pos (show a ≤ 1 by omega), zn_a, zn_a]
  have ev : f40_1 0 a c = r 4 45 (40 + a) := isOn_c hk.1 hk.2.1 (by omega) (by omega)
  have h01 := hk.1 a (by omega) (by omega)
  have er : (if r 4 45 (40 + a) = 1 then (1 : Int) else 0) = r 4 45 (40 + a) := by split <;> omega
  rw [ev, er]
  by_cases e : r 4 45 (40 + a) = b
  · rw [if_pos e, if_pos e]
    exact ⟨hk, hl, same⟩
  rw [if_neg e, if_neg e]
  have k0 : K0 (c 0) (r 4 45) := ⟨hk.1, hk.2.1, hk.2.2.1⟩
  have x34 : ∀ m, 0 ≤ m → m < 5 → r 4 45 (45 + m) = c 0 34 m := fun m m0 m1 => (hk.2.2.1 m m0 m1).symm
  by_cases b0 : b = 0
  · rw [b0, if_pos rfl]
    simp only [zs_a]
    obtain ⟨t1, t2, -, t4, t5, t6⟩ := turn_off (c := c) (r := r) (g := 0) (y := a) (t := c 0 8 9) k0 hl (by omega) (by omega) ht.symm (by omega)
    refine ⟨mk_of hk t1 t4 t5 (by omega), t2, fun m m0 m1 => ⟨?_, by rw [t4 0 35 (by omega)], by rw [t4 0 36 (by omega)]⟩⟩
    have z := (bb m m0 m1).1
    rw [t1.2.2 m m0 m1]
    by_cases em : m = a
    · rw [em, t6, x34 a (by omega) (by omega), ← em]
      omega
    · rw [t5.1 _ (by omega) (by omega) (by omega) (by omega), x34 m m0 m1]
      omega
  · have b1' : b = 1 := by omega
    rw [b1', if_neg (show ¬ (1 : Int) = 0 by decide)]
    simp only [zs_a]
    have zb := (bb a (by omega) (by omega)).1
    obtain ⟨t1, t2, -, t4, t5, t6⟩ := turn_on (c := c) (r := r) (g := 0) (y := a) (t := c 0 8 9) k0 hl (by omega) (by omega) ht.symm (by omega) (by rw [x34 a (by omega) (by omega)]; omega)
    refine ⟨mk_of hk t1 t4 t5 (by omega), t2, fun m m0 m1 => ⟨?_, by rw [t4 0 35 (by omega)], by rw [t4 0 36 (by omega)]⟩⟩
    have z := (bb m m0 m1).1
    rw [t1.2.2 m m0 m1]
    by_cases em : m = a
    · rw [em, t6, x34 a (by omega) (by omega)]
      omega
    · rw [t5.1 _ (by omega) (by omega) (by omega) (by omega), x34 m m0 m1]
      omega
/-! credit -/
theorem sw_S {c r : zM} (h11 : c 0 8 11 = r 4 45 11) (h10 : c 0 8 10 = r 4 45 10) (h12 : c 0 8 12 = r 4 45 12) (h9 : c 0 8 9 = r 4 45 0) (hp : c 0 8 11 = 0 ∨ c 0 8 11 = 1) (hl : LG (c 0) (r 4 45)) :
    LG (f53_1 0 c 0) (f222_1 r 4 45) ∧ CO (f53_1 0 c 0) (f222_1 r 4 45) ∧ f53_1 0 c 0 8 12 = shO (f53_1 0 c 0 8 11) (f53_1 0 c 0 8 10) ∧ f53_1 0 c 0 8 11 = c 0 8 11 ∧ f53_1 0 c 0 8 10 = c 0 8 10 ∧ f222_1 r 4 45 10 = r 4 45 10 := by
  obtain ⟨v1, v2, v3, v4, -, v6, -, -⟩ := switch_T h11 h10 h12 h9 hp hl
  have x11 := v4 11 (by decide)
  have x10 := v4 10 (by decide)
  have y10 := v6 10 (by decide) (by decide) (by decide)
  refine ⟨v1, ⟨?_, ?_, ?_⟩, ?_, x11, x10, y10⟩
  · rw [y10, x10, h10]
  · rw [v6 11 (by decide) (by decide) (by decide), x11, h11]
  · rw [v3, v2]
  · rw [v2, x11, x10]
theorem prepaid_S {c r : zM} {A Z a : Int} (ha : 0 ≤ a ∧ a ≤ 1) (h : MG A Z (c 0) (r 4 45)) : CO ((f135_1 a c).2 0) ((f284_1 a r).2 4 45) ∧ LG ((f135_1 a c).2 0) ((f284_1 a r).2 4 45) ∧ (f135_1 a c).2 0 8 12 = shO ((f135_1 a c).2 0 8 11) ((f135_1 a c).2 0 8 10) ∧ ((f135_1 a c).2 0 8 11 = 0 ∨ (f135_1 a c).2 0 8 11 = 1) ∧ (f135_1 a c).2 0 8 10 = c 0 8 10 := by
  obtain ⟨o10, o11, o12⟩ := h.1.o
  have hl := h.1.l
  have ht := h.1.t
  obtain ⟨-, -, -, -, hs, hp⟩ := id h
  unfold f135_1 f284_1
  have er : (if r 4 45 11 = 1 then (1 : Int) else 0) = r 4 45 11 := by split <;> omega
  have ea : (if a = 0 then (0 : Int) else 1) = a := by split <;> omega
  rw [zn_a, zn_a, er, ea, o11]
  by_cases e : c 0 8 11 = a
  · rw [if_pos e, if_pos e]
    exact ⟨h.1.o, hl, hs, hp, rfl⟩
  rw [if_neg e, if_neg e, zs_a, zs_a, zs_a, zs_a]
  have x : ∀ i, z_upd c 0 8 11 a 0 8 i = if i = 11 then a else c 0 8 i := fun i => by rw [zu_row]; rfl
  have y : ∀ i, z_upd r 4 45 11 a 4 45 i = if i = 11 then a else r 4 45 i := fun i => by rw [zu_row]; rfl
  have x11 : z_upd c 0 8 11 a 0 8 11 = a := by rw [x, if_pos rfl]
  have x10 : z_upd c 0 8 11 a 0 8 10 = c 0 8 10 := by rw [x, if_neg (by decide)]
  obtain ⟨s1, s2, s3, s4, s5, -⟩ := sw_S (c := z_upd c 0 8 11 a) (r := z_upd r 4 45 11 a) (by rw [x11, y, if_pos rfl]) (by rw [x10, y, if_neg (by decide), o10]) (by rw [x, if_neg (by decide), y, if_neg (by decide), o12]) (by rw [x, if_neg (by decide), y, if_neg (by decide), ht]) (by rw [x11]; omega) (hl.zz (by decide) (by decide))
  refine ⟨s2, s1, s3, ?_, ?_⟩
  · try dsimp only
    rw [s4, x11]
    omega
  · try dsimp only
    rw [s5, x10]
theorem pay_S {c r : zM} {A Z a : Int} (h : MG A Z (c 0) (r 4 45)) (hA : A ≤ 5000000) : (f136_1 a c).1 = (f285_1 a r).1 ∧ CO ((f136_1 a c).2 0) ((f285_1 a r).2 4 45) ∧ LG ((f136_1 a c).2 0) ((f285_1 a r).2 4 45) ∧ (f136_1 a c).2 0 8 12 = shO ((f136_1 a c).2 0 8 11) ((f136_1 a c).2 0 8 10) ∧ (f136_1 a c).2 0 8 11 = c 0 8 11 ∧ c 0 8 10 ≤ (f136_1 a c).2 0 8 10 ∧ (f136_1 a c).2 0 8 10 ≤ c 0 8 10 + 1000000000 := by
  obtain ⟨o10, o11, o12⟩ := h.1.o
  have hl := h.1.l
  have ht := h.1.t
  obtain ⟨-, -, -, hb, hs, hp⟩ := id h
  have b10 := hb.2.2.2.2.2.2.1
  have b13 := hb.1
  unfold f136_1 f285_1
  by_cases a0 : a < 0
  · rw [if_pos a0, if_pos a0]
    exact ⟨rfl, h.1.o, hl, hs, rfl, Int.le_refl _, show c 0 8 10 ≤ c 0 8 10 + 1000000000 by omega⟩
  rw [if_neg a0, if_neg a0]
  by_cases a1 : a ≤ 1000000000
  case neg =>
    rw [if_neg a1, if_neg a1]
    exact ⟨rfl, h.1.o, hl, hs, rfl, Int.le_refl _, show c 0 8 10 ≤ c 0 8 10 + 1000000000 by omega⟩
  rw [if_pos a1, if_pos a1, zn_a, zn_a, o10, w64_id (x := c 0 8 10 + a) (by omega), zs_a, zs_a, zs_a, zs_a]
  have x : ∀ i, z_upd c 0 8 10 (c 0 8 10 + a) 0 8 i = if i = 10 then c 0 8 10 + a else c 0 8 i := fun i => by rw [zu_row]; rfl
  have y : ∀ i, z_upd r 4 45 10 (c 0 8 10 + a) 4 45 i = if i = 10 then c 0 8 10 + a else r 4 45 i := fun i => by rw [zu_row]; rfl
  have x11 : z_upd c 0 8 10 (c 0 8 10 + a) 0 8 11 = c 0 8 11 := by rw [x, if_neg (by decide)]
  have x10 : z_upd c 0 8 10 (c 0 8 10 + a) 0 8 10 = c 0 8 10 + a := by rw [x, if_pos rfl]
  obtain ⟨s1, s2, s3, s4, s5, s6⟩ := sw_S (c := z_upd c 0 8 10 (c 0 8 10 + a)) (r := z_upd r 4 45 10 (c 0 8 10 + a)) (by rw [x11, y, if_neg (by decide), o11]) (by rw [x10, y, if_pos rfl]) (by rw [x, if_neg (by decide), y, if_neg (by decide), o12]) (by rw [x, if_neg (by decide), y, if_neg (by decide), ht]) (by rw [x11]; exact hp) (hl.zz (by decide) (by decide))
  refine ⟨s2.1.symm, s2, s1, s3, ?_, ?_, ?_⟩
  · try dsimp only
    rw [s4, x11]
  · try dsimp only
    rw [s5, x10]
    omega
  · try dsimp only
    rw [s5, x10]
    omega
end
section
/-! A block ended by hand: move, set. -/
/-- the next block is empty -/
theorem LD.beg {c c' : Nat → Int → Int} {w w' : Int → Int} (h : LD c w) (hz : ∀ i, 3 ≤ i → i ≤ 8 → c 27 i = 0) (h27 : ∀ i, 2 ≤ i → i ≤ 8 → c' 27 i = c 27 i) (h28 : c' 28 = c 28) (h29 : c' 29 = c 29) (hw : ∀ i, i = 17 ∨ (788 ≤ i ∧ i ≤ 1171) ∨ (1607 ≤ i ∧ i ≤ 1610) → w' i = w i) (hw0 : ∀ i, 22 ≤ i → i ≤ 27 → w' i = 0) : LD c' w' := by
  obtain ⟨a1, a2, ⟨a3, a4⟩, a5, b⟩ := h
  have e17 := hw 17 (by omega)
  have z : ∀ i, 3 ≤ i → i ≤ 8 → c' 27 i = 0 := fun i i0 i1 => by rw [h27 i (by omega) i1, hz i i0 i1]
  refine ⟨by rw [h27 2 (by omega) (by omega), e17]; exact a1, by omega, ⟨fun i i0 i1 k k0 k1 => ?_, fun j j0 j1 k k0 k1 => ?_⟩, fun k k0 k1 => ?_, ?_⟩
  · rw [e17] at i1 ⊢
    rw [h28, hw _ (by omega)]
    exact a3 i i0 i1 k k0 k1
  · rw [e17] at j0
    rw [h28]
    exact a4 j j0 j1 k k0 k1
  · rw [h29, hw _ (by omega)]
    exact a5 k k0 k1
  · unfold LB
    rw [z 3 (by omega) (by omega), z 4 (by omega) (by omega), z 5 (by omega) (by omega), z 6 (by omega) (by omega), z 7 (by omega) (by omega), z 8 (by omega) (by omega), hw0 22 (by omega) (by omega), hw0 23 (by omega) (by omega), hw0 24 (by omega) (by omega), hw0 25 (by omega) (by omega), hw0 26 (by omega) (by omega), hw0 27 (by omega) (by omega)]
    omega
/-- a block ends, told of (64) -/
theorem end64 {c r : zM} {B A Z : Int} (hr : OM B r) (h : MG A Z (c 0) (r 4 45)) (hA : A ≤ 5000000) :
    ∃ m3 x1, f60_1 0 (c 0 8 9) (max 1 (c 0 10 4)) 64 c = m3 ∧ f232_1 64 r = x1 ∧ LD (m3 0) (x1 4 45) ∧ (∀ i, 3 ≤ i → i ≤ 8 → m3 0 27 i = 0) ∧ m3 0 27 9 = c 0 8 9 ∧ (∀ g' k, (g' ≠ 0 ∨ (k ≠ 27 ∧ k ≠ 28 ∧ k ≠ 29)) → m3 g' k = c g' k) ∧ (∀ i, i ≠ 17 → (i < 21 ∨ 27 < i) → (i < 788 ∨ 1171 < i) → (i < 1607 ∨ 1610 < i) → x1 4 45 i = r 4 45 i) ∧ (∀ g k, (g ≠ 4 ∨ k ≠ 45) → x1 g k = r g k) := by
  have st := h.2.1.2.2.2.1
  have b8 := r45_8 hr.2.o 4
  have s4 : c 0 10 4 = r 4 45 8 := st.2.2.2.2.1
  obtain ⟨cb1, -, -, cb4, -, -, -, cb8, cb9, -⟩ := h.2.2.2.1
  obtain ⟨x1, e1, e2, e3, e4, e5, e6, e7, e8⟩ := ends_T (c := c) (r := r) (g := 0) (t := c 0 8 9) (blk := max 1 (c 0 10 4)) (told := 64) (fun i hi => r64_1607 hr hi) h.1.ld h.1.od h.1.t.symm (by omega) (.inr rfl)
  have e232 : f232_1 64 r = x1 := by
    by_cases hz : r 4 45 25 + r 4 45 26 = 0
    · rw [if_pos hz] at e1
      exact e1
    · rw [if_neg hz, if_neg (show ¬ (64 : Int) = 0 by decide)] at e1
      exact e1
  have nl := (end_c c 0 (c 0 8 9) (max 1 (c 0 10 4)) 64 (by omega) (by omega)).1
  exact ⟨_, x1, rfl, e232, e2, nl, e3, e5, e6, e7⟩
theorem move_in {c r : zM} {B A Z a : Int} (hr : OM B r) (h : MG A Z (c 0) (r 4 45)) (hA : A ≤ 5000000) :
    ∃ c' r', f129_1 0 a c = (c 0 8 9, c') ∧ f223_1 20 (r 4 45 0) (f233_1 (z_upd (f232_1 64 r) 4 45 0 a)) = r' ∧ r' 4 45 0 = c' 0 8 9 ∧ LG (c' 0) (r' 4 45) ∧ LD (c' 0) (r' 4 45) ∧ OD (c' 0) (r' 4 45) ∧ DM (c' 0) (r' 4 45) ∧ ∀ i, 3 ≤ i → i ≤ 8 → c' 0 27 i = 0 := by
  have ht := h.1.t
  obtain ⟨m3, x1, q1, q2, ld, nl, e9, e5, e6, e7⟩ := end64 hr h hA
  unfold f129_1
  simp only [zs_a]
  rw [q1, q2, ht]
  have ow : ∀ i, z_upd (z_upd m3 0 8 9 a) 0 27 9 a 0 27 i = if i = 9 then a else m3 0 27 i := fun i => by
    rw [zu_row, zu_k _ _ _ (by decide)]
    rfl
  have ok : ∀ k, k ≠ 8 → k ≠ 27 → z_upd (z_upd m3 0 8 9 a) 0 27 9 a 0 k = m3 0 k := fun k k8 k27 => by rw [zu_k _ _ _ k27, zu_k _ _ _ k8]
  have o9 : z_upd (z_upd m3 0 8 9 a) 0 27 9 a 0 8 9 = a := by rw [zu_k _ _ _ (by decide), zu_row, fu_s]
  obtain ⟨m8, em8⟩ : ∃ x, x = z_upd (z_upd m3 0 8 9 a) 0 27 9 a := ⟨_, rfl⟩
  rw [← em8] at ow ok o9 ⊢
  obtain ⟨g1, g2, g3, g4⟩ := begin_r (z_upd x1 4 45 0 a)
  have u0 : z_upd x1 4 45 0 a 4 45 0 = a := by rw [zu_row, fu_s]
  have u8 : z_upd x1 4 45 0 a 4 45 8 = r 4 45 8 := by rw [zu_row, fu_i _ _ (by decide), e6 8 (by decide) (by decide) (by decide) (by decide)]
  have v : ∀ i, i ≠ 0 → (i < 21 ∨ 27 < i) → f233_1 (z_upd x1 4 45 0 a) 4 45 i = x1 4 45 i := fun i i0 i1 => by rw [g3 i i1, zu_row, fu_i _ _ i0]
  have v0 : f233_1 (z_upd x1 4 45 0 a) 4 45 0 = a := by rw [g3 0 (by omega), u0]
  rw [u0, u8] at g2
  obtain ⟨n8, en8⟩ : ∃ x, x = f233_1 (z_upd x1 4 45 0 a) := ⟨_, rfl⟩
  rw [← en8] at g1 g2 v v0 ⊢
  have l1 : LG (m8 0) (n8 4 45) := h.1.l.pt (fun k hk => by rw [ok k (by omega) (by omega), e5 0 k (by omega)]) (fun i hi => by rw [v i (by omega) (by omega), e6 i (by omega) (by omega) (by omega) (by omega)])
  have l2 := l1.log4 (b := 20) (x := c 0 8 9) (by rw [o9, v0])
  have k1 := log4_c m8 20 (c 0 8 9)
  obtain ⟨-, -, -, -, k4⟩ := log_r n8 20 (c 0 8 9) l1.2.1
  have c27 : ∀ i, f54_1 0 20 (c 0 8 9) m8 0 27 i = if i = 9 then a else m3 0 27 i := fun i => by rw [k1 0 27 (by omega), ow]
  refine ⟨_, _, rfl, rfl, ?_, l2, ld.beg nl (fun i i0 i1 => by rw [c27, if_neg (by omega)]) (by rw [k1 0 28 (by omega), ok 28 (by decide) (by decide)]) (by rw [k1 0 29 (by omega), ok 29 (by decide) (by decide)]) (fun i hi => by rw [k4 i (by omega) (by omega), v i (by omega) (by omega)]) (fun i i0 i1 => by rw [k4 i (by omega) (by omega), g1 i i0 i1]), ?_, h.1.d.pt (fun k k0 k2 => by rw [k1 0 k (by omega), ok k (by omega) (by omega), e5 0 k (by omega)]) (fun i hi => by rw [k4 i (by omega) (by omega), v i (by omega) (by omega), e6 i (by omega) (by omega) (by omega) (by omega)]), fun i i0 i1 => by rw [c27, if_neg (by omega), nl i i0 i1]⟩
  · rw [k4 0 (by omega) (by omega), v0, k1 0 8 (by omega), o9]
  · unfold OD
    rw [k4 21 (by omega) (by omega), g2, c27, if_pos rfl, k4 8 (by omega) (by omega), v 8 (by omega) (by omega), e6 8 (by decide) (by decide) (by decide) (by decide)]
/-- all but the seal -/
theorem FE_s {c c' : Nat → Int → Int} (h : ∀ k, k ≠ 39 → c' k = c k) {n : Nat} (hn : n ≠ 4) : FE n c c' := fun x hx e i _ _ => by
  have hx2 : ∀ x, x ∈ fcl → x.1 ≠ 4 → x.2.1 ≠ 39 := by decide
  rw [h _ (hx2 x hx (by omega))]
theorem FW_s {w w' : Int → Int} (h : ∀ i, 0 ≤ i → ¬ (1614 ≤ i ∧ i ≤ 1618) → w' i = w i) {n : Nat} (hn : n ≠ 4) : FW n w w' := fun i h0 h1 e => h i h0 (fun hh => by rw [ja45_1614 hh] at e; omega)
theorem MG.s {A Z : Int} {c c' : Nat → Int → Int} {w w' : Int → Int} (h : MG A Z c w) (hb : CB c) (hc : ∀ k, k ≠ 39 → c' k = c k) (hw : ∀ i, 0 ≤ i → ¬ (1614 ≤ i ∧ i ≤ 1618) → w' i = w i) : MG A Z c' w' := h.fe hb (fun _ n4 _ => FE_s hc n4) (fun _ n4 _ => FW_s hw n4)
/-- where the class writes down what was refused -/
theorem shut_M {c r : zM} {B A Z : Int} (hc : OM B c) (hr : OM B r) (hB : B + 1 ≤ 1000000000) (hs : SE B (c 0) (r 4 45)) (h : MG A Z (c 0) (r 4 45)) :
    ∃ v c1 r1, f17_1 0 c = (v, c1) ∧ f203_1 r = (v, r1) ∧ OM B c1 ∧ OM B r1 ∧ MG A Z (c1 0) (r1 4 45) ∧ (∀ k, k ≠ 39 → c1 0 k = c 0 k) ∧ (∀ i, i < 1614 → r1 4 45 i = r 4 45 i) := by
  obtain ⟨v, c1, r1, e1, e2, hv, oc, ro, se, cr, fc, fr⟩ := shut_R hc hr hB hs h.2.2.1
  have k1 : ∀ k, k ≠ 39 → c1 0 k = c 0 k := fun k hk => funext fun i => fc 0 k i (by omega)
  exact ⟨v, c1, r1, e1, e2, oc, ro, h.s (CB.of hc.2 0) k1 (fun i _ i1 => fr 4 45 i (by omega)), k1, fun i hi => fr 4 45 i (by omega)⟩
theorem move_S {c r : zM} {B A Z a : Int} (hc : OM B c) (hr : OM B r) (hB : B + 1 ≤ 1000000000) (hs : SE B (c 0) (r 4 45)) (h : MG A Z (c 0) (r 4 45)) (hA : A ≤ 5000000) :
    (f281_1 a r).2 4 45 0 = (f127_1 a c).2 0 8 9 ∧ LG ((f127_1 a c).2 0) ((f281_1 a r).2 4 45) ∧ LD ((f127_1 a c).2 0) ((f281_1 a r).2 4 45) ∧ OD ((f127_1 a c).2 0) ((f281_1 a r).2 4 45) ∧ DM ((f127_1 a c).2 0) ((f281_1 a r).2 4 45) ∧ ∀ i, 3 ≤ i → i ≤ 8 → (f127_1 a c).2 0 27 i = 0 ∨ (f127_1 a c).2 0 27 i = c 0 27 i := by
  obtain ⟨v, c1, r1, e1, e2, oc, ro, h1, k1, -⟩ := shut_M hc hr hB hs h
  have same : (r1 4 45 0 = c1 0 8 9 ∧ LG (c1 0) (r1 4 45) ∧ LD (c1 0) (r1 4 45) ∧ OD (c1 0) (r1 4 45) ∧ DM (c1 0) (r1 4 45) ∧ ∀ i, 3 ≤ i → i ≤ 8 → c1 0 27 i = 0 ∨ c1 0 27 i = c 0 27 i) := ⟨h1.1.t, h1.1.l, h1.1.ld, h1.1.od, h1.1.d, fun i _ _ => .inr (by rw [k1 27 (by decide)])⟩
  unfold f127_1 f281_1
  rw [e1, e2, zb_a, zb_a]
  by_cases hv : v = 0
  case neg =>
    rw [if_neg hv, if_neg hv]
    exact same
  rw [if_pos hv, if_pos hv]
  by_cases a0 : a < 0
  · rw [if_pos a0, if_pos a0]
    exact same
  rw [if_neg a0, if_neg a0]
  by_cases a1 : a ≤ 2000000000
  case neg =>
    rw [if_pos (show 2000000000 < a by omega), if_neg a1]
    exact same
  rw [if_neg (show ¬ 2000000000 < a by omega), if_pos a1]
  obtain ⟨c', r', x1, x2, x3, x4, x5, x6, x8, x7⟩ := move_in (a := a) ro h1 hA
  simp only [zs_a]
  rw [x1, x2, zb_a]
  exact ⟨x3, x4, x5, x6, x8, fun i i0 i1 => .inl (x7 i i0 i1)⟩
end
section
/-! A setting, on both sides. -/
def PR (v j : Int) : Prop := (0 ≤ v ∧ v ≤ 5 ∧ j = v + 4) ∨ (6 ≤ v ∧ v ≤ 9 ∧ j = v + 22) ∨ (10 ≤ v ∧ v ≤ 12 ∧ j = v + 1601)
def blk5 (b : Int) : Prop := b = 60 ∨ b = 300 ∨ b = 900 ∨ b = 1800 ∨ b = 3600
theorem ST.put {c c' : Nat → Int → Int} {w w' : Int → Int} (h : ST c w) {v j b : Int} (hp : PR v j) (hb : v = 4 → blk5 b) (e : ∀ i, c' 10 i = fu (c 10) v b i) (e' : ∀ i, w' i = fu w j b i) : ST c' w' := by
  have key : ∀ v0 j0, PR v0 j0 → c 10 v0 = w j0 → c' 10 v0 = w' j0 := fun v0 j0 h0 h1 => by
    rw [e, e']
    unfold PR at hp h0
    by_cases x : v0 = v
    · have y : j0 = j := by omega
      rw [x, y, fu_s, fu_s]
    · have y : j0 ≠ j := by omega
      rw [fu_i _ _ x, fu_i _ _ y, h1]
  obtain ⟨a0, a1, a2, a3, a4, a5, a6, a7, a8, a9, a10⟩ := h
  refine ⟨key 0 4 (by unfold PR; omega) a0, key 1 5 (by unfold PR; omega) a1, key 2 6 (by unfold PR; omega) a2, key 3 7 (by unfold PR; omega) a3, key 4 8 (by unfold PR; omega) a4, key 5 9 (by unfold PR; omega) a5, fun t t0 t1 => key (6 + t) (28 + t) (by unfold PR; omega) (a6 t t0 t1), key 10 1611 (by unfold PR; omega) a7, key 11 1612 (by unfold PR; omega) a8, key 12 1613 (by unfold PR; omega) a9, ?_⟩
  rw [e']
  by_cases x : j = 8
  · rw [x, fu_s]
    exact hb (by unfold PR at hp; omega)
  · rw [fu_i _ _ (fun y => x y.symm)]
    exact a10
/-- what a setting's answer and memories are -/
def SP (c : zM) (x y : Int × zM) : Prop := x.1 = y.1 ∧ ST (x.2 0) (y.2 4 45) ∧ LD (x.2 0) (y.2 4 45) ∧ OD (x.2 0) (y.2 4 45) ∧ DM (x.2 0) (y.2 4 45) ∧ ∀ i, 3 ≤ i → i ≤ 8 → x.2 0 27 i = 0 ∨ x.2 0 27 i = c 0 27 i
theorem SP.no {c r : zM} {A Z : Int} (h : MG A Z (c 0) (r 4 45)) {x y : Int × zM} (hx : x = (0, c)) (hy : y = (0, r)) : SP c x y := by
  rw [hx, hy]
  exact ⟨rfl, h.2.1.2.2.2.1, h.1.ld, h.1.od, h.1.d, fun _ _ _ => .inr rfl⟩
theorem SP.put {c r : zM} {A Z : Int} (h : MG A Z (c 0) (r 4 45)) {v j b : Int} (hp : PR v j) (h4 : v ≠ 4) {x y : Int × zM} (hx : x = (1, z_upd c 0 10 v b)) (hy : y = (1, z_upd r 4 45 j b)) : SP c x y := by
  rw [hx, hy]
  unfold SP
  dsimp only
  have wj : ∀ i, i ≠ j → z_upd r 4 45 j b 4 45 i = r 4 45 i := fun i hi => by rw [zu_row, fu_i _ _ hi]
  have k27 : z_upd c 0 10 v b 0 27 = c 0 27 := zu_k _ _ _ (by decide)
  unfold PR at hp
  refine ⟨rfl, h.2.1.2.2.2.1.put hp (fun e => absurd e h4) (fun i => by rw [zu_row]) (fun i => by rw [zu_row]), h.1.ld.pt (fun i _ _ => by rw [k27]) (zu_k _ _ _ (by decide)) (zu_k _ _ _ (by decide)) (fun i hi => wj i (by omega)), ?_, h.1.d.pt (fun k _ _ => zu_k _ _ _ (by omega)) (fun i hi => wj i (by omega)), fun i _ _ => .inr (by rw [k27])⟩
  unfold OD
  show z_upd r 4 45 j b 4 45 21 = if z_upd c 0 10 v b 0 27 9 % z_upd r 4 45 j b 4 45 8 = 0 then 0 else 1
  rw [wj 21 (by omega), wj 8 (by omega), k27]
  exact h.1.od
theorem zb_id (x : Int × zM) : (zb x fun v m => (v, m)) = x := by
  cases x
  rfl
theorem f74_v {c : zM} {a b v lo hi : Int} (h76 : ∀ m, f76_1 a m = v) (hv : v ≠ -1) (h1 : a ≠ 1) (h4 : a ≠ 4) (hlo : zro 2 v = lo) (hhi : zro 3 v = hi) : f74_1 0 a b c = if b < lo then (0, c) else if b ≤ hi then (1, z_upd c 0 10 v b) else (0, c) := by
  unfold f74_1 f75_1 f77_1
  simp only [zn_a, zs_a]
  rw [h76, if_neg hv, hlo, hhi, if_neg h1, if_neg h4, if_neg h4, h76, if_neg hv]
  by_cases x : b < lo
  · rw [if_pos x, if_pos x, if_pos rfl]
  · rw [if_neg x, if_neg x]
    by_cases y : b ≤ hi
    · rw [if_pos y, if_pos y, if_neg (show ¬ (1 : Int) = 0 by decide)]
    · rw [if_neg y, if_neg y, if_pos rfl]
theorem set_one {c r : zM} {A Z : Int} (h : MG A Z (c 0) (r 4 45)) {a b v j lo hi : Int} (hp : PR v j) (h76 : ∀ m, f76_1 a m = v) (hv : v ≠ -1) (h4v : v ≠ 4) (h1 : a ≠ 1) (h4 : a ≠ 4) (hlo : zro 2 v = lo) (hhi : zro 3 v = hi) {y : Int × zM} (hy : y = if b < lo then (0, r) else if b ≤ hi then (1, z_upd r 4 45 j b) else (0, r)) : SP c (f74_1 0 a b c) y := by
  have hx := f74_v (c := c) (b := b) h76 hv h1 h4 hlo hhi
  by_cases x : b < lo
  · rw [if_pos x] at hx hy
    exact SP.no h hx hy
  rw [if_neg x] at hx hy
  by_cases z : b ≤ hi
  · rw [if_pos z] at hx hy
    exact SP.put h hp h4v hx hy
  · rw [if_neg z] at hx hy
    exact SP.no h hx hy
theorem eq_ite {α : Type} (p : Prop) [Decidable p] (x y z : α) (hx : p → x = z) (hy : ¬ p → y = z) : (if p then x else y) = z := by
  by_cases h : p
  · rw [if_pos h]
    exact hx h
  · rw [if_neg h]
    exact hy h
/-- the unit -/
theorem set_1 {c r : zM} {A Z b : Int} (h : MG A Z (c 0) (r 4 45)) {y : Int × zM} (hy : y = if b < 1 then (0, r) else if b ≤ 1000000 then (if r 4 45 13 ≤ 0 then (1, z_upd r 4 45 5 b) else (0, r)) else (0, r)) : SP c (f74_1 0 1 b c) y := by
  have h76 : ∀ m, f76_1 1 m = 1 := fun _ => rfl
  have hlo : zro 2 1 = 1 := by decide
  have hhi : zro 3 1 = 1000000 := by decide
  have h13 : r 4 45 13 = c 0 8 13 := h.1.n.1
  have hx : f74_1 0 1 b c = if b < 1 then (0, c) else if b ≤ 1000000 then (if r 4 45 13 ≤ 0 then (1, z_upd c 0 10 1 b) else (0, c)) else (0, c) := by
    unfold f74_1 f75_1 f77_1
    simp only [zn_a, zs_a]
    rw [h76, if_neg (show ¬ (1 : Int) = -1 by decide), hlo, hhi, if_neg (show ¬ (1 : Int) = 4 by decide), if_pos trivial, if_neg (show ¬ (1 : Int) = -1 by decide), h13]
    by_cases x : b < 1
    · rw [if_pos x, if_pos x, if_pos rfl]
    · rw [if_neg x, if_neg x]
      by_cases y : b ≤ 1000000
      · rw [if_pos y, if_pos y, if_neg (show ¬ (1 : Int) = 0 by decide)]
      · rw [if_neg y, if_neg y, if_pos rfl]
  by_cases x : b < 1
  · rw [if_pos x] at hx hy
    exact SP.no h hx hy
  rw [if_neg x] at hx hy
  by_cases z : b ≤ 1000000
  · rw [if_pos z] at hx hy
    by_cases z2 : r 4 45 13 ≤ 0
    · rw [if_pos z2] at hx hy
      exact SP.put h (j := 5) (by unfold PR; omega) (by decide) hx hy
    · rw [if_neg z2] at hx hy
      exact SP.no h hx hy
  · rw [if_neg z] at hx hy
    exact SP.no h hx hy
/-- the block -/
theorem set_4 {c r : zM} {B A Z b : Int} (hr : OM B r) (h : MG A Z (c 0) (r 4 45)) (hA : A ≤ 5000000) {y : Int × zM} (hy : (blk5 b → y = (1, f233_1 (z_upd (f232_1 64 r) 4 45 8 b))) ∧ (¬ blk5 b → y = (0, r))) : SP c (f74_1 0 4 b c) y := by
  have h76 : ∀ m, f76_1 4 m = 4 := fun _ => rfl
  have hlo : zro 2 4 = 60 := by decide
  have hhi : zro 3 4 = 3600 := by decide
  have e75 : f75_1 0 4 b c = if b = 60 then 1 else if b = 300 then 1 else if b = 900 then 1 else if b = 1800 then 1 else if b = 3600 then 1 else 0 := by
    unfold f75_1
    simp only [zn_a]
    rw [h76, if_neg (show ¬ (4 : Int) = -1 by decide), hlo, hhi, if_pos trivial]
    by_cases x : b < 60
    · rw [if_pos x, if_neg (show ¬ b = 60 by omega), if_neg (show ¬ b = 300 by omega), if_neg (show ¬ b = 900 by omega), if_neg (show ¬ b = 1800 by omega), if_neg (show ¬ b = 3600 by omega)]
    rw [if_neg x]
    by_cases x : b ≤ 3600
    · rw [if_pos x]
    · rw [if_neg x, if_neg (show ¬ b = 60 by omega), if_neg (show ¬ b = 300 by omega), if_neg (show ¬ b = 900 by omega), if_neg (show ¬ b = 1800 by omega), if_neg (show ¬ b = 3600 by omega)]
  by_cases hb : blk5 b
  case neg =>
    have e0 : f75_1 0 4 b c = 0 := by
      rw [e75]
      unfold blk5 at hb
      rw [if_neg (show ¬ b = 60 by omega), if_neg (show ¬ b = 300 by omega), if_neg (show ¬ b = 900 by omega), if_neg (show ¬ b = 1800 by omega), if_neg (show ¬ b = 3600 by omega)]
    refine SP.no h ?_ (hy.2 hb)
    unfold f74_1
    rw [zn_a, e0, if_pos rfl]
  have e1 : f75_1 0 4 b c = 1 := by
    rw [e75]
    unfold blk5 at hb
    rcases hb with e | e | e | e | e <;> rw [e] <;> decide
  obtain ⟨m3, x1, q1, q2, ld, nl, e9, e5, e6, e7⟩ := end64 hr h hA
  have hx : f74_1 0 4 b c = (1, z_upd m3 0 10 4 b) := by
    unfold f74_1 f77_1
    simp only [zn_a, zs_a]
    rw [e1, if_neg (show ¬ (1 : Int) = 0 by decide), if_neg (show ¬ (4 : Int) = 1 by decide), if_pos trivial, q1, h76, if_neg (show ¬ (4 : Int) = -1 by decide)]
  have hy1 := hy.1 hb
  rw [q2] at hy1
  rw [hx, hy1]
  unfold SP
  dsimp only
  obtain ⟨g1, g2, g3, g4⟩ := begin_r (z_upd x1 4 45 8 b)
  have u0 : z_upd x1 4 45 8 b 4 45 0 = r 4 45 0 := by rw [zu_row, fu_i _ _ (by decide), e6 0 (by decide) (by decide) (by decide) (by decide)]
  have u8 : z_upd x1 4 45 8 b 4 45 8 = b := by rw [zu_row, fu_s]
  rw [u0, u8] at g2
  have v : ∀ i, (i < 21 ∨ 27 < i) → f233_1 (z_upd x1 4 45 8 b) 4 45 i = fu (x1 4 45) 8 b i := fun i i1 => by rw [g3 i i1, zu_row]
  obtain ⟨n8, en8⟩ : ∃ x, x = f233_1 (z_upd x1 4 45 8 b) := ⟨_, rfl⟩
  rw [← en8] at g1 g2 v ⊢
  have st3 : ST (m3 0) (x1 4 45) := by
    have ww : ∀ i, (4 ≤ i ∧ i ≤ 9) ∨ (28 ≤ i ∧ i ≤ 31) ∨ (1611 ≤ i ∧ i ≤ 1613) → x1 4 45 i = r 4 45 i := fun i hi => e6 i (by omega) (by omega) (by omega) (by omega)
    unfold ST
    rw [e5 0 10 (by omega), ww 4 (by omega), ww 5 (by omega), ww 6 (by omega), ww 7 (by omega), ww 8 (by omega), ww 9 (by omega), ww 1611 (by omega), ww 1612 (by omega), ww 1613 (by omega)]
    obtain ⟨b0, b1, b2, b3, b4, b5, b6, b7, b8, b9, b10⟩ := h.2.1.2.2.2.1
    exact ⟨b0, b1, b2, b3, b4, b5, fun t t0 t1 => by rw [ww _ (by omega)]; exact b6 t t0 t1, b7, b8, b9, b10⟩
  have k27 : z_upd m3 0 10 4 b 0 27 = m3 0 27 := zu_k _ _ _ (by decide)
  have st4 : ST (z_upd m3 0 10 4 b 0) (z_upd x1 4 45 8 b 4 45) := st3.put (v := 4) (j := 8) (b := b) (by unfold PR; omega) (fun _ => hb) (fun i => by rw [zu_row]) (fun i => by rw [zu_row])
  have st5 : ST (z_upd m3 0 10 4 b 0) (n8 4 45) := by
    have ww : ∀ i, (4 ≤ i ∧ i ≤ 9) ∨ (28 ≤ i ∧ i ≤ 31) ∨ (1611 ≤ i ∧ i ≤ 1613) → n8 4 45 i = z_upd x1 4 45 8 b 4 45 i := fun i hi => by rw [v i (by omega), zu_row]
    unfold ST
    rw [ww 4 (by omega), ww 5 (by omega), ww 6 (by omega), ww 7 (by omega), ww 8 (by omega), ww 9 (by omega), ww 1611 (by omega), ww 1612 (by omega), ww 1613 (by omega)]
    obtain ⟨b0, b1, b2, b3, b4, b5, b6, b7, b8, b9, b10⟩ := st4
    exact ⟨b0, b1, b2, b3, b4, b5, fun t t0 t1 => by rw [ww _ (by omega)]; exact b6 t t0 t1, b7, b8, b9, b10⟩
  refine ⟨rfl, st5, ld.beg nl (fun i _ _ => by rw [k27]) (zu_k _ _ _ (by decide)) (zu_k _ _ _ (by decide)) (fun i hi => ?_) g1, ?_, h.1.d.pt (fun k k0 k1 => by rw [zu_k _ _ _ (by omega), e5 0 k (by omega)]) (fun i hi => by rw [v i (by omega), fu_i _ _ (by omega), e6 i (by omega) (by omega) (by omega) (by omega)]), fun i i0 i1 => .inl (by rw [k27]; exact nl i i0 i1)⟩
  · rw [v i (by omega), fu_i _ _ (by omega)]
  · unfold OD
    show n8 4 45 21 = if z_upd m3 0 10 4 b 0 27 9 % n8 4 45 8 = 0 then 0 else 1
    rw [g2, k27, e9, v 8 (by omega), fu_s, ← h.1.t]
theorem set_P {c r : zM} {B A Z a b : Int} (hc : OM B c) (hr : OM B r) (hB : B + 1 ≤ 1000000000) (hs : SE B (c 0) (r 4 45)) (h : MG A Z (c 0) (r 4 45)) (hA : A ≤ 5000000) : SP c (f73_1 a b c) (f280_1 a b r) := by
  obtain ⟨v, c1, r1, e1, e2, oc, ro, h1, k1, -⟩ := shut_M hc hr hB hs h
  have lift : ∀ {x y : Int × zM}, SP c1 x y → SP c x y := fun hh => ⟨hh.1, hh.2.1, hh.2.2.1, hh.2.2.2.1, hh.2.2.2.2.1, fun i i0 i1 => by
    have := hh.2.2.2.2.2 i i0 i1
    rw [k1 27 (by decide)] at this
    exact this⟩
  refine lift ?_
  unfold f73_1 f280_1
  rw [e1, e2]
  simp only [zb_a]
  by_cases hv : v = 0
  case neg =>
    rw [if_neg hv, if_neg hv]
    exact SP.no h1 rfl rfl
  rw [if_pos hv, if_pos hv]
  show SP c1 (f74_1 0 a b c1) _
  by_cases a0 : a = 0
  · subst a0
    exact set_one h1 (v := 0) (j := 4) (lo := 0) (hi := 1000000) (by unfold PR; omega) (fun _ => rfl) (by decide) (by decide) (by decide) (by decide) (by decide) (by decide) (by simp only [↓reduceIte, zs_a])
  rw [if_neg a0]
  by_cases a1 : a = 1
  · subst a1
    exact set_1 h1 (by simp only [↓reduceIte, zs_a])
  rw [if_neg a1]
  by_cases a2 : a = 2
  · subst a2
    exact set_one h1 (v := 2) (j := 6) (lo := 0) (hi := 250000) (by unfold PR; omega) (fun _ => rfl) (by decide) (by decide) (by decide) (by decide) (by decide) (by decide) (by simp only [↓reduceIte, zs_a])
  rw [if_neg a2]
  by_cases a3 : a = 3
  · subst a3
    exact set_one h1 (v := 3) (j := 7) (lo := 0) (hi := 60) (by unfold PR; omega) (fun _ => rfl) (by decide) (by decide) (by decide) (by decide) (by decide) (by decide) (by simp only [↓reduceIte, zs_a])
  rw [if_neg a3]
  by_cases a4 : a = 4
  · subst a4
    refine set_4 ro h1 hA ⟨fun hb => ?_, fun hb => ?_⟩
    · rw [if_pos (show (4 : Int) = 4 from rfl)]
      simp only [zs_a]
      unfold blk5 at hb
      by_cases x1 : b = 60
      · rw [if_pos x1]
      rw [if_neg x1]
      by_cases x2 : b = 300
      · rw [if_pos x2]
      rw [if_neg x2]
      by_cases x3 : b = 900
      · rw [if_pos x3]
      rw [if_neg x3]
      by_cases x4 : b = 1800
      · rw [if_pos x4]
      rw [if_neg x4, if_pos (show b = 3600 by omega)]
    · unfold blk5 at hb
      rw [if_pos (show (4 : Int) = 4 from rfl), if_neg (show ¬ b = 60 by omega), if_neg (show ¬ b = 300 by omega), if_neg (show ¬ b = 900 by omega), if_neg (show ¬ b = 1800 by omega), if_neg (show ¬ b = 3600 by omega)]
  rw [if_neg a4]
  by_cases a5 : a = 5
  · subst a5
    exact set_one h1 (v := 5) (j := 9) (lo := 1) (hi := 6) (by unfold PR; omega) (fun _ => rfl) (by decide) (by decide) (by decide) (by decide) (by decide) (by decide) (by simp only [↓reduceIte, zs_a])
  rw [if_neg a5]
  by_cases a10 : a = 10
  · subst a10
    exact set_one h1 (v := 6) (j := 28) (lo := 0) (hi := 100) (by unfold PR; omega) (fun _ => rfl) (by decide) (by decide) (by decide) (by decide) (by decide) (by decide) (by simp only [↓reduceIte, Int.reduceEq, Int.reduceAdd, Int.reduceSub, zs_a])
  by_cases a11 : a = 11
  · subst a11
    exact set_one h1 (v := 7) (j := 29) (lo := 0) (hi := 100) (by unfold PR; omega) (fun _ => rfl) (by decide) (by decide) (by decide) (by decide) (by decide) (by decide) (by simp only [↓reduceIte, Int.reduceEq, Int.reduceAdd, Int.reduceSub, zs_a])
  by_cases a12 : a = 12
  · subst a12
    exact set_one h1 (v := 8) (j := 30) (lo := 0) (hi := 100) (by unfold PR; omega) (fun _ => rfl) (by decide) (by decide) (by decide) (by decide) (by decide) (by decide) (by simp only [↓reduceIte, Int.reduceEq, Int.reduceAdd, Int.reduceSub, zs_a])
  by_cases a13 : a = 13
  · subst a13
    exact set_one h1 (v := 9) (j := 31) (lo := 0) (hi := 100) (by unfold PR; omega) (fun _ => rfl) (by decide) (by decide) (by decide) (by decide) (by decide) (by decide) (by simp only [↓reduceIte, Int.reduceEq, Int.reduceAdd, Int.reduceSub, zs_a])
  by_cases a20 : a = 20
  · subst a20
    exact set_one h1 (v := 10) (j := 1611) (lo := 0) (hi := 100) (by unfold PR; omega) (fun _ => rfl) (by decide) (by decide) (by decide) (by decide) (by decide) (by decide) (by simp only [↓reduceIte, Int.reduceEq, Int.reduceAdd, Int.reduceSub, zs_a])
  by_cases a21 : a = 21
  · subst a21
    exact set_one h1 (v := 11) (j := 1612) (lo := 0) (hi := 200) (by unfold PR; omega) (fun _ => rfl) (by decide) (by decide) (by decide) (by decide) (by decide) (by decide) (by simp only [↓reduceIte, Int.reduceEq, Int.reduceAdd, Int.reduceSub, zs_a])
  by_cases a22 : a = 22
  · subst a22
    exact set_one h1 (v := 12) (j := 1613) (lo := 0) (hi := 100) (by unfold PR; omega) (fun _ => rfl) (by decide) (by decide) (by decide) (by decide) (by decide) (by decide) (by simp only [↓reduceIte, Int.reduceEq, Int.reduceAdd, Int.reduceSub, zs_a])
  -- no such setting
  have n76 : f76_1 a c1 = -1 := by
    unfold f76_1
    repeat' (refine eq_ite _ _ _ _ (fun _ => ?_) (fun _ => ?_))
    all_goals first | rfl | omega
  refine SP.no h1 ?_ ?_
  · unfold f74_1 f75_1
    simp only [zn_a]
    rw [n76, if_pos (show (-1 : Int) = -1 from rfl), if_pos (show (0 : Int) = 0 from rfl)]
  · repeat' (refine eq_ite _ _ _ _ (fun _ => ?_) (fun _ => ?_))
    all_goals first | rfl | (exfalso; omega)
end
section
/-! Seconds off, on both sides. -/
theorem WV.cpt {c c' : Nat → Int → Int} {w : Int → Int} (h : WV c w) (h3 : c' 19 3 = c 19 3) (h4 : c' 19 4 = c 19 4) (h6 : c' 19 6 = c 19 6) (h22 : c' 22 = c 22) (h10 : c' 10 = c 10) : WV c' w :=
  ⟨by rw [h3]; exact h.1, by rw [h4]; exact h.2.1, h.2.2.1.pt h.2.2.2.2 (fun i => by rw [h22]) h6 (fun _ _ => rfl), h.2.2.2.1.pt h10 (fun _ _ => rfl), h.2.2.2.2⟩
/-- a second off -/
noncomputable def oB (m : zM) : zM := f230_1 (z_upd (z_upd m 4 45 15 (w64 (m 4 45 15 + 1))) 4 45 26 (w64 (z_upd m 4 45 15 (w64 (m 4 45 15 + 1)) 4 45 26 + 1)))
noncomputable def oN : Nat → zM → zM
  | 0, r => r
  | n + 1, r => oB (oN n r)
theorem oN_add (r : zM) : ∀ a b : Nat, oN (b + a) r = oN b (oN a r)
  | a, 0 => by rw [Nat.zero_add]; rfl
  | a, b + 1 => by
    show oN (b + 1 + a) r = oB (oN b (oN a r))
    rw [← oN_add r a b, show b + 1 + a = (b + a) + 1 by omega]
    rfl
theorem r282_N {k : zM → Int × zM} {a : Int} : ∀ (n : Nat) (y : Int) (r : zM), y ≤ a → a - y < n → fl282_89_1 k a n y r = k (oN (a - y).toNat r)
  | 0, y, r, h0, h1 => by omega
  | n + 1, y, r, h0, h1 => by
    show fl282_89_1_b (fl282_89_1 k a n) k a y r = _
    unfold fl282_89_1_b
    by_cases h : a ≤ y
    · rw [if_pos h, show (a - y).toNat = 0 by omega]
      rfl
    · rw [if_neg h, zn_a, zs_a, zn_a, zs_a, zs_a, r282_N n (y + 1) _ (by omega) (by omega), show (a - y).toNat = (a - (y + 1)).toNat + 1 by omega, oN_add r 1]
      rfl
/-- what a second off writes ahead of the time -/
theorem oB_up {m : zM} (h15 : 0 ≤ m 4 45 15 ∧ m 4 45 15 ≤ 1000000000) (h26 : 0 ≤ m 4 45 26 ∧ m 4 45 26 ≤ 1000000000) : ∃ m2, oB m = f230_1 m2 ∧ (∀ i, m2 4 45 i = if i = 26 then m 4 45 26 + 1 else if i = 15 then m 4 45 15 + 1 else m 4 45 i) ∧ ∀ g k, (g ≠ 4 ∨ k ≠ 45) → m2 g k = m g k := by
  refine ⟨_, rfl, fun i => ?_, fun g k hk => ?_⟩
  · have e : z_upd m 4 45 15 (w64 (m 4 45 15 + 1)) 4 45 26 = m 4 45 26 := by rw [zu_row, fu_i _ _ (by decide)]
    rw [e, w64_id (x := m 4 45 15 + 1) (by omega), w64_id (x := m 4 45 26 + 1) (by omega), zu_row, zu_row]
    rfl
  · rcases hk with hk | hk
    · rw [zu_g _ _ _ hk, zu_g _ _ _ hk]
    · rw [zu_k _ _ _ hk, zu_k _ _ _ hk]
/-- j seconds off, j of them ahead of a block's end -/
def OQ (j : Int) (r m : zM) : Prop := m 4 45 0 = r 4 45 0 + j ∧ m 4 45 15 = r 4 45 15 + j ∧ m 4 45 26 = r 4 45 26 + j ∧ m 4 45 27 = (if j = 0 then r 4 45 27 else zorN (r 4 45 27) (onV (r 4 45))) ∧ (∀ i, i ≠ 0 → i ≠ 15 → i ≠ 26 → i ≠ 27 → m 4 45 i = r 4 45 i) ∧ ∀ g k, (g ≠ 4 ∨ k ≠ 45) → m g k = r g k
theorem OQ.on {j : Int} {r m : zM} (h : OQ j r m) : onV (m 4 45) = onV (r 4 45) := onV_of (fun i i0 i1 => h.2.2.2.2.1 i (by omega) (by omega) (by omega) (by omega))
theorem OQ.z27 {j : Int} {r m : zM} (h : OQ j r m) : zorN (m 4 45 27) (onV (r 4 45)) = zorN (r 4 45 27) (onV (r 4 45)) := by
  by_cases e : j = 0
  · rw [h.2.2.2.1, if_pos e]
  · rw [h.2.2.2.1, if_neg e]
    unfold zorN
    rw [Int.toNat_natCast, Nat.or_assoc, Nat.or_self]
theorem OQ.r27 {j : Int} {r m : zM} (h : OQ j r m) (hb : b01 (r 4 45)) (h27 : 0 ≤ r 4 45 27 ∧ r 4 45 27 < 32) : 0 ≤ m 4 45 27 ∧ m 4 45 27 < 32 := by
  rw [h.2.2.2.1]
  split
  · exact h27
  · exact zorN_32 h27 (onV_r hb)
theorem OQ.z (r : zM) : OQ 0 r r := ⟨by rw [Int.add_zero], by rw [Int.add_zero], by rw [Int.add_zero], by rw [if_pos rfl], fun _ _ _ _ _ => rfl, fun _ _ _ => rfl⟩
theorem oN_q {r : zM} (hb : b01 (r 4 45)) (h15 : 0 ≤ r 4 45 15 ∧ r 4 45 15 + 3600 ≤ 1000000000) (h26 : 0 ≤ r 4 45 26 ∧ r 4 45 26 + 3600 ≤ 1000000000) (h27 : 0 ≤ r 4 45 27 ∧ r 4 45 27 < 32) : ∀ j : Nat, (j : Int) ≤ 3600 → (∀ i : Nat, i < j → (r 4 45 0 + i + 1) % r 4 45 8 ≠ 0) → r 4 45 0 + j ≤ 2000000000 → OQ j r (oN j r) := by
  intro j
  induction j with
  | zero =>
    intro _ _ _
    exact OQ.z r
  | succ j ih =>
    intro hj hq ht
    have ih := ih (by omega) (fun i hi => hq i (by omega)) (by omega)
    have hon := ih.on
    have hz := ih.z27
    have hr27 := ih.r27 hb h27
    obtain ⟨a0, a15, a26, a27, ai, ag⟩ := ih
    show OQ _ r (oB (oN j r))
    obtain ⟨m, em⟩ : ∃ m, m = oN j r := ⟨_, rfl⟩
    rw [← em] at a0 a15 a26 a27 ai ag hon hz hr27 ⊢
    obtain ⟨m2, e, w2, g2⟩ := oB_up (m := m) (by omega) (by omega)
    have bm : b01 (m2 4 45) := hb.of (fun i i0 i1 => by rw [w2, if_neg (by omega), if_neg (by omega), ai i (by omega) (by omega) (by omega) (by omega)])
    have om : onV (m2 4 45) = onV (r 4 45) := by
      rw [← hon]
      exact onV_of (fun i i0 i1 => by rw [w2, if_neg (by omega), if_neg (by omega)])
    have u0 : m2 4 45 0 = r 4 45 0 + j := by rw [w2, if_neg (by decide), if_neg (by decide), a0]
    have u8 : m2 4 45 8 = r 4 45 8 := by rw [w2, if_neg (by decide), if_neg (by decide), ai 8 (by decide) (by decide) (by decide) (by decide)]
    have u27 : m2 4 45 27 = m 4 45 27 := by rw [w2, if_neg (by decide), if_neg (by decide)]
    rw [e, goes_q (m := m2) bm (by rw [u27]; exact hr27) (by rw [u0]; omega) (by rw [u0, u8]; exact hq j (by omega)), om, u27, hz]
    have ww : ∀ i, z_upd (z_upd m2 4 45 27 (zorN (r 4 45 27) (onV (r 4 45)))) 4 45 0 (m2 4 45 0 + 1) 4 45 i = if i = 0 then m2 4 45 0 + 1 else if i = 27 then zorN (r 4 45 27) (onV (r 4 45)) else m2 4 45 i := fun i => by rw [zu_row, zu_row]; rfl
    refine ⟨?_, ?_, ?_, ?_, fun i i0 i1 i2 i3 => ?_, fun g k hk => ?_⟩
    · rw [ww, if_pos rfl, u0]
      omega
    · rw [ww, if_neg (by decide), if_neg (by decide), w2, if_neg (by decide), if_pos rfl, a15]
      omega
    · rw [ww, if_neg (by decide), if_neg (by decide), w2, if_pos rfl, a26]
      omega
    · rw [ww, if_neg (by decide), if_pos rfl, if_neg (by omega)]
    · rw [ww, if_neg i0, if_neg i3, w2, if_neg i2, if_neg i1, ai i i0 i1 i2 i3]
    · rw [← ag g k hk, ← g2 g k hk]
      rcases hk with hk | hk
      · rw [zu_g _ _ _ hk, zu_g _ _ _ hk]
      · rw [zu_k _ _ _ hk, zu_k _ _ _ hk]
/-- n seconds off, up to a block's end at most -/
theorem chunk_T {c r m3 : zM} {B A Z n : Int} (hr : OM B r) (h3 : OM B m3) (hB : B + 1 ≤ 1000000000) (h : MG A Z (c 0) (r 4 45)) (hA : A ≤ 5000000) (hn : 1 ≤ n ∧ n ≤ 3600) (hq : ∀ i : Nat, (i : Int) < n - 1 → (c 0 8 9 + i + 1) % r 4 45 8 ≠ 0) (hl : c 0 8 9 + n ≤ 2000000000) (h15 : c 0 8 15 + 3600 ≤ 1000000000)
    (e3 : m3 = z_upd (z_upd (f133_1 0 n (c 0 33 3) c) 0 8 15 (w32 (f133_1 0 n (c 0 33 3) c 0 8 15 + n))) 0 8 9 (z_upd (f133_1 0 n (c 0 33 3) c) 0 8 15 (w32 (f133_1 0 n (c 0 33 3) c 0 8 15 + n)) 0 8 9 + n)) :
    MG A Z (f59_1 0 (f27_1 0 (m3 0 8 9 - 1) m3) m3 0) (oN n.toNat r 4 45) ∧ f59_1 0 (f27_1 0 (m3 0 8 9 - 1) m3) m3 0 8 9 = c 0 8 9 + n ∧ f59_1 0 (f27_1 0 (m3 0 8 9 - 1) m3) m3 0 8 15 = c 0 8 15 + n ∧ (∀ k, k ≠ 8 → (k < 27 ∨ 32 < k) → f59_1 0 (f27_1 0 (m3 0 8 9 - 1) m3) m3 0 k = c 0 k) ∧
    (∀ i, (1 ≤ i ∧ i ≤ 14) ∨ (40 ≤ i ∧ i ≤ 787) ∨ (1611 ≤ i ∧ i ≤ 1618) ∨ (1172 ≤ i ∧ i ≤ 1606) → oN n.toNat r 4 45 i = r 4 45 i) ∧ ∀ i, 8 ≤ i → i ≤ 14 → i ≠ 9 → f59_1 0 (f27_1 0 (m3 0 8 9 - 1) m3) m3 0 8 i = c 0 8 i := by
  obtain ⟨hMV, hWV, hCR, hCB, hs, hp⟩ := id h
  have ht := hMV.t
  obtain ⟨n13, n14, n15⟩ := hMV.n
  obtain ⟨b1, b2, b3, b4, b5, b6, b7, b8, b9, b10⟩ := id hCB
  obtain ⟨l1, l2, l3, l4, l5⟩ := hMV.ld
  obtain ⟨lb3, lb4, lb5, lb6, lb7, lb8, lb9, lb10, lb11, lb12, lb13, lb14⟩ := id l5
  have hk := hMV.k
  have on0 := onV_r hk.1
  -- the class
  have f1 : f133_1 0 n (c 0 33 3) c = z_upd (z_upd c 0 27 7 (c 0 27 7 + n)) 0 27 8 (zorN (c 0 27 8) (onV (r 4 45))) := by
    unfold f133_1
    simp only [zn_a, zs_a]
    have e : z_upd c 0 27 7 (w32 (c 0 27 7 + n)) 0 27 8 = c 0 27 8 := by rw [zu_row, fu_i _ _ (by decide)]
    rw [e, hk.2.1, w32_id (x := c 0 27 7 + n) (by omega), zor_eq (by omega) (by omega)]
  have q27 : ∀ i, m3 0 27 i = if i = 8 then zorN (c 0 27 8) (onV (r 4 45)) else if i = 7 then c 0 27 7 + n else c 0 27 i := fun i => by
    rw [e3, zu_k _ _ _ (by decide), zu_k _ _ _ (by decide), f1, zu_row, zu_row]
    rfl
  have q8 : ∀ i, m3 0 8 i = if i = 9 then c 0 8 9 + n else if i = 15 then c 0 8 15 + n else c 0 8 i := fun i => by
    have x8 : ∀ i, f133_1 0 n (c 0 33 3) c 0 8 i = c 0 8 i := fun i => by rw [f1, zu_k _ _ _ (by decide), zu_k _ _ _ (by decide)]
    have x9 : z_upd (f133_1 0 n (c 0 33 3) c) 0 8 15 (w32 (f133_1 0 n (c 0 33 3) c 0 8 15 + n)) 0 8 9 = c 0 8 9 := by rw [zu_row, fu_i _ _ (by decide), x8]
    rw [e3, x9, x8, w32_id (x := c 0 8 15 + n) (by omega), zu_row, zu_row]
    show fu (fu (f133_1 0 n (c 0 33 3) c 0 8) 15 (c 0 8 15 + n)) 9 (c 0 8 9 + n) i = _
    unfold fu
    rw [x8]
  have qk : ∀ k, k ≠ 8 → k ≠ 27 → m3 0 k = c 0 k := fun k k8 k27 => by rw [e3, zu_k _ _ _ k8, zu_k _ _ _ k8, f1, zu_k _ _ _ k27, zu_k _ _ _ k27]
  clear e3 f1
  -- the reference
  obtain ⟨i, hi⟩ : ∃ i : Nat, (i : Int) = n - 1 := ⟨(n - 1).toNat, by omega⟩
  have Q := oN_q (r := r) hk.1 (by omega) (by omega) (by omega) i (by omega) (fun k hk => by rw [ht]; exact hq k (by omega)) (by omega)
  have hon := Q.on
  have hz := Q.z27
  have hr27 := Q.r27 hk.1 ⟨lb13, lb14⟩
  obtain ⟨a0, a15, a26, a27, ai, ag⟩ := Q
  have eN : oN n.toNat r = oB (oN i r) := by
    rw [tn_s hi]
    rfl
  rw [eN]
  obtain ⟨m, em⟩ : ∃ m, m = oN i r := ⟨_, rfl⟩
  rw [← em] at a0 a15 a26 a27 ai ag hon hz hr27 ⊢
  obtain ⟨m2, e, w2, g2⟩ := oB_up (m := m) (by omega) (by omega)
  have bm : b01 (m2 4 45) := hk.1.of (fun i i0 i1 => by rw [w2, if_neg (by omega), if_neg (by omega), ai i (by omega) (by omega) (by omega) (by omega)])
  have om : onV (m2 4 45) = onV (r 4 45) := by
    rw [← hon]
    exact onV_of (fun i i0 i1 => by rw [w2, if_neg (by omega), if_neg (by omega)])
  have u0 : m2 4 45 0 = r 4 45 0 + (n - 1) := by rw [w2, if_neg (by decide), if_neg (by decide), a0, hi]
  have u27 : m2 4 45 27 = m 4 45 27 := by rw [w2, if_neg (by decide), if_neg (by decide)]
  have e27 : zorL (m2 4 45 27) (f231_1 m2) = zorN (r 4 45 27) (onV (r 4 45)) := by
    rw [on_r bm, om, u27, zorL_eq (by omega) (by omega), hz]
  obtain ⟨r5, er5⟩ : ∃ x, x = z_upd (z_upd m2 4 45 27 (zorN (r 4 45 27) (onV (r 4 45)))) 4 45 0 (r 4 45 0 + n) := ⟨_, rfl⟩
  have v5 : ∀ i, r5 4 45 i = if i = 0 then r 4 45 0 + n else if i = 27 then zorN (r 4 45 27) (onV (r 4 45)) else if i = 26 then r 4 45 26 + n else if i = 15 then r 4 45 15 + n else r 4 45 i := fun i' => by
    rw [er5, zu_row, zu_row]
    unfold fu
    by_cases x0 : i' = 0
    · rw [if_pos x0, if_pos x0]
    rw [if_neg x0, if_neg x0]
    by_cases x1 : i' = 27
    · rw [if_pos x1, if_pos x1]
    rw [if_neg x1, if_neg x1, w2]
    by_cases x2 : i' = 26
    · rw [if_pos x2, if_pos x2, a26]
      omega
    rw [if_neg x2, if_neg x2]
    by_cases x3 : i' = 15
    · rw [if_pos x3, if_pos x3, a15]
      omega
    rw [if_neg x3, if_neg x3, ai i' x0 x3 x2 x1]
  have eF : oB m = if r5 4 45 0 % r5 4 45 8 = 0 then f232_1 0 r5 else r5 := by
    rw [e]
    unfold f230_1
    simp only [zn_a, zs_a]
    have y0 : z_upd m2 4 45 27 (zorL (m2 4 45 27) (f231_1 m2)) 4 45 0 = r 4 45 0 + (n - 1) := by rw [zu_row, fu_i _ _ (by decide), u0]
    rw [y0, if_neg (show ¬ r 4 45 0 + (n - 1) = 2000000000 by omega), e27, show r 4 45 0 + (n - 1) + 1 = r 4 45 0 + n by omega, ← er5]
  rw [eF]
  have s5 : ∀ i, i ≠ 0 → i ≠ 27 → i ≠ 26 → i ≠ 15 → r5 4 45 i = r 4 45 i := fun i x0 x1 x2 x3 => by rw [v5, if_neg x0, if_neg x1, if_neg x2, if_neg x3]
  -- both
  have k278 : m3 0 27 8 = zorN (r 4 45 27) (onV (r 4 45)) := by rw [q27, if_pos rfl, lb8]
  have z32 := zorN_32 (x := r 4 45 27) (y := onV (r 4 45)) ⟨lb13, lb14⟩ on0
  have ld5 : LD (m3 0) (r5 4 45) := by
    have w17 : r5 4 45 17 = r 4 45 17 := s5 17 (by decide) (by decide) (by decide) (by decide)
    have q : ∀ i, i ≠ 8 → i ≠ 7 → m3 0 27 i = c 0 27 i := fun i h8 h7 => by rw [q27, if_neg h8, if_neg h7]
    have w26 : r5 4 45 26 = r 4 45 26 + n := by rw [v5, if_neg (by decide), if_neg (by decide), if_pos rfl]
    have w27 : r5 4 45 27 = zorN (r 4 45 27) (onV (r 4 45)) := by rw [v5, if_neg (by decide), if_pos rfl]
    refine ⟨by rw [q 2 (by decide) (by decide), w17]; exact l1, by omega, ⟨fun i i0 i1 k k0 k1 => ?_, fun j j0 j1 k k0 k1 => ?_⟩, fun k k0 k1 => ?_, ?_⟩
    · rw [w17] at i1 ⊢
      rw [qk 28 (by decide) (by decide), s5 _ (by omega) (by omega) (by omega) (by omega)]
      exact l3.1 i i0 i1 k k0 k1
    · rw [w17] at j0
      rw [qk 28 (by decide) (by decide)]
      exact l3.2 j j0 j1 k k0 k1
    · rw [qk 29 (by decide) (by decide), s5 _ (by omega) (by omega) (by omega) (by omega)]
      exact l4 k k0 k1
    · have v7 : m3 0 27 7 = c 0 27 7 + n := by rw [q27, if_neg (by decide), if_pos rfl]
      unfold LB
      rw [q 3 (by decide) (by decide), q 4 (by decide) (by decide), q 5 (by decide) (by decide), q 6 (by decide) (by decide), v7, k278, w26, w27, s5 22 (by decide) (by decide) (by decide) (by decide), s5 23 (by decide) (by decide) (by decide) (by decide), s5 24 (by decide) (by decide) (by decide) (by decide), s5 25 (by decide) (by decide) (by decide) (by decide)]
      omega
  have od5 : OD (m3 0) (r5 4 45) := by
    have k9 : m3 0 27 9 = c 0 27 9 := by rw [q27, if_neg (by decide), if_neg (by decide)]
    unfold OD
    rw [s5 21 (by decide) (by decide) (by decide) (by decide), s5 8 (by decide) (by decide) (by decide) (by decide), k9]
    exact hMV.od
  have dm5 : DM (m3 0) (r5 4 45) := hMV.d.pt (fun k k0 k1 => qk k (by omega) (by omega)) (fun i hi => s5 i (by omega) (by omega) (by omega) (by omega))
  have st5 : ST (m3 0) (r5 4 45) := hWV.2.2.2.1.pt (qk 10 (by decide) (by decide)) (fun i hi => s5 i (by omega) (by omega) (by omega) (by omega))
  have cr5 : CR (m3 0) (r5 4 45) := (hCR.c (by rw [qk 11 (by decide) (by decide)]) (qk 12 (by decide) (by decide)) (qk 13 (by decide) (by decide)) (qk 14 (by decide) (by decide)) (qk 15 (by decide) (by decide)) (qk 16 (by decide) (by decide)) (qk 17 (by decide) (by decide)) (qk 18 (by decide) (by decide))).w (CB.of h3.2 0) (fun i i0 i1 => s5 i (by omega) (by omega) (by omega) (by omega))
  have m38 : m3 0 8 9 = c 0 8 9 + n := by rw [q8, if_pos rfl]
  have r50 : r5 4 45 0 = c 0 8 9 + n := by rw [v5, if_pos rfl, ht]
  have tc := h.1.t
  have t0 := hr.w
  have bt := q27_1 0 (m3 0 8 9 - 1) h3.1 h3.2 (by omega) (by omega) (by omega)
  obtain ⟨y1, y2, y3, y4, y5, y6, y7, y8, y9⟩ := goes_T (c := m3) (r := r5) (g := 0) (B := B) (tar := f27_1 0 (m3 0 8 9 - 1) m3) (by omega) h3 (fun i hi => by rw [s5 i (by omega) (by omega) (by omega) (by omega)]; exact r64_1607 hr hi) (by rw [s5 8 (by decide) (by decide) (by decide) (by decide)]; exact r45_8 hr.2.o 4) (by rw [s5 9 (by decide) (by decide) (by decide) (by decide)]; exact r45_9 hr.2.o 4) (by omega) ld5 od5 dm5 st5 (by rw [m38, r50]) (by
      have w26 : r5 4 45 26 = r 4 45 26 + n := by rw [v5, if_neg (by decide), if_neg (by decide), if_pos rfl]
      have w25 := s5 25 (by decide) (by decide) (by decide) (by decide)
      omega) (by omega) (fun m' hm' => by
        rw [r50, ← m38]
        exact (tf_eq (cr5.w (CB.of h3.2 0) hm') (CB.of h3.2 0) (by omega)).symm) hB
  obtain ⟨R, hR⟩ : ∃ x, x = (if r5 4 45 0 % r5 4 45 8 = 0 then f232_1 0 r5 else r5) := ⟨_, rfl⟩
  rw [← hR] at y1 y2 y3 y5 y6 y7 ⊢
  obtain ⟨C, hC⟩ : ∃ x, x = f59_1 0 (f27_1 0 (m3 0 8 9 - 1) m3) m3 := ⟨_, rfl⟩
  rw [← hC] at y1 y2 y3 y4 y8 y9 ⊢
  have Ck : ∀ k, k ≠ 8 → (k < 27 ∨ 32 < k) → C 0 k = c 0 k := fun k k8 hk => by rw [y4 0 k (.inr hk), qk k k8 (by omega)]
  have C8 : ∀ i, C 0 8 i = m3 0 8 i := fun i => by rw [y4 0 8 (by omega)]
  have C8k : ∀ i, i ≠ 9 → i ≠ 15 → C 0 8 i = c 0 8 i := fun i h9 h15 => by rw [C8, q8, if_neg h9, if_neg h15]
  have C89 : C 0 8 9 = c 0 8 9 + n := by rw [C8, m38]
  have C815 : C 0 8 15 = c 0 8 15 + n := by rw [C8, q8, if_neg (by decide), if_pos rfl]
  have Rw : ∀ i, i ≠ 0 → i ≠ 15 → (i < 17 ∨ 39 < i) → (i < 788 ∨ 1171 < i) → (i < 1607 ∨ 1610 < i) → R 4 45 i = r 4 45 i := fun i i0 i1 i2 i3 i4 => by rw [y5 i i2 i3 i4, s5 i i0 (by omega) (by omega) i1]
  have R28 : ∀ i, 28 ≤ i → i ≤ 31 → R 4 45 i = r 4 45 i := fun i i0 i1 => by rw [y7 i i0 i1, s5 i (by omega) (by omega) (by omega) (by omega)]
  refine ⟨MG.of ?_ ⟨?_, ?_, ?_⟩ (hMV.o.pt (fun i i0 i1 => C8k i (by omega) (by omega)) (fun i i0 i1 => Rw i (by omega) (by omega) (by omega) (by omega) (by omega))) (hMV.r.pt (Ck 24 (by decide) (by decide)) (fun i i0 i1 => Rw i (by omega) (by omega) (by omega) (by omega) (by omega))) (hk.pt (fun k k0 k1 => Ck k (by omega) (by omega)) (fun i i0 i1 => Rw i (by omega) (by omega) (by omega) (by omega) (by omega))) (hMV.l.pt (fun k hk => Ck k (by omega) (by omega)) (fun i hi => Rw i (by omega) (by omega) (by omega) (by omega) (by omega))) y3 y1 y2 ((hWV.pt (fun i hi => ?_)).cpt (by rw [Ck 19 (by decide) (by decide)]) (by rw [Ck 19 (by decide) (by decide)]) (by rw [Ck 19 (by decide) (by decide)]) (Ck 22 (by decide) (by decide)) (Ck 10 (by decide) (by decide))) ((hCR.c (by rw [Ck 11 (by decide) (by decide)]) (Ck 12 (by decide) (by decide)) (Ck 13 (by decide) (by decide)) (Ck 14 (by decide) (by decide)) (Ck 15 (by decide) (by decide)) (Ck 16 (by decide) (by decide)) (Ck 17 (by decide) (by decide)) (Ck 18 (by decide) (by decide))).w ?_ (fun i i0 i1 => Rw i (by omega) (by omega) (by omega) (by omega) (by omega))) ?_ ?_ ?_, C89, C815, Ck, fun i hi => Rw i (by omega) (by omega) (by omega) (by omega) (by omega), fun i i0 i1 i2 => C8k i i2 (by omega)⟩
  · rw [y5 0 (by omega) (by omega) (by omega), r50, C89]
  · rw [Rw 13 (by omega) (by omega) (by omega) (by omega) (by omega), C8k 13 (by decide) (by decide)]
    exact n13
  · rw [Rw 14 (by omega) (by omega) (by omega) (by omega) (by omega), C8k 14 (by decide) (by decide)]
    exact n14
  · rw [y5 15 (by omega) (by omega) (by omega), v5, if_neg (by decide), if_neg (by decide), if_neg (by decide), if_pos rfl, C815, n15]
  · by_cases h28 : 28 ≤ i ∧ i ≤ 31
    · exact R28 i h28.1 h28.2
    · exact Rw i (by omega) (by omega) (by omega) (by omega) (by omega)
  · obtain ⟨j1, j2⟩ := q59_1 0 (f27_1 0 (m3 0 8 9 - 1) m3) h3.1 h3.2 hB (by omega) bt
    rw [hC]
    exact CB.of j2.jb 0
  · have x27 : ∀ i, 3 ≤ i → i ≤ 8 → C 0 27 i = 0 ∨ C 0 27 i = m3 0 27 i := y8
    refine ⟨by rw [C8k 13 (by decide) (by decide)]; exact b1, fun i i0 i1 => by rw [Ck 24 (by decide) (by decide), C8k 13 (by decide) (by decide)]; exact b2 i i0 i1, fun i i0 i1 => ?_, ?_, by rw [C8k 14 (by decide) (by decide), C8k 13 (by decide) (by decide)]; exact b5, fun m m0 m1 => by rw [C8k 13 (by decide) (by decide), Ck 34 (by decide) (by decide), Ck 35 (by decide) (by decide), Ck 36 (by decide) (by decide)]; exact b6 m m0 m1, by rw [C8k 10 (by decide) (by decide), C8k 13 (by decide) (by decide)]; exact b7, ?_, by rw [C815]; omega, ?_⟩
    · rw [C8k 13 (by decide) (by decide)]
      rcases x27 i i0 (by omega) with e | e
      · rw [e]
        omega
      · rw [e, q27, if_neg (by omega), if_neg (by omega)]
        exact b3 i i0 i1
    · rw [C8k 13 (by decide) (by decide)]
      rcases x27 6 (by decide) (by decide) with e | e
      · rw [e]
        omega
      · rw [e, q27, if_neg (by decide), if_neg (by decide)]
        exact b4
    · rw [C815]
      rcases x27 7 (by decide) (by decide) with e | e
      · rw [e]
        omega
      · rw [e, q27, if_neg (by decide), if_pos rfl]
        omega
    · rcases x27 8 (by decide) (by decide) with e | e
      · rw [e]
        omega
      · rw [e, k278]
        exact z32
  · rw [C8k 12 (by decide) (by decide), C8k 11 (by decide) (by decide), C8k 10 (by decide) (by decide)]
    exact hs
  · rw [C8k 11 (by decide) (by decide)]
    exact hp
end
section
/-! The bounds, behind seconds off. -/
theorem CBD.e3 {A Z : Int} {c : Nat → Int → Int} (h : CBD A Z c) (hA : A ≤ 2900000) : (0 ≤ c 27 6 ∧ c 27 6 ≤ 1000000000) ∧ (0 ≤ c 27 7 ∧ c 27 7 ≤ 1000000000) ∧ 0 ≤ c 27 3 ∧ c 27 3 ≤ 49300000000000 := by
  obtain ⟨b1, b2, b3, b4, b5, b6, b7, b8, b9, b10⟩ := h
  have := b3 3 (by omega) (by omega)
  omega
theorem chunk_X {c m3 : zM} {A Z n tar : Int} (hb : CBD A Z (c 0)) (hA : A ≤ 2900000) (hn : 1 ≤ n ∧ n ≤ 3600) (h15 : c 0 8 15 + 3600 ≤ 1000000000) (hw : 0 ≤ c 0 10 5 ∧ c 0 10 5 ≤ 6) (ht : 0 ≤ tar ∧ tar < 4)
    (e3 : m3 = z_upd (z_upd (f133_1 0 n (c 0 33 3) c) 0 8 15 (w32 (f133_1 0 n (c 0 33 3) c 0 8 15 + n))) 0 8 9 (z_upd (f133_1 0 n (c 0 33 3) c) 0 8 15 (w32 (f133_1 0 n (c 0 33 3) c 0 8 15 + n)) 0 8 9 + n)) (hx : XI (c 0)) : XI (f59_1 0 tar m3 0) := by
  obtain ⟨b6, b7, b3⟩ := hb.e3 hA
  have b8 := hb.2.2.2.2.2.2.2.1
  have e27 : ∃ Y, ∀ i, m3 0 27 i = if i = 8 then Y else if i = 7 then c 0 27 7 + n else c 0 27 i := by
    refine ⟨zor (z_upd c 0 27 7 (w32 (c 0 27 7 + n)) 0 27 8) (c 0 33 3), fun i => ?_⟩
    rw [e3, zu_k _ _ _ (by decide), zu_k _ _ _ (by decide)]
    unfold f133_1
    simp only [zn_a, zs_a]
    rw [w32_id (x := c 0 27 7 + n) (by omega), zu_row, zu_row]
    rfl
  have ek : ∀ k, k ≠ 8 → k ≠ 27 → m3 0 k = c 0 k := fun k h8 h27 => by
    rw [e3, zu_k _ _ _ h8, zu_k _ _ _ h8]
    unfold f133_1
    simp only [zn_a, zs_a]
    rw [zu_k _ _ _ h27, zu_k _ _ _ h27]
  obtain ⟨Y, e27⟩ := e27
  obtain ⟨y1, y2, y3⟩ := f59_X (m := m3) (g := 0) (tar := tar) (by rw [e27, if_neg (by decide), if_neg (by decide)]; exact b6) (by rw [e27, if_neg (by decide), if_pos rfl]; omega) (by rw [e27, if_neg (by decide), if_neg (by decide)]; exact b3) (by rw [ek 10 (by decide) (by decide)]; exact hw) ht (hx.1.of (fun i _ _ => by rw [ek 28 (by decide) (by decide)])) (hx.2.1.of (fun i _ _ => by rw [ek 31 (by decide) (by decide)]))
  exact ⟨y1, y2, hx.2.2.of (fun i _ _ => Int.le_of_eq (by rw [y3 24 (.inl (by decide)), ek 24 (by decide) (by decide)])) (fun i _ _ => by rw [y3 25 (.inl (by decide)), ek 25 (by decide) (by decide)]) (fun i _ _ => by rw [y3 26 (.inl (by decide)), ek 26 (by decide) (by decide)])⟩
end
section
/-! The whole of off. -/
def AN (c r : zM) : Prop := K0 (c 0) (r 4 45) ∧ LG (c 0) (r 4 45) ∧ (∀ m, 0 ≤ m → m < 5 → c 0 35 m = r 4 45 (50 + m)) ∧ ∀ m, 0 ≤ m → m < 5 → c 0 36 m = r 4 45 (55 + m)
/-- but for marks and log -/
def NF (c c' r r' : zM) : Prop := (∀ k, (k < 33 ∨ 38 < k) → c' 0 k = c 0 k) ∧ (∀ m, 0 ≤ m → m < 5 → c' 0 34 m = c 0 34 m ∧ c' 0 35 m = c 0 35 m ∧ (c' 0 36 m = c 0 36 m ∨ c' 0 36 m = 0)) ∧ ∀ i, i ≠ 16 → (i < 40 ∨ 59 < i) → (i < 1487 ∨ 1606 < i) → r' 4 45 i = r 4 45 i
theorem NF.trans {c c1 c2 r r1 r2 : zM} (h : NF c c1 r r1) (h' : NF c1 c2 r1 r2) : NF c c2 r r2 := by
  refine ⟨fun k hk => by rw [h'.1 k hk, h.1 k hk], fun m m0 m1 => ?_, fun i i0 i1 i2 => by rw [h'.2.2 i i0 i1 i2, h.2.2 i i0 i1 i2]⟩
  obtain ⟨a1, a2, a3⟩ := h.2.1 m m0 m1
  obtain ⟨b1, b2, b3⟩ := h'.2.1 m m0 m1
  refine ⟨b1.trans a1, b2.trans a2, ?_⟩
  rcases b3 with e | e
  · rw [e]
    exact a3
  · exact .inr e
theorem anew_loop {t a : Int} {k : zM → Int × zM} : ∀ (n n2 : Nat) (y : Int) (c r : zM) (B : Int), OM B r → B + (5 - y) ≤ 1000000000 → 2 ≤ y → y ≤ 5 → 5 - y < n → 5 - y < n2 → AN c r → t = r 4 45 0 → ∃ c' r', fl132_2_1 (fun m => m) 0 0 t n y c = c' ∧ fl282_47_1 k a n2 y r = k r' ∧ AN c' r' ∧ NF c c' r r' ∧ OM (B + (5 - y)) r' := by
  intro n
  induction n with
  | zero =>
    intro n2 y c r B ho hB h0 h1 h2 h3 h4 h5
    omega
  | succ n ih =>
    intro n2 y c r B ho hB h0 h1 h2 h3 h4 h5
    obtain ⟨n2, rfl⟩ : ∃ q, n2 = q + 1 := ⟨n2 - 1, by omega⟩
    show ∃ c' r', fl132_2_1_b (fl132_2_1 (fun m => m) 0 0 t n) (fun m => m) 0 0 t y c = c' ∧ fl282_47_1_b (fl282_47_1 k a n2) k a y r = k r' ∧ AN c' r' ∧ NF c c' r r' ∧ OM (B + (5 - y)) r'
    unfold fl132_2_1_b fl282_47_1_b
    by_cases hy : 5 ≤ y
    · rw [if_pos hy, if_pos hy]
      exact ⟨c, r, rfl, rfl, h4, ⟨fun _ _ => rfl, fun _ _ _ => ⟨rfl, rfl, .inl rfl⟩, fun _ _ _ _ => rfl⟩, ho.up (by omega)⟩
    rw [if_neg hy, if_neg hy]
    simp only [zs_a, zn_a]
    obtain ⟨k0, lg, a5, a6⟩ := h4
    have hb := k0.1
    have cw : ∀ i, z_upd c 0 36 y 0 0 36 i = if i = y then 0 else c 0 36 i := fun i => by rw [zu_row]; rfl
    have ck : ∀ k, k ≠ 36 → z_upd c 0 36 y 0 0 k = c 0 k := fun k hk => zu_k _ _ _ hk
    have rw' : ∀ i, z_upd r 4 45 (55 + y) 0 4 45 i = if i = 55 + y then 0 else r 4 45 i := fun i => by rw [zu_row]; rfl
    have o1 : OM B (z_upd r 4 45 (55 + y) 0) := u45_40 (g := 4) (i := 55 + y) (x := 0) ho (by omega) (by omega)
    obtain ⟨c1, ec1⟩ : ∃ x, x = z_upd c 0 36 y 0 := ⟨_, rfl⟩
    obtain ⟨r1, er1⟩ : ∃ x, x = z_upd r 4 45 (55 + y) 0 := ⟨_, rfl⟩
    rw [← ec1] at cw ck ⊢
    rw [← er1] at rw' o1 ⊢
    have k1 : K0 (c1 0) (r1 4 45) := k0.pt (fun k hk => ck k (by omega)) (fun i i0 i1 => by rw [rw', if_neg (by omega)])
    have l1 : LG (c1 0) (r1 4 45) := lg.pt (fun k hk => ck k (by omega)) (fun i hi => by rw [rw', if_neg (by omega)])
    have x5 : ∀ m, 0 ≤ m → m < 5 → c1 0 35 m = r1 4 45 (50 + m) := fun m m0 m1 => by
      rw [ck 35 (by decide), rw', if_neg (by omega)]
      exact a5 m m0 m1
    have x6 : ∀ m, 0 ≤ m → m < 5 → c1 0 36 m = r1 4 45 (55 + m) := fun m m0 m1 => by
      rw [cw, rw']
      by_cases e : m = y
      · rw [if_pos e, if_pos (by omega)]
      · rw [if_neg e, if_neg (by omega)]
        exact a6 m m0 m1
    have t1 : t = r1 4 45 0 := by
      rw [rw', if_neg (by omega)]
      exact h5
    have f1 : NF c c1 r r1 := ⟨fun k hk => ck k (by omega), fun m m0 m1 => ⟨by rw [ck 34 (by decide)], by rw [ck 35 (by decide)], by
      rw [cw]
      by_cases e : m = y
      · rw [if_pos e]
        exact .inr rfl
      · rw [if_neg e]
        exact .inl rfl⟩, fun i i0 i1 i2 => by rw [rw', if_neg (by omega)]⟩
    have hon : f40_1 0 y c1 = r1 4 45 (40 + y) := isOn_c k1.1 k1.2.1 (by omega) (by omega)
    have hbb := k1.1 y (by omega) (by omega)
    rw [hon]
    by_cases hz : r1 4 45 (40 + y) = 0
    · rw [if_pos hz, if_neg (show ¬ r1 4 45 (40 + y) = 1 by omega)]
      obtain ⟨c', r', e1, e2, e3, e4, e5⟩ := ih n2 (y + 1) c1 r1 B o1 (by omega) (by omega) (by omega) (by omega) (by omega) ⟨k1, l1, x5, x6⟩ t1
      exact ⟨c', r', e1, e2, e3, f1.trans e4, e5.up (by omega)⟩
    · have h1' : r1 4 45 (40 + y) = 1 := by omega
      rw [if_neg hz, if_pos h1']
      obtain ⟨d1, d2, d3, d4, d5, d6⟩ := turn_off (c := c1) (r := r1) (g := 0) (y := y) (t := t) k1 l1 (by omega) (by omega) t1 h1'
      obtain ⟨j1, j2⟩ := q229_1 y o1.1 o1.2 (by omega) (by omega)
      have o2 : OM (B + 1) (f229_1 y r1) := ⟨j1, j2.jb⟩
      obtain ⟨c2, ec2⟩ : ∃ x, x = f57_1 0 0 y 0 t c1 := ⟨_, rfl⟩
      obtain ⟨r2, er2⟩ : ∃ x, x = f229_1 y r1 := ⟨_, rfl⟩
      rw [← ec2] at d1 d2 d4 ⊢
      rw [← er2] at d1 d2 d3 d5 d6 o2 ⊢
      have w2 : ∀ i, i ≠ 40 + y → i ≠ 16 → (i < 1487 ∨ 1606 < i) → r2 4 45 i = r1 4 45 i := fun i i0 i1 i2 => by
        by_cases e : i = 45 + y
        · rw [e, d6]
        · exact d5.1 i i0 e i1 i2
      have f2 : NF c1 c2 r1 r2 := ⟨fun k hk => d4 0 k (.inr (by omega)), fun m m0 m1 => ⟨by rw [d1.2.2 m m0 m1, w2 _ (by omega) (by omega) (by omega), k1.2.2 m m0 m1], by rw [d4 0 35 (by omega)], .inl (by rw [d4 0 36 (by omega)])⟩, fun i i0 i1 i2 => w2 i (by omega) i0 i2⟩
      obtain ⟨c', r', e1, e2, e3, e4, e5⟩ := ih n2 (y + 1) c2 r2 (B + 1) o2 (by omega) (by omega) (by omega) (by omega) (by omega) ⟨d1, d2, fun m m0 m1 => by rw [d4 0 35 (by omega), w2 _ (by omega) (by omega) (by omega)]; exact x5 m m0 m1, fun m m0 m1 => by rw [d4 0 36 (by omega), w2 _ (by omega) (by omega) (by omega)]; exact x6 m m0 m1⟩ (by rw [w2 0 (by omega) (by omega) (by omega)]; exact t1)
      exact ⟨c', r', e1, e2, e3, (f1.trans f2).trans e4, e5.up (by omega)⟩
theorem oB_om {m : zM} {B : Int} (h : OM B m) (hB : B + 1 ≤ 1000000000) : OM (B + 1) (oB m) := by
  have o1 := u45_14 (g := 4) (i := 15) h (by omega) (w64_r (m 4 45 15 + 1))
  have o2 := u45_21 (g := 4) (i := 26) o1 (by omega) (w64_r (z_upd m 4 45 15 (w64 (m 4 45 15 + 1)) 4 45 26 + 1))
  obtain ⟨k1, k2⟩ := q230_1 o2.1 o2.2 hB
  exact ⟨k1, k2.jb⟩
theorem oN_om {m : zM} {B : Int} (h : OM B m) : ∀ n : Nat, B + n ≤ 1000000000 → OM (B + n) (oN n m)
  | 0, _ => h.up (by omega)
  | n + 1, hB => (oB_om (oN_om h n (by omega)) (by omega)).up (by omega)
/-- a block's seconds -/
theorem blk_q {t b n : Int} (hb : b = 60 ∨ b = 300 ∨ b = 900 ∨ b = 1800 ∨ b = 3600) (h0 : 0 ≤ t) (hn : n ≤ b - t % b) (i : Nat) (hi : (i : Int) < n - 1) : (t + i + 1) % b ≠ 0 := by
  rcases hb with rfl | rfl | rfl | rfl | rfl <;> omega
theorem offs_loop {A Z a b : Int} (hA : A ≤ 2900000) : ∀ (n : Nat) (y3 y4 : Int) (c r : zM) (B : Int), OM B c → OM B r → MG A Z (c 0) (r 4 45) → b = r 4 45 8 → 0 ≤ y3 → y3 ≤ 100000 → 0 ≤ y4 → y3 + y4 ≤ a → a - y4 < n → c 0 8 9 + y3 ≤ 2000000000 → B + y3 + 1 ≤ 1000000000 → c 0 8 15 + y3 + 3600 ≤ 1000000000 →
    ∃ c', fl131_43_1 (fun m => m) 0 a b n y3 y4 c = c' ∧ MG A Z (c' 0) (oN y3.toNat r 4 45) ∧ c' 0 8 15 = c 0 8 15 + y3 ∧ (∀ k, k ≠ 8 → (k < 27 ∨ 32 < k) → c' 0 k = c 0 k) ∧ (∀ i, (1 ≤ i ∧ i ≤ 14) ∨ (40 ≤ i ∧ i ≤ 787) ∨ (1611 ≤ i ∧ i ≤ 1618) ∨ (1172 ≤ i ∧ i ≤ 1606) → oN y3.toNat r 4 45 i = r 4 45 i) ∧ (∀ i, 8 ≤ i → i ≤ 14 → i ≠ 9 → c' 0 8 i = c 0 8 i) ∧ (XI (c 0) → XI (c' 0)) := by
  intro n
  induction n with
  | zero =>
    intro y3 y4 c r B hc hr h hb h0 h1 h2 h3 h4
    omega
  | succ n ih =>
    intro y3 y4 c r B hc hr h hb h0 h1 h2 h3 h4 hl hB h15
    show ∃ c', fl131_43_1_b (fl131_43_1 (fun m => m) 0 a b n) (fun m => m) 0 a b y3 y4 c = c' ∧ _
    unfold fl131_43_1_b
    by_cases z : y3 = 0
    · subst z
      refine ⟨c, ?_, h, (Int.add_zero _).symm, fun _ _ _ => rfl, fun _ _ => rfl, fun _ _ _ _ => rfl, fun hx => hx⟩
      split
      · rfl
      · rfl
    rw [if_neg (show ¬ a ≤ y4 by omega), if_neg (show ¬ y3 ≤ 0 by omega), zn_a]
    have b5 : b = 60 ∨ b = 300 ∨ b = 900 ∨ b = 1800 ∨ b = 3600 := by rw [hb]; exact h.2.1.2.2.2.1.2.2.2.2.2.2.2.2.2.2
    have hm := Int.emod_nonneg (c 0 8 9) (show b ≠ 0 by omega)
    have hm2 := Int.emod_lt_of_pos (c 0 8 9) (show 0 < b by omega)
    have t0 := hc.t 0
    obtain ⟨k, hk⟩ : ∃ k, k = min y3 (b - c 0 8 9 % b) := ⟨_, rfl⟩
    rw [← hk]
    obtain ⟨d1, d2⟩ := q133_1 0 k (c 0 33 3) hc.1 hc.2 (by omega) (by omega) (by omega) (hc.i (k := 33) (fj := 3) rfl rfl (zv33 (by omega)) (by omega))
    have o1 : OM B (f133_1 0 k (c 0 33 3) c) := ⟨d1, d2.jb⟩
    have e1 : f133_1 0 k (c 0 33 3) c 0 8 9 = c 0 8 9 := jt d2 0 rfl
    have o2 := u8_15 (g := 0) o1 (w32_r (f133_1 0 k (c 0 33 3) c 0 8 15 + k))
    have e2 : z_upd (f133_1 0 k (c 0 33 3) c) 0 8 15 (w32 (f133_1 0 k (c 0 33 3) c 0 8 15 + k)) 0 8 9 = c 0 8 9 := by rw [zu_row, fu_i _ _ (by decide), e1]
    have o3 := u8_9 (g := 0) (x := z_upd (f133_1 0 k (c 0 33 3) c) 0 8 15 (w32 (f133_1 0 k (c 0 33 3) c 0 8 15 + k)) 0 8 9 + k) o2 (by omega)
    simp only [zs_a, zn_a]
    obtain ⟨m3, em3⟩ : ∃ m3, m3 = z_upd (z_upd (f133_1 0 k (c 0 33 3) c) 0 8 15 (w32 (f133_1 0 k (c 0 33 3) c 0 8 15 + k))) 0 8 9 (z_upd (f133_1 0 k (c 0 33 3) c) 0 8 15 (w32 (f133_1 0 k (c 0 33 3) c 0 8 15 + k)) 0 8 9 + k) := ⟨_, rfl⟩
    rw [← em3] at o3 ⊢
    obtain ⟨g1, g2, g3, g4, g5, g6⟩ := chunk_T (n := k) hr o3 (by omega) h (by omega) (by omega) (fun i hi => by rw [← hb]; exact blk_q b5 t0.1 (by omega) i hi) (by omega) (by omega) em3
    have t3 := o3.t 0
    have m38 : m3 0 8 9 = c 0 8 9 + k := by rw [em3, zu_row, fu_s, e2]
    have bt := q27_1 0 (m3 0 8 9 - 1) o3.1 o3.2 (by omega) (by omega) (by omega)
    obtain ⟨j1, j2⟩ := q59_1 0 (f27_1 0 (m3 0 8 9 - 1) m3) o3.1 o3.2 (by omega) (by omega) bt
    obtain ⟨c4, ec4⟩ : ∃ x, x = f59_1 0 (f27_1 0 (m3 0 8 9 - 1) m3) m3 := ⟨_, rfl⟩
    rw [← ec4] at g1 g2 g3 g4 g6 j1 j2 ⊢
    have oc : OM (B + k) c4 := ⟨j1, j2.jb.up (by omega)⟩
    have or' : OM (B + k) (oN k.toNat r) := by
      have := oN_om hr k.toNat (by omega)
      rw [show ((k.toNat : Nat) : Int) = k by omega] at this
      exact this
    obtain ⟨c', e', x1, x2, x3, x4, x5, x6⟩ := ih (y3 - k) (y4 + 1) c4 (oN k.toNat r) (B + k) oc or' g1 (by rw [g5 8 (by omega)]; exact hb) (by omega) (by omega) (by omega) (by omega) (by omega) (by omega) (by omega) (by omega)
    rw [← oN_add, show (y3 - k).toNat + k.toNat = y3.toNat by omega] at x1 x4
    refine ⟨c', e', x1, by rw [x2, g3]; omega, fun q q8 q27 => by rw [x3 q q8 q27, g4 q q8 q27], fun i hi => by rw [x4 i hi, g5 i hi], fun i i0 i1 i2 => by rw [x5 i i0 i1 i2, g6 i i0 i1 i2], fun hx => x6 (by
      rw [ec4]
      exact chunk_X h.2.2.2.1 hA (by omega) (by omega) (by have := r10_5 hc.2.o 0; omega) (by omega) em3 hx)⟩
theorem off_G {c r : zM} {B A Z a : Int} (hc : OM B c) (hr : OM B r) (hB : B + 100010 ≤ 1000000000) (h : MG A Z (c 0) (r 4 45)) (hA : A ≤ 2900000) (hn : WN (c 0) (r 4 45)) (h15 : c 0 8 15 ≤ 800000000) :
    MG A Z ((f130_1 a c).2 0) ((f282_1 a r).2 4 45) ∧ WN ((f130_1 a c).2 0) ((f282_1 a r).2 4 45) ∧ (f130_1 a c).2 0 8 15 ≤ c 0 8 15 + 100000 ∧ (f130_1 a c).2 0 8 10 = c 0 8 10 ∧ (XI (c 0) → XI ((f130_1 a c).2 0)) := by
  have ht := h.1.t
  unfold f130_1 f282_1
  by_cases c1 : a < 1
  · rw [if_pos c1, if_pos c1]
    exact ⟨h, hn, show c 0 8 15 ≤ c 0 8 15 + 100000 by omega, rfl, fun hx => hx⟩
  rw [if_neg c1, if_neg c1]
  by_cases c2 : a ≤ 100000
  case neg =>
    rw [if_pos (show 100000 < a by omega), if_neg c2]
    exact ⟨h, hn, show c 0 8 15 ≤ c 0 8 15 + 100000 by omega, rfl, fun hx => hx⟩
  rw [if_neg (show ¬ 100000 < a by omega), if_pos c2, ht]
  by_cases c3 : c 0 8 9 + a ≤ 2000000000
  case neg =>
    rw [if_neg c3, if_neg c3]
    exact ⟨h, hn, show c 0 8 15 ≤ c 0 8 15 + 100000 by omega, rfl, fun hx => hx⟩
  rw [if_pos c3, if_pos c3]
  unfold f131_1 f132_1
  simp only [zs_a]
  -- the log
  obtain ⟨hMV, hWV, hCR, hCB, hs, hp⟩ := id h
  have hk := hMV.k
  have k1 := log4_c c 21 a
  obtain ⟨-, -, -, k3, k4⟩ := log_r r 21 a hMV.l.2.1
  have l1 := hMV.l.log4 (b := 21) (x := a) ht.symm
  obtain ⟨j1, j2⟩ := q54_7 0 21 a hc.1 hc.2 (by omega) (by omega) (by omega) (by omega)
  obtain ⟨j3, j4⟩ := q223_1 21 a hr.1 hr.2 (by omega) (by omega) (by omega)
  have o1 : OM (B + 1) (f54_1 0 21 a c) := ⟨j1, j2.jb⟩
  have p1 : OM (B + 1) (f223_1 21 a r) := ⟨j3, j4.jb⟩
  obtain ⟨m1, em1⟩ : ∃ x, x = f54_1 0 21 a c := ⟨_, rfl⟩
  obtain ⟨r1, er1⟩ : ∃ x, x = f223_1 21 a r := ⟨_, rfl⟩
  rw [← em1] at k1 l1 o1 ⊢
  rw [← er1] at k3 k4 l1 p1 ⊢
  have m8 : ∀ i, m1 0 8 i = c 0 8 i := fun i => by rw [k1 0 8 (by omega)]
  have p2 : OM (B + 1) (z_upd r1 4 45 3 0) := u45_3 (g := 4) p1 (by omega)
  have w2 : ∀ i, z_upd r1 4 45 3 0 4 45 i = if i = 3 then 0 else r1 4 45 i := fun i => by rw [zu_row]; rfl
  obtain ⟨r2, er2⟩ : ∃ x, x = z_upd r1 4 45 3 0 := ⟨_, rfl⟩
  rw [← er2] at p2 w2 ⊢
  have v2 : ∀ i, i ≠ 3 → i ≠ 16 → (i < 1487 ∨ 1606 < i) → r2 4 45 i = r 4 45 i := fun i i0 i1 i2 => by rw [w2, if_neg i0, k4 i i1 i2]
  have an : AN m1 r2 := ⟨⟨hk.1.of (fun i i0 i1 => v2 i (by omega) (by omega) (by omega)), by rw [k1 0 33 (by omega), onV_of (fun i i0 i1 => v2 i (by omega) (by omega) (by omega))]; exact hk.2.1, fun m m0 m1 => by rw [k1 0 34 (by omega), v2 _ (by omega) (by omega) (by omega)]; exact hk.2.2.1 m m0 m1⟩, l1.pt (fun _ _ => rfl) (fun i hi => by rw [w2, if_neg (by omega)]), fun m m0 m1 => by rw [k1 0 35 (by omega), v2 _ (by omega) (by omega) (by omega)]; exact hk.2.2.2.1 m m0 m1, fun m m0 m1 => by rw [k1 0 36 (by omega), v2 _ (by omega) (by omega) (by omega)]; exact hk.2.2.2.2 m m0 m1⟩
  obtain ⟨c3', r3, e1, e2, e3, e4, e5⟩ := anew_loop (t := m1 0 8 9) (a := a) (k := fun m516 => fl282_89_1 (fun m520 => ((m520 4 45 0), m520)) a (zfu 100001) 0 m516) (zfu 4) (zfu 4) 2 m1 r2 (B + 1) p2 (by omega) (by omega) (by omega) (by rw [zfu_eq]; omega) (by rw [zfu_eq]; omega) an (by rw [m8, v2 0 (by omega) (by omega) (by omega), ht])
  obtain ⟨x1, x2⟩ := q132_1 0 0 (m1 0 8 9) o1.1 o1.2 (by omega) (by omega) (by omega) (by have := o1.t 0; omega)
  have e1' : f132_1 0 0 (m1 0 8 9) m1 = c3' := e1
  rw [e1'] at x1 x2
  have o3 : OM (B + 5) c3' := ⟨x1, x2.jb.up (by omega)⟩
  rw [e1, e2, r282_N (zfu 100001) 0 r3 (by omega) (by rw [zfu_eq]; omega), show a - 0 = a by omega]
  try dsimp only
  obtain ⟨n1, n2, n3⟩ := e4
  have o4 : OM (B + 5) (z_upd c3' 0 19 5 0) := u19_5 (g := 0) (x := 0) o3 (by omega)
  have zk : ∀ k, k ≠ 19 → z_upd c3' 0 19 5 0 0 k = c3' 0 k := fun k hk => zu_k _ _ _ hk
  have z19 : ∀ i, i ≠ 5 → z_upd c3' 0 19 5 0 0 19 i = c 0 19 i := fun i hi => by rw [zu_row, fu_i _ _ hi, n1 19 (by omega), k1 0 19 (by omega)]
  obtain ⟨m4, em4⟩ : ∃ x, x = z_upd c3' 0 19 5 0 := ⟨_, rfl⟩
  rw [← em4] at o4 zk z19 ⊢
  have ck : ∀ k, k ≠ 19 → (k < 33 ∨ 38 < k) → m4 0 k = c 0 k := fun k h19 hk => by rw [zk k h19, n1 k hk, k1 0 k (by omega)]
  have wr : ∀ i, i ≠ 3 → i ≠ 16 → (i < 40 ∨ 59 < i) → (i < 1487 ∨ 1606 < i) → r3 4 45 i = r 4 45 i := fun i i0 i1 i2 i3 => by rw [n3 i i1 i2 i3, v2 i i0 i1 i3]
  have hG : MG A Z (m4 0) (r3 4 45) := by
    obtain ⟨b1, b2, b3, b4, b5, b6, b7, b8, b9, b10⟩ := hCB
    have hwb := WB.of e5
    refine MG.of ?_ ⟨?_, ?_, ?_⟩ (hMV.o.pt (fun i _ _ => by rw [ck 8 (by omega) (by omega)]) (fun i i0 i1 => wr i (by omega) (by omega) (by omega) (by omega))) (hMV.r.pt (ck 24 (by omega) (by omega)) (fun i i0 i1 => wr i (by omega) (by omega) (by omega) (by omega))) ⟨e3.1.1, by rw [zk 33 (by decide)]; exact e3.1.2.1, fun m m0 m1 => by rw [zk 34 (by decide)]; exact e3.1.2.2 m m0 m1, fun m m0 m1 => by rw [zk 35 (by decide)]; exact e3.2.2.1 m m0 m1, fun m m0 m1 => by rw [zk 36 (by decide)]; exact e3.2.2.2 m m0 m1⟩ (e3.2.1.pt (fun k hk => zk k (by omega)) (fun _ _ => rfl)) (hMV.d.pt (fun k k0 k1 => ck k (by omega) (by omega)) (fun i hi => wr i (by omega) (by omega) (by omega) (by omega))) (hMV.ld.pt (fun i _ _ => by rw [ck 27 (by omega) (by omega)]) (ck 28 (by omega) (by omega)) (ck 29 (by omega) (by omega)) (fun i hi => wr i (by omega) (by omega) (by omega) (by omega))) ?_ ?_ ((hCR.c (by rw [ck 11 (by omega) (by omega)]) (ck 12 (by omega) (by omega)) (ck 13 (by omega) (by omega)) (ck 14 (by omega) (by omega)) (ck 15 (by omega) (by omega)) (ck 16 (by omega) (by omega)) (ck 17 (by omega) (by omega)) (ck 18 (by omega) (by omega))).w (CB.of o4.2 0) (fun i i0 i1 => wr i (by omega) (by omega) (by omega) (by omega))) ⟨?_, ?_, ?_, ?_, ?_, ?_, ?_, ?_, ?_, ?_⟩ ?_ ?_
    · rw [wr 0 (by omega) (by omega) (by omega) (by omega), ck 8 (by omega) (by omega)]
      exact ht
    · rw [wr 13 (by omega) (by omega) (by omega) (by omega), ck 8 (by omega) (by omega)]
      exact hMV.n.1
    · rw [wr 14 (by omega) (by omega) (by omega) (by omega), ck 8 (by omega) (by omega)]
      exact hMV.n.2.1
    · rw [wr 15 (by omega) (by omega) (by omega) (by omega), ck 8 (by omega) (by omega)]
      exact hMV.n.2.2
    · unfold OD
      rw [wr 21 (by omega) (by omega) (by omega) (by omega), wr 8 (by omega) (by omega) (by omega) (by omega), ck 27 (by omega) (by omega)]
      exact hMV.od
    · have h22 : m4 0 22 = c 0 22 := ck 22 (by omega) (by omega)
      exact ⟨by rw [z19 3 (by decide), wr 1 (by omega) (by omega) (by omega) (by omega)]; exact hWV.1, by rw [z19 4 (by decide), wr 2 (by omega) (by omega) (by omega) (by omega)]; exact hWV.2.1, hWV.2.2.1.pt hWV.2.2.2.2 (fun i => by rw [h22]) (z19 6 (by decide)) (fun i hi => wr i (by omega) (by omega) (by omega) (by omega)), hWV.2.2.2.1.pt (ck 10 (by omega) (by omega)) (fun i hi => wr i (by omega) (by omega) (by omega) (by omega)), hwb⟩
    · rw [ck 8 (by omega) (by omega)]
      exact b1
    · rw [ck 8 (by omega) (by omega), ck 24 (by omega) (by omega)]
      exact b2
    · rw [ck 8 (by omega) (by omega), ck 27 (by omega) (by omega)]
      exact b3
    · rw [ck 8 (by omega) (by omega), ck 27 (by omega) (by omega)]
      exact b4
    · rw [ck 8 (by omega) (by omega)]
      exact b5
    · intro m m0 m1'
      obtain ⟨f1, f2, f3⟩ := n2 m m0 m1'
      obtain ⟨g1, g2, g3⟩ := b6 m m0 m1'
      rw [ck 8 (by omega) (by omega), zk 34 (by decide), zk 35 (by decide), zk 36 (by decide), f1, f2, k1 0 34 (by omega), k1 0 35 (by omega)]
      rw [k1 0 36 (by omega)] at f3
      exact ⟨g1, g2, by omega⟩
    · rw [ck 8 (by omega) (by omega)]
      exact b7
    · rw [ck 8 (by omega) (by omega), ck 27 (by omega) (by omega)]
      exact b8
    · rw [ck 8 (by omega) (by omega)]
      exact b9
    · rw [ck 27 (by omega) (by omega)]
      exact b10
    · rw [ck 8 (by omega) (by omega)]
      exact hs
    · rw [ck 8 (by omega) (by omega)]
      exact hp
  have st4 : m4 0 10 4 = r3 4 45 8 := hG.2.1.2.2.2.1.2.2.2.2.1
  have b8' := r45_8 e5.2.o 4
  have c9 : m4 0 8 9 = c 0 8 9 := by rw [ck 8 (by omega) (by omega)]
  have c15 : m4 0 8 15 = c 0 8 15 := by rw [ck 8 (by omega) (by omega)]
  obtain ⟨c', ef, y1, y2, y3, y4, y5, y6⟩ := offs_loop (a := a) (b := max 1 (m4 0 10 4)) hA (zfu 100001) a 0 m4 r3 (B + 5) o4 (e5.up (by omega)) hG (by omega) (by omega) c2 (by omega) (by omega) (by rw [zfu_eq]; omega) (by omega) (by omega) (by omega)
  rw [ef]
  refine ⟨y1, ⟨?_, fun k k0 k1' => ?_⟩, ?_, ?_, fun hx => y6 (hx.rows (fun k k0 k1 _ _ _ => ck k (by omega) (by omega)))⟩
  · have w3 : oN a.toNat r3 4 45 3 = 0 := by rw [y4 3 (by omega), n3 3 (by omega) (by omega) (by omega), w2, if_pos rfl]
    have hwb := WB.of e5
    show oN a.toNat r3 4 45 3 < oN a.toNat r3 4 45 1 * oN a.toNat r3 4 45 2
    rw [w3, y4 1 (by omega), y4 2 (by omega)]
    exact Int.mul_pos (by have := hwb.1; omega) (by have := hwb.2.2.1; omega)
  · exfalso
    have w3 : oN a.toNat r3 4 45 3 = 0 := by rw [y4 3 (by omega), n3 3 (by omega) (by omega) (by omega), w2, if_pos rfl]
    have k1' : k < oN a.toNat r3 4 45 3 := k1'
    omega
  · show c' 0 8 15 ≤ c 0 8 15 + 100000
    rw [y2, c15]
    omega
  · show c' 0 8 10 = c 0 8 10
    rw [y5 10 (by omega) (by omega) (by decide), ck 8 (by omega) (by omega)]
end
section
/-! Bills, on both sides. -/
/-- the place of a bill in the reference's row -/
def bp (e k : Int) : Int := 1172 + 45 * e + k
def BI (c : Nat → Int → Int) (w : Int → Int) : Prop := c 23 3 = w 18 ∧ 0 ≤ w 18 ∧
  (∀ q t, 0 ≤ q → q < 7 → 0 ≤ t → t < 4 → c 25 (q * 4 + t) = if w 18 = 0 then 0 else w (bp (min (w 18) 7 - 1) (1 + (5 * q + t)))) ∧
  (∀ i, 0 ≤ i → i < min (w 18) 6 → c 26 ((w 18 - 1 - i) % 6 * 33 + 32) = w (bp (min (w 18) 7 - 1 - i) 0) ∧ (∀ k, 0 ≤ k → k < 4 → c 26 ((w 18 - 1 - i) % 6 * 33 + (28 + k)) = w (bp (min (w 18) 7 - 1 - i) (36 + k))) ∧
    ∀ q t, 0 ≤ q → q < 7 → 0 ≤ t → t < 4 → c 26 ((w 18 - 1 - i) % 6 * 33 + (q * 4 + t)) = w (bp (min (w 18) 7 - 1 - i) (1 + (5 * q + t))) - if min (w 18) 7 - 1 - i = 0 then 0 else w (bp (min (w 18) 7 - 1 - i - 1) (1 + (5 * q + t)))) ∧
  (∀ e q, 0 ≤ e → e < min (w 18) 7 → 0 ≤ q → q < 7 → w (bp e (1 + (5 * q + 4))) = w (bp e (1 + (5 * q + 0))) + w (bp e (1 + (5 * q + 1))) + w (bp e (1 + (5 * q + 2))) + w (bp e (1 + (5 * q + 3)))) ∧
  ∀ e q t, 0 ≤ e → e < min (w 18) 7 → 0 ≤ q → q < 7 → 0 ≤ t → t < 4 → 0 ≤ w (bp e (1 + (5 * q + t))) ∧ w (bp e (1 + (5 * q + t))) ≤ 100000000000000
theorem BI.pt {c c' : Nat → Int → Int} {w w' : Int → Int} (h : BI c w) (h23 : c' 23 3 = c 23 3) (h25 : ∀ i, 0 ≤ i → i < 28 → c' 25 i = c 25 i) (h26 : ∀ i, 0 ≤ i → i < 198 → c' 26 i = c 26 i) (hw : ∀ i, i = 18 ∨ (1172 ≤ i ∧ i ≤ 1486) → w' i = w i) : BI c' w' := by
  obtain ⟨a1, a2, a3, a4, a5, a6⟩ := h
  have e18 := hw 18 (by omega)
  have eb : ∀ e k, 0 ≤ e → e < 7 → 0 ≤ k → k < 45 → w' (bp e k) = w (bp e k) := fun e k e0 e1 k0 k1 => hw _ (by unfold bp; omega)
  unfold BI
  rw [e18]
  refine ⟨by rw [h23]; exact a1, a2, fun q t q0 q1 t0 t1 => ?_, fun i i0 i1 => ?_, fun e q e0 e1 q0 q1 => ?_, fun e q t e0 e1 q0 q1 t0 t1 => ?_⟩
  · rw [h25 _ (by omega) (by omega), a3 q t q0 q1 t0 t1]
    by_cases z : w 18 = 0
    · rw [if_pos z, if_pos z]
    · rw [if_neg z, if_neg z, eb _ _ (by omega) (by omega) (by omega) (by omega)]
  · obtain ⟨b1, b2, b3⟩ := a4 i i0 i1
    refine ⟨?_, fun k k0 k1 => ?_, fun q t q0 q1 t0 t1 => ?_⟩
    · rw [h26 _ (by omega) (by omega), eb _ _ (by omega) (by omega) (by omega) (by omega)]
      exact b1
    · rw [h26 _ (by omega) (by omega), eb _ _ (by omega) (by omega) (by omega) (by omega)]
      exact b2 k k0 k1
    · rw [h26 _ (by omega) (by omega), eb _ _ (by omega) (by omega) (by omega) (by omega), b3 q t q0 q1 t0 t1]
      by_cases z : min (w 18) 7 - 1 - i = 0
      · rw [if_pos z, if_pos z]
      · rw [if_neg z, if_neg z, eb _ _ (by omega) (by omega) (by omega) (by omega)]
  · rw [eb _ _ (by omega) (by omega) (by omega) (by omega), eb _ _ (by omega) (by omega) (by omega) (by omega), eb _ _ (by omega) (by omega) (by omega) (by omega), eb _ _ (by omega) (by omega) (by omega) (by omega), eb _ _ (by omega) (by omega) (by omega) (by omega)]
    exact a5 e q e0 e1 q0 q1
  · rw [eb _ _ (by omega) (by omega) (by omega) (by omega)]
    exact a6 e q t e0 e1 q0 q1 t0 t1
theorem BI.fe {c c' : Nat → Int → Int} {w w' : Int → Int} (h : BI c w) (h1 : FE 5 c c') (h2 : FW 5 w w') : BI c' w' :=
  h.pt h1.p23_3 (fun i i0 i1 => h1.p25_0 i i0 (by omega)) (fun i i0 i1 => h1.p26_0 i i0 (by omega)) (fun i hi => by
    rcases hi with e | e
    · rw [e]
      exact h2 18 (by omega) (by omega) ja45_18
    · exact h2 i (by omega) (by omega) (ja45_1172 e))
/-- a bill more -/
theorem BI.add {c c' : Nat → Int → Int} {w w' : Int → Int} {v sh t : Int} (h : BI c w) (hv : v = min (w 18) 6) (hsh : sh = if w 18 < 7 then 0 else 1)
    (b24 : ∀ q t, 0 ≤ q → q < 7 → 0 ≤ t → t < 4 → c 24 (q * 4 + t) = w (60 + (5 * q + t)) ∧ 0 ≤ w (60 + (5 * q + t)) ∧ w (60 + (5 * q + t)) ≤ 100000000000000) (b4 : ∀ q, 0 ≤ q → q < 7 → w (60 + (5 * q + 4)) = w (60 + (5 * q + 0)) + w (60 + (5 * q + 1)) + w (60 + (5 * q + 2)) + w (60 + (5 * q + 3))) (b31 : ∀ k, 0 ≤ k → k < 4 → c 31 k = w (32 + k))
    (h23 : c' 23 3 = c 23 3 + 1) (h25 : ∀ i, 0 ≤ i → i < 28 → c' 25 i = c 24 i) (h26a : ∀ i, 0 ≤ i → i < 28 → c' 26 (c 23 3 % 6 * 33 + i) = c 24 i - c 25 i) (h26b : ∀ i, 0 ≤ i → i < 4 → c' 26 (c 23 3 % 6 * 33 + (28 + i)) = c 31 i) (h26c : c' 26 (c 23 3 % 6 * 33 + 32) = t) (h26o : ∀ i, (i < c 23 3 % 6 * 33 ∨ c 23 3 % 6 * 33 + 33 ≤ i) → c' 26 i = c 26 i)
    (w18 : w' 18 = w 18 + 1) (wn0 : w' (bp v 0) = t) (wn1 : ∀ k, 0 ≤ k → k < 35 → w' (bp v (1 + k)) = w (60 + k)) (wn2 : ∀ k, 0 ≤ k → k < 4 → w' (bp v (36 + k)) = w (32 + k)) (wo : ∀ e k, 0 ≤ e → e < v → 0 ≤ k → k < 45 → w' (bp e k) = w (bp (e + sh) k)) : BI c' w' := by
  obtain ⟨a1, a2, a3, a4, a5, a6⟩ := h
  have hsh2 : (w 18 < 7 ∧ sh = 0) ∨ (7 ≤ w 18 ∧ sh = 1) := by
    by_cases z : w 18 < 7
    · rw [if_pos z] at hsh
      exact .inl ⟨z, hsh⟩
    · rw [if_neg z] at hsh
      exact .inr ⟨by omega, hsh⟩
  have ev : min (w 18 + 1) 7 - 1 = v := by omega
  unfold BI
  rw [w18, ev]
  refine ⟨by rw [h23, a1], by omega, fun q t q0 q1 t0 t1 => ?_, fun i i0 i1 => ?_, fun e q e0 e1 q0 q1 => ?_, fun e q t e0 e1 q0 q1 t0 t1 => ?_⟩
  · rw [if_neg (by omega), h25 _ (by omega) (by omega), wn1 _ (by omega) (by omega)]
    exact (b24 q t q0 q1 t0 t1).1
  · by_cases z : i = 0
    · subst z
      rw [show w 18 + 1 - 1 - 0 = c 23 3 by omega, show v - 0 = v by omega]
      refine ⟨by rw [h26c, wn0], fun k k0 k1 => by rw [h26b k k0 k1, wn2 k k0 k1, b31 k k0 k1], fun q t q0 q1 t0 t1 => ?_⟩
      rw [h26a _ (by omega) (by omega), wn1 _ (by omega) (by omega), (b24 q t q0 q1 t0 t1).1, a3 q t q0 q1 t0 t1]
      by_cases y : w 18 = 0
      · rw [if_pos y, if_pos (by omega)]
      · rw [if_neg y, if_neg (by omega), wo (v - 1) _ (by omega) (by omega) (by omega) (by omega)]
        rw [show v - 1 + sh = min (w 18) 7 - 1 by omega]
    · obtain ⟨d1, d2, d3⟩ := a4 (i - 1) (by omega) (by omega)
      have es : w 18 + 1 - 1 - i = w 18 - 1 - (i - 1) := by omega
      have ee : v - i + sh = min (w 18) 7 - 1 - (i - 1) := by omega
      have so : ∀ k, 0 ≤ k → k < 33 → c' 26 ((w 18 - 1 - (i - 1)) % 6 * 33 + k) = c 26 ((w 18 - 1 - (i - 1)) % 6 * 33 + k) := fun k k0 k1 => h26o _ (by omega)
      rw [es]
      refine ⟨?_, fun k k0 k1 => ?_, fun q t q0 q1 t0 t1 => ?_⟩
      · rw [so 32 (by omega) (by omega), wo _ _ (by omega) (by omega) (by omega) (by omega), ee]
        exact d1
      · rw [so _ (by omega) (by omega), wo _ _ (by omega) (by omega) (by omega) (by omega), ee]
        exact d2 k k0 k1
      · rw [so _ (by omega) (by omega), wo (v - i) _ (by omega) (by omega) (by omega) (by omega), ee, d3 q t q0 q1 t0 t1]
        by_cases y : v - i = 0
        · have y2 : min (w 18) 7 - 1 - (i - 1) = 0 := by omega
          rw [if_pos y, if_pos y2]
        · have y2 : ¬ min (w 18) 7 - 1 - (i - 1) = 0 := by omega
          rw [if_neg y, if_neg y2, wo (v - i - 1) _ (by omega) (by omega) (by omega) (by omega), show v - i - 1 + sh = min (w 18) 7 - 1 - (i - 1) - 1 by omega]
  · by_cases z : e = v
    · rw [z, wn1 _ (by omega) (by omega), wn1 _ (by omega) (by omega), wn1 _ (by omega) (by omega), wn1 _ (by omega) (by omega), wn1 _ (by omega) (by omega)]
      exact b4 q q0 q1
    · rw [wo _ _ e0 (by omega) (by omega) (by omega), wo _ _ e0 (by omega) (by omega) (by omega), wo _ _ e0 (by omega) (by omega) (by omega), wo _ _ e0 (by omega) (by omega) (by omega), wo _ _ e0 (by omega) (by omega) (by omega)]
      exact a5 (e + sh) q (by omega) (by omega) q0 q1
  · by_cases z : e = v
    · rw [z, wn1 _ (by omega) (by omega)]
      exact (b24 q t q0 q1 t0 t1).2
    · rw [wo _ _ e0 (by omega) (by omega) (by omega)]
      exact a6 (e + sh) q t (by omega) (by omega) q0 q1 t0 t1
end
section
/-! The call of a bill. -/
theorem loop139 {k : zM → zM} {a p : Int} : ∀ (n : Nat) (y : Int) (m : zM), 0 ≤ y → y ≤ 28 → 28 - y < n → (∀ i, y ≤ i → i < 28 → (0 ≤ m 0 24 i ∧ m 0 24 i ≤ 1000000000000000) ∧ 0 ≤ m 0 25 i ∧ m 0 25 i ≤ 1000000000000000) →
    ∃ m', fl139_14_1 k 0 0 a p n y m = k m' ∧ (∀ i, y ≤ i → i < 28 → m' 0 26 (p + i) = m 0 24 i - m 0 25 i ∧ m' 0 25 i = m 0 24 i) ∧ (∀ i, (i < p + y ∨ p + 28 ≤ i) → m' 0 26 i = m 0 26 i) ∧ (∀ i, (i < y ∨ 28 ≤ i) → m' 0 25 i = m 0 25 i) ∧ ∀ g k, (g ≠ 0 ∨ (k ≠ 25 ∧ k ≠ 26)) → m' g k = m g k
  | 0, y, m, h0, h1, h2, hb => by omega
  | n + 1, y, m, h0, h1, h2, hb => by
    show ∃ m', fl139_14_1_b (fl139_14_1 k 0 0 a p n) k 0 0 a p y m = k m' ∧ _
    unfold fl139_14_1_b
    by_cases h : 28 ≤ y
    · rw [if_pos h]
      exact ⟨m, rfl, fun i i0 i1 => by omega, fun _ _ => rfl, fun _ _ => rfl, fun _ _ _ => rfl⟩
    · obtain ⟨b1, b2⟩ := hb y (Int.le_refl _) (by omega)
      rw [if_neg h, zn_a, w64_id (x := m 0 24 y - m 0 25 y) (by omega), zs_a, zs_a]
      have e24 : z_upd m 0 26 (p + y) (m 0 24 y - m 0 25 y) 0 24 y = m 0 24 y := by rw [zu_k _ _ _ (by decide)]
      rw [e24]
      have w24 : ∀ i, z_upd (z_upd m 0 26 (p + y) (m 0 24 y - m 0 25 y)) 0 25 y (m 0 24 y) 0 24 i = m 0 24 i := fun i => by rw [zu_k _ _ _ (by decide), zu_k _ _ _ (by decide)]
      have w25 : ∀ i, z_upd (z_upd m 0 26 (p + y) (m 0 24 y - m 0 25 y)) 0 25 y (m 0 24 y) 0 25 i = if i = y then m 0 24 y else m 0 25 i := fun i => by rw [zu_row, zu_k _ _ _ (show (25 : Nat) ≠ 26 by decide)]; rfl
      have w26 : ∀ i, z_upd (z_upd m 0 26 (p + y) (m 0 24 y - m 0 25 y)) 0 25 y (m 0 24 y) 0 26 i = if i = p + y then m 0 24 y - m 0 25 y else m 0 26 i := fun i => by rw [zu_k _ _ _ (show (26 : Nat) ≠ 25 by decide), zu_row]; rfl
      have wk : ∀ g k, (g ≠ 0 ∨ (k ≠ 25 ∧ k ≠ 26)) → z_upd (z_upd m 0 26 (p + y) (m 0 24 y - m 0 25 y)) 0 25 y (m 0 24 y) g k = m g k := fun g k hk => by
        rcases hk with hk | hk
        · rw [zu_g _ _ _ hk, zu_g _ _ _ hk]
        · rw [zu_k _ _ _ hk.1, zu_k _ _ _ hk.2]
      obtain ⟨m', e, e1, e2, e3, e4⟩ := loop139 (k := k) (a := a) (p := p) n (y + 1) (z_upd (z_upd m 0 26 (p + y) (m 0 24 y - m 0 25 y)) 0 25 y (m 0 24 y)) (by omega) (by omega) (by omega) (fun i i0 i1 => by
        rw [w24, w25, if_neg (by omega)]
        exact hb i (by omega) i1)
      refine ⟨m', e, fun i i0 i1 => ?_, fun i hi => ?_, fun i hi => ?_, fun g k hk => by rw [e4 g k hk, wk g k hk]⟩
      · by_cases z : i = y
        · rw [z, e2 _ (by omega), w26, if_pos rfl, e3 _ (by omega), w25, if_pos rfl]
          exact ⟨rfl, rfl⟩
        · obtain ⟨x1, x2⟩ := e1 i (by omega) i1
          rw [x1, x2, w24, w25, if_neg z]
          exact ⟨rfl, rfl⟩
      · rw [e2 i (by omega), w26, if_neg (by omega)]
      · rw [e3 i (by omega), w25, if_neg (by omega)]
theorem fill31 : ∀ (n : Nat) (y : Int) (m : zM), 0 ≤ y → y ≤ 4 → 4 - y < n → ∃ m', fl11_6_2 (fun m => m) 0 (-1) 4 n y m = m' ∧ (∀ i, y ≤ i → i < 4 → m' 0 31 i = -1) ∧ ∀ g k, (g ≠ 0 ∨ k ≠ 31) → m' g k = m g k
  | 0, y, m, h0, h1, h2 => by omega
  | n + 1, y, m, h0, h1, h2 => by
    show ∃ m', fl11_6_2_b (fl11_6_2 (fun m => m) 0 (-1) 4 n) (fun m => m) 0 (-1) 4 y m = m' ∧ _
    unfold fl11_6_2_b
    by_cases h : 4 ≤ y
    · rw [if_pos h]
      exact ⟨m, rfl, fun i i0 i1 => by omega, fun _ _ _ => rfl⟩
    · rw [if_neg h, zs_a]
      have key : ∀ (n : Nat) (y : Int) (m : zM), ∀ i, i < y → fl11_6_2 (fun m => m) 0 (-1) 4 n y m 0 31 i = m 0 31 i := by
        intro n
        induction n with
        | zero => exact fun _ _ _ _ => rfl
        | succ n ih =>
          intro y m i hi
          show fl11_6_2_b (fl11_6_2 (fun m => m) 0 (-1) 4 n) (fun m => m) 0 (-1) 4 y m 0 31 i = _
          unfold fl11_6_2_b
          split
          · rfl
          · rw [zs_a, ih (y + 1) _ i (by omega), zu_row, fu_i _ _ (by omega)]
      obtain ⟨m', e, e1, e2⟩ := fill31 n (y + 1) (z_upd m 0 31 y (-1)) (by omega) (by omega) (by omega)
      refine ⟨m', e, fun i i0 i1 => ?_, fun g k hk => ?_⟩
      · by_cases z : i = y
        · have h9 := key n (y + 1) (z_upd m 0 31 y (-1)) i (by omega)
          rw [e] at h9
          rw [h9, z, zu_row, fu_s]
        · exact e1 i (by omega) i1
      · rw [e2 g k hk]
        rcases hk with hk | hk
        · rw [zu_g _ _ _ hk]
        · rw [zu_k _ _ _ hk]
theorem fill32 : ∀ (n : Nat) (y : Int) (m : zM), 0 ≤ y → y ≤ 4 → 4 - y < n → ∃ m', fl5_5_4 (fun m => m) 0 (-1) 4 n y m = m' ∧ (∀ i, y ≤ i → i < 4 → m' 0 32 i = -1) ∧ ∀ g k, (g ≠ 0 ∨ k ≠ 32) → m' g k = m g k
  | 0, y, m, h0, h1, h2 => by omega
  | n + 1, y, m, h0, h1, h2 => by
    show ∃ m', fl5_5_4_b (fl5_5_4 (fun m => m) 0 (-1) 4 n) (fun m => m) 0 (-1) 4 y m = m' ∧ _
    unfold fl5_5_4_b
    by_cases h : 4 ≤ y
    · rw [if_pos h]
      exact ⟨m, rfl, fun i i0 i1 => by omega, fun _ _ _ => rfl⟩
    · rw [if_neg h, zs_a]
      have key : ∀ (n : Nat) (y : Int) (m : zM), ∀ i, i < y → fl5_5_4 (fun m => m) 0 (-1) 4 n y m 0 32 i = m 0 32 i := by
        intro n
        induction n with
        | zero => exact fun _ _ _ _ => rfl
        | succ n ih =>
          intro y m i hi
          show fl5_5_4_b (fl5_5_4 (fun m => m) 0 (-1) 4 n) (fun m => m) 0 (-1) 4 y m 0 32 i = _
          unfold fl5_5_4_b
          split
          · rfl
          · rw [zs_a, ih (y + 1) _ i (by omega), zu_row, fu_i _ _ (by omega)]
      obtain ⟨m', e, e1, e2⟩ := fill32 n (y + 1) (z_upd m 0 32 y (-1)) (by omega) (by omega) (by omega)
      refine ⟨m', e, fun i i0 i1 => ?_, fun g k hk => ?_⟩
      · by_cases z : i = y
        · have h9 := key n (y + 1) (z_upd m 0 32 y (-1)) i (by omega)
          rw [e] at h9
          rw [h9, z, zu_row, fu_s]
        · exact e1 i (by omega) i1
      · rw [e2 g k hk]
        rcases hk with hk | hk
        · rw [zu_g _ _ _ hk]
        · rw [zu_k _ _ _ hk]
/-- the class, ahead of the log -/
theorem bill_c {c : zM} (h3 : 0 ≤ c 0 23 3) (hb : ∀ i, 0 ≤ i → i < 28 → (0 ≤ c 0 24 i ∧ c 0 24 i ≤ 1000000000000000) ∧ 0 ≤ c 0 25 i ∧ c 0 25 i ≤ 1000000000000000) :
    ∃ m', f138_1 0 c = f54_1 0 24 0 m' ∧ m' 0 23 3 = c 0 23 3 + 1 ∧ (∀ i, i ≠ 3 → m' 0 23 i = c 0 23 i) ∧ (∀ i, 0 ≤ i → i < 28 → m' 0 25 i = c 0 24 i) ∧ (∀ i, 0 ≤ i → i < 28 → m' 0 26 (c 0 23 3 % 6 * 33 + i) = c 0 24 i - c 0 25 i) ∧ (∀ i, 0 ≤ i → i < 4 → m' 0 26 (c 0 23 3 % 6 * 33 + (28 + i)) = c 0 31 i) ∧ m' 0 26 (c 0 23 3 % 6 * 33 + 32) = c 0 8 9 ∧ (∀ i, (i < c 0 23 3 % 6 * 33 ∨ c 0 23 3 % 6 * 33 + 33 ≤ i) → m' 0 26 i = c 0 26 i) ∧
      (∀ i, 0 ≤ i → i < 4 → m' 0 31 i = -1) ∧ (∀ i, 0 ≤ i → i < 4 → m' 0 32 i = -1) ∧ ∀ g k, (g ≠ 0 ∨ (k ≠ 23 ∧ k ≠ 25 ∧ k ≠ 26 ∧ k ≠ 31 ∧ k ≠ 32)) → m' g k = c g k := by
  obtain ⟨p, hp⟩ : ∃ p, p = c 0 23 3 % 6 * 33 := ⟨_, rfl⟩
  rw [← hp]
  have p0 : 0 ≤ p := by omega
  unfold f138_1 f139_1 f10_1 f11_2 f5_4
  simp only [zs_a]
  rw [← hp]
  obtain ⟨m1, e1, a1, a2, a3, a4⟩ := loop139 (k := fun m502 => z_upd (z_upd (z_cpy m502 0 26 0 31 0 (p + 28) 4) 0 26 (p + 32) (c 0 8 9)) 0 23 3 (z_upd (z_cpy m502 0 26 0 31 0 (p + 28) 4) 0 26 (p + 32) (c 0 8 9) 0 23 3 + 1)) (a := c 0 8 9) (p := p) (zfu 29) 0 c (by omega) (by omega) (by rw [zfu_eq]; omega) (fun i i0 i1 => hb i i0 i1)
  rw [e1]
  have c23 : z_upd (z_cpy m1 0 26 0 31 0 (p + 28) 4) 0 26 (p + 32) (c 0 8 9) 0 23 3 = c 0 23 3 := by rw [zu_k _ _ _ (by decide), cpy_k _ (.inr (by decide)), a4 0 23 (by omega)]
  try dsimp only
  rw [c23]
  have d26 : ∀ i, z_cpy m1 0 26 0 31 0 (p + 28) 4 0 26 i = if p + 28 ≤ i ∧ i < p + 32 then c 0 31 (i - (p + 28)) else m1 0 26 i := fun i => by
    by_cases z : p + 28 ≤ i ∧ i < p + 32
    · rw [if_pos z, cpy_in _ (by omega), a4 0 31 (by omega)]
      congr 1
      omega
    · rw [if_neg z, cpy_out _ (by omega)]
  obtain ⟨m2, em2⟩ : ∃ x, x = z_upd (z_upd (z_cpy m1 0 26 0 31 0 (p + 28) 4) 0 26 (p + 32) (c 0 8 9)) 0 23 3 (c 0 23 3 + 1) := ⟨_, rfl⟩
  rw [← em2]
  have f26 : ∀ i, m2 0 26 i = if i = p + 32 then c 0 8 9 else if p + 28 ≤ i ∧ i < p + 32 then c 0 31 (i - (p + 28)) else m1 0 26 i := fun i => by
    rw [em2, zu_k _ _ _ (show (26 : Nat) ≠ 23 by decide), zu_row]
    unfold fu
    rw [d26]
  have f23 : ∀ i, m2 0 23 i = if i = 3 then c 0 23 3 + 1 else c 0 23 i := fun i => by
    rw [em2, zu_row]
    unfold fu
    rw [zu_k _ _ _ (show (23 : Nat) ≠ 26 by decide), cpy_k _ (.inr (by decide)), a4 0 23 (by omega)]
  have fk : ∀ g k, (g ≠ 0 ∨ (k ≠ 23 ∧ k ≠ 26)) → m2 g k = m1 g k := fun g k hk => by
    rw [em2]
    rcases hk with hk | hk
    · rw [zu_g _ _ _ hk, zu_g _ _ _ hk, cpy_k _ (.inl hk)]
    · rw [zu_k _ _ _ hk.1, zu_k _ _ _ hk.2, cpy_k _ (.inr hk.2)]
  obtain ⟨m3, e3, b1, b2⟩ := fill31 (zfu 5) 0 m2 (by omega) (by omega) (by rw [zfu_eq]; omega)
  rw [e3]
  obtain ⟨m4, e4, d1, d2⟩ := fill32 (zfu 5) 0 m3 (by omega) (by omega) (by rw [zfu_eq]; omega)
  rw [e4]
  refine ⟨m4, rfl, ?_, fun i hi => ?_, fun i i0 i1 => ?_, fun i i0 i1 => ?_, fun i i0 i1 => ?_, ?_, fun i hi => ?_, fun i i0 i1 => ?_, d1, fun g k hk => ?_⟩
  · rw [d2 0 23 (by omega), b2 0 23 (by omega), f23, if_pos rfl]
  · rw [d2 0 23 (by omega), b2 0 23 (by omega), f23, if_neg hi]
  · rw [d2 0 25 (by omega), b2 0 25 (by omega), fk 0 25 (by omega)]
    exact (a1 i i0 i1).2
  · rw [d2 0 26 (by omega), b2 0 26 (by omega), f26, if_neg (by omega), if_neg (by omega)]
    exact (a1 i i0 i1).1
  · rw [d2 0 26 (by omega), b2 0 26 (by omega), f26, if_neg (by omega), if_pos (by omega)]
    congr 1
    omega
  · rw [d2 0 26 (by omega), b2 0 26 (by omega), f26, if_pos rfl]
  · rw [d2 0 26 (by omega), b2 0 26 (by omega), f26, if_neg (by omega), if_neg (by omega)]
    exact a2 i (by omega)
  · rw [d2 0 31 (by omega)]
    exact b1 i i0 i1
  · rw [d2 g k (by omega), b2 g k (by omega), fk g k (by omega), a4 g k (by omega)]
end
section
/-! A bill in the reference. -/
theorem shl286 {k : zM → Int × zM} : ∀ (n : Nat) (y : Int) (m : zM), 45 ≤ y → y ≤ 315 → 315 - y < n → ∃ m', fl286_17_1 k n y m = k m' ∧ (∀ i, 1127 + y ≤ i → i < 1442 → m' 4 45 i = m 4 45 (i + 45)) ∧ (∀ i, (i < 1127 + y ∨ 1442 ≤ i) → m' 4 45 i = m 4 45 i) ∧ ∀ g k, (g ≠ 4 ∨ k ≠ 45) → m' g k = m g k
  | 0, y, m, h0, h1, h2 => by omega
  | n + 1, y, m, h0, h1, h2 => by
    show ∃ m', fl286_17_1_b (fl286_17_1 k n) k y m = k m' ∧ _
    unfold fl286_17_1_b
    by_cases h : 315 ≤ y
    · rw [if_pos h]
      exact ⟨m, rfl, fun i i0 i1 => by omega, fun _ _ => rfl, fun _ _ _ => rfl⟩
    · rw [if_neg h, zs_a]
      obtain ⟨m', e, e1, e2, e3⟩ := shl286 (k := k) n (y + 1) (z_upd m 4 45 (1172 + y - 45) (m 4 45 (1172 + y))) (by omega) (by omega) (by omega)
      refine ⟨m', e, fun i i0 i1 => ?_, fun i hi => ?_, fun g k hk => ?_⟩
      · by_cases z : i = 1127 + y
        · rw [e2 i (by omega), zu_row, show i = 1172 + y - 45 by omega, fu_s, show 1172 + y - 45 + 45 = 1172 + y by omega]
        · rw [e1 i (by omega) i1, zu_row, fu_i _ _ (by omega)]
      · rw [e2 i (by omega), zu_row, fu_i _ _ (by omega)]
      · rw [e3 g k hk]
        rcases hk with hk | hk
        · rw [zu_g _ _ _ hk]
        · rw [zu_k _ _ _ hk]
theorem regs286 {k : zM → Int × zM} {p : Int} (hp : 1172 ≤ p) : ∀ (n : Nat) (y : Int) (m : zM), 0 ≤ y → y ≤ 35 → 35 - y < n → ∃ m', fl286_104_1 k p n y m = k m' ∧ (∀ i, y ≤ i → i < 35 → m' 4 45 (p + (1 + i)) = m 4 45 (60 + i)) ∧ (∀ i, (i < p + 1 + y ∨ p + 36 ≤ i) → m' 4 45 i = m 4 45 i) ∧ ∀ g k, (g ≠ 4 ∨ k ≠ 45) → m' g k = m g k
  | 0, y, m, h0, h1, h2 => by omega
  | n + 1, y, m, h0, h1, h2 => by
    show ∃ m', fl286_104_1_b (fl286_104_1 k p n) k p y m = k m' ∧ _
    unfold fl286_104_1_b
    by_cases h : 35 ≤ y
    · rw [if_pos h]
      exact ⟨m, rfl, fun i i0 i1 => by omega, fun _ _ => rfl, fun _ _ _ => rfl⟩
    · rw [if_neg h, zs_a]
      obtain ⟨m', e, e1, e2, e3⟩ := regs286 (k := k) hp n (y + 1) (z_upd m 4 45 (p + 1 + y) (m 4 45 (60 + y))) (by omega) (by omega) (by omega)
      refine ⟨m', e, fun i i0 i1 => ?_, fun i hi => ?_, fun g k hk => ?_⟩
      · by_cases z : i = y
        · rw [e2 _ (by omega), zu_row, z, show p + (1 + y) = p + 1 + y by omega, fu_s]
        · rw [e1 i (by omega) i1, zu_row, fu_i _ _ (by omega)]
      · rw [e2 i (by omega), zu_row, fu_i _ _ (by omega)]
      · rw [e3 g k hk]
        rcases hk with hk | hk
        · rw [zu_g _ _ _ hk]
        · rw [zu_k _ _ _ hk]
theorem grt286 {k : zM → Int × zM} {p : Int} (hp : 1172 ≤ p) : ∀ (n : Nat) (y : Int) (m : zM), 0 ≤ y → y ≤ 4 → 4 - y < n → ∃ m', fl286_137_1 k p n y m = k m' ∧ (∀ i, y ≤ i → i < 4 → m' 4 45 (p + (36 + i)) = m 4 45 (32 + i) ∧ m' 4 45 (32 + i) = -1 ∧ m' 4 45 (36 + i) = -1) ∧ (∀ i, (i < 32 + y ∨ (36 ≤ i ∧ i < 36 + y) ∨ 40 ≤ i) → (i < p + 36 + y ∨ p + 40 ≤ i) → m' 4 45 i = m 4 45 i) ∧ ∀ g k, (g ≠ 4 ∨ k ≠ 45) → m' g k = m g k
  | 0, y, m, h0, h1, h2 => by omega
  | n + 1, y, m, h0, h1, h2 => by
    show ∃ m', fl286_137_1_b (fl286_137_1 k p n) k p y m = k m' ∧ _
    unfold fl286_137_1_b
    by_cases h : 4 ≤ y
    · rw [if_pos h]
      exact ⟨m, rfl, fun i i0 i1 => by omega, fun _ _ _ => rfl, fun _ _ _ => rfl⟩
    · rw [if_neg h, zs_a, zs_a, zs_a]
      have ww : ∀ i, z_upd (z_upd (z_upd m 4 45 (p + 36 + y) (m 4 45 (32 + y))) 4 45 (32 + y) (-1)) 4 45 (36 + y) (-1) 4 45 i = if i = 36 + y then -1 else if i = 32 + y then -1 else if i = p + 36 + y then m 4 45 (32 + y) else m 4 45 i := fun i => by rw [zu_row, zu_row, zu_row]; rfl
      have wg : ∀ g k, (g ≠ 4 ∨ k ≠ 45) → z_upd (z_upd (z_upd m 4 45 (p + 36 + y) (m 4 45 (32 + y))) 4 45 (32 + y) (-1)) 4 45 (36 + y) (-1) g k = m g k := fun g k hk => by
        rcases hk with hk | hk
        · rw [zu_g _ _ _ hk, zu_g _ _ _ hk, zu_g _ _ _ hk]
        · rw [zu_k _ _ _ hk, zu_k _ _ _ hk, zu_k _ _ _ hk]
      generalize z_upd (z_upd (z_upd m 4 45 (p + 36 + y) (m 4 45 (32 + y))) 4 45 (32 + y) (-1)) 4 45 (36 + y) (-1) = m1 at ww wg ⊢
      obtain ⟨m', e, e1, e2, e3⟩ := grt286 (k := k) hp n (y + 1) m1 (by omega) (by omega) (by omega)
      refine ⟨m', e, fun i i0 i1 => ?_, fun i hi hi2 => ?_, fun g k hk => by rw [e3 g k hk, wg g k hk]⟩
      · by_cases z : i = y
        · subst z
          rw [e2 (p + (36 + i)) (by omega) (by omega), e2 (32 + i) (by omega) (by omega), e2 (36 + i) (by omega) (by omega), ww (p + (36 + i)), ww (32 + i), ww (36 + i), if_neg (show ¬ p + (36 + i) = 36 + i by omega), if_neg (show ¬ p + (36 + i) = 32 + i by omega), if_pos (show p + (36 + i) = p + 36 + i by omega), if_neg (show ¬ 32 + i = 36 + i by omega), if_pos (show 32 + i = 32 + i from rfl), if_pos (show 36 + i = 36 + i from rfl)]
          exact ⟨rfl, rfl, rfl⟩
        · obtain ⟨x1, x2, x3⟩ := e1 i (by omega) i1
          rw [x1, x2, x3, ww, if_neg (by omega), if_neg (by omega), if_neg (by omega)]
          exact ⟨rfl, rfl, rfl⟩
      · rw [e2 i (by omega) (by omega), ww, if_neg (by omega), if_neg (by omega), if_neg (by omega)]
/-- a bill is written at place v -/
theorem ent286 (m : zM) {p : Int} (hp : 1172 ≤ p ∧ p ≤ 1442) :
    ∃ r', (zs (z_upd m 4 45 18 ((m 4 45 18) + 1)) fun m509 => zs (z_upd m509 4 45 p (m509 4 45 0)) fun m512 => fl286_104_1 (fun m514 => fl286_137_1 (fun m518 => zs (f223_1 24 0 m518) fun m522 => ((m522 4 45 18), m522)) p (zfu 5) 0 m514) p (zfu 36) 0 m512).2 = f223_1 24 0 r' ∧
      r' 4 45 18 = m 4 45 18 + 1 ∧ r' 4 45 p = m 4 45 0 ∧ (∀ k, 0 ≤ k → k < 35 → r' 4 45 (p + (1 + k)) = m 4 45 (60 + k)) ∧ (∀ k, 0 ≤ k → k < 4 → r' 4 45 (p + (36 + k)) = m 4 45 (32 + k) ∧ r' 4 45 (32 + k) = -1 ∧ r' 4 45 (36 + k) = -1) ∧ (∀ i, i ≠ 18 → (i < 32 ∨ 39 < i) → (i < p ∨ p + 40 ≤ i) → r' 4 45 i = m 4 45 i) ∧ ∀ g k, (g ≠ 4 ∨ k ≠ 45) → r' g k = m g k := by
  rw [zs_a, zs_a]
  have w1 : ∀ i, z_upd (z_upd m 4 45 18 (m 4 45 18 + 1)) 4 45 p (z_upd m 4 45 18 (m 4 45 18 + 1) 4 45 0) 4 45 i = if i = p then m 4 45 0 else if i = 18 then m 4 45 18 + 1 else m 4 45 i := fun i => by
    have e : z_upd m 4 45 18 (m 4 45 18 + 1) 4 45 0 = m 4 45 0 := by rw [zu_row, fu_i _ _ (by decide)]
    rw [e, zu_row, zu_row]
    rfl
  have g1 : ∀ g k, (g ≠ 4 ∨ k ≠ 45) → z_upd (z_upd m 4 45 18 (m 4 45 18 + 1)) 4 45 p (z_upd m 4 45 18 (m 4 45 18 + 1) 4 45 0) g k = m g k := fun g k hk => by
    rcases hk with hk | hk
    · rw [zu_g _ _ _ hk, zu_g _ _ _ hk]
    · rw [zu_k _ _ _ hk, zu_k _ _ _ hk]
  generalize z_upd (z_upd m 4 45 18 (m 4 45 18 + 1)) 4 45 p (z_upd m 4 45 18 (m 4 45 18 + 1) 4 45 0) = m1 at w1 g1 ⊢
  obtain ⟨m2, e2, a1, a2, a3⟩ := regs286 (k := fun m514 => fl286_137_1 (fun m518 => zs (f223_1 24 0 m518) fun m522 => ((m522 4 45 18), m522)) p (zfu 5) 0 m514) hp.1 (zfu 36) 0 m1 (by omega) (by omega) (by rw [zfu_eq]; omega)
  rw [e2]
  obtain ⟨m3, e3, b1, b2, b3⟩ := grt286 (k := fun m518 => zs (f223_1 24 0 m518) fun m522 => ((m522 4 45 18), m522)) hp.1 (zfu 5) 0 m2 (by omega) (by omega) (by rw [zfu_eq]; omega)
  rw [e3, zs_a]
  have o2 : ∀ i, (i < p ∨ p + 36 ≤ i) → i ≠ 18 → m2 4 45 i = m 4 45 i := fun i hi h18 => by rw [a2 i (by omega), w1, if_neg (by omega), if_neg h18]
  refine ⟨m3, rfl, ?_, ?_, fun k k0 k1 => ?_, fun k k0 k1 => ?_, fun i h18 h32 hp2 => ?_, fun g k hk => by rw [b3 g k hk, a3 g k hk, g1 g k hk]⟩
  · rw [b2 18 (by omega) (by omega), a2 18 (by omega), w1, if_neg (by omega), if_pos rfl]
  · rw [b2 p (by omega) (by omega), a2 p (by omega), w1, if_pos rfl]
  · rw [b2 _ (by omega) (by omega), a1 k k0 k1, w1, if_neg (by omega), if_neg (by omega)]
  · obtain ⟨x1, x2, x3⟩ := b1 k k0 k1
    rw [x1, x2, x3, o2 _ (by omega) (by omega)]
    exact ⟨rfl, rfl, rfl⟩
  · rw [b2 i (by omega) (by omega), o2 i (by omega) h18]
theorem bill_r {r : zM} (h18 : 0 ≤ r 4 45 18) :
    ∃ r', (f286_1 r).2 = f223_1 24 0 r' ∧ r' 4 45 18 = r 4 45 18 + 1 ∧ r' 4 45 (bp (min (r 4 45 18) 6) 0) = r 4 45 0 ∧ (∀ k, 0 ≤ k → k < 35 → r' 4 45 (bp (min (r 4 45 18) 6) (1 + k)) = r 4 45 (60 + k)) ∧ (∀ k, 0 ≤ k → k < 4 → r' 4 45 (bp (min (r 4 45 18) 6) (36 + k)) = r 4 45 (32 + k) ∧ r' 4 45 (32 + k) = -1 ∧ r' 4 45 (36 + k) = -1) ∧
      (∀ e k, 0 ≤ e → e < min (r 4 45 18) 6 → 0 ≤ k → k < 45 → r' 4 45 (bp e k) = r 4 45 (bp (e + if r 4 45 18 < 7 then 0 else 1) k)) ∧ (∀ i, i ≠ 18 → (i < 32 ∨ 39 < i) → (i < 1172 ∨ 1486 < i) → r' 4 45 i = r 4 45 i) ∧ ∀ g k, (g ≠ 4 ∨ k ≠ 45) → r' g k = r g k := by
  unfold f286_1
  by_cases h : r 4 45 18 < 7
  · rw [if_pos h]
    obtain ⟨r', e, a1, a2, a3, a4, a5, a6⟩ := ent286 r (p := 1172 + 45 * r 4 45 18) (by omega)
    refine ⟨r', e, a1, ?_, fun k k0 k1 => ?_, fun k k0 k1 => ?_, fun ee k e0 e1 k0 k1 => ?_, fun i i0 i1 i2 => a5 i i0 i1 (by omega), a6⟩
    · rw [← a2]
      unfold bp
      congr 1
      omega
    · rw [← a3 k k0 k1]
      unfold bp
      congr 1
      omega
    · rw [← (a4 k k0 k1).1]
      refine ⟨?_, (a4 k k0 k1).2⟩
      unfold bp
      congr 1
      omega
    · rw [if_pos h, Int.add_zero]
      exact a5 _ (by unfold bp; omega) (by unfold bp; omega) (by unfold bp; omega)
  · rw [if_neg h]
    obtain ⟨m1, e1, s1, s2, s3⟩ := shl286 (k := fun m526 =>
      if (m526 4 45 18) < 7 then
      (zs (z_upd m526 4 45 18 ((m526 4 45 18) + 1)) fun m554 =>
      zs (z_upd m554 4 45 (1172 + (45 * (m526 4 45 18))) (m554 4 45 0)) fun m557 =>
      fl286_104_1 (fun m559 =>
      fl286_137_1 (fun m563 =>
      zs (f223_1 24 0 m563) fun m567 =>
      ((m567 4 45 18), m567)) (1172 + (45 * (m526 4 45 18))) (zfu 5) 0 m559) (1172 + (45 * (m526 4 45 18))) (zfu 36) 0 m557)
      else
      (zs (z_upd m526 4 45 18 ((m526 4 45 18) + 1)) fun m534 =>
      zs (z_upd m534 4 45 (1172 + (45 * 6)) (m534 4 45 0)) fun m537 =>
      fl286_104_1 (fun m539 =>
      fl286_137_1 (fun m543 =>
      zs (f223_1 24 0 m543) fun m547 =>
      ((m547 4 45 18), m547)) (1172 + (45 * 6)) (zfu 5) 0 m539) (1172 + (45 * 6)) (zfu 36) 0 m537)) (zfu 271) 45 r (by omega) (by omega) (by rw [zfu_eq]; omega)
    rw [e1]
    have m18 : m1 4 45 18 = r 4 45 18 := s2 18 (by omega)
    rw [if_neg (show ¬ m1 4 45 18 < 7 by omega)]
    obtain ⟨r', e, a1, a2, a3, a4, a5, a6⟩ := ent286 m1 (p := 1172 + 45 * 6) (by omega)
    refine ⟨r', e, by rw [a1, m18], ?_, fun k k0 k1 => ?_, fun k k0 k1 => ?_, fun ee k e0 e1 k0 k1 => ?_, fun i i0 i1 i2 => by rw [a5 i i0 i1 (by omega), s2 i (by omega)], fun g k hk => by rw [a6 g k hk, s3 g k hk]⟩
    · rw [← s2 0 (by omega), ← a2]
      unfold bp
      congr 1
      omega
    · rw [← s2 (60 + k) (by omega), ← a3 k k0 k1]
      unfold bp
      congr 1
      omega
    · rw [← s2 (32 + k) (by omega), ← (a4 k k0 k1).1]
      refine ⟨?_, (a4 k k0 k1).2⟩
      unfold bp
      congr 1
      omega
    · rw [if_neg h, a5 _ (by unfold bp; omega) (by unfold bp; omega) (by unfold bp; omega), s1 _ (by unfold bp; omega) (by unfold bp; omega)]
      unfold bp
      congr 1
      omega
/-- the call of a bill -/
theorem bill_G {c r : zM} {A Z : Int} (h : MG A Z (c 0) (r 4 45)) (hA : A ≤ 5000000) (hI : BI (c 0) (r 4 45)) :
    BI ((f137_1 c).2 0) ((f286_1 r).2 4 45) ∧ DM ((f137_1 c).2 0) ((f286_1 r).2 4 45) ∧ LG ((f137_1 c).2 0) ((f286_1 r).2 4 45) := by
  have ht := h.1.t
  obtain ⟨g1, g2⟩ := h.1.r
  obtain ⟨d1, d2, d3, d4⟩ := h.1.d
  obtain ⟨cb1, cb2, -⟩ := h.2.2.2.1
  obtain ⟨a1, a2, a3, a4, a5, a6⟩ := id hI
  have b24 : ∀ q t, 0 ≤ q → q < 7 → 0 ≤ t → t < 4 → c 0 24 (q * 4 + t) = r 4 45 (60 + (5 * q + t)) ∧ 0 ≤ r 4 45 (60 + (5 * q + t)) ∧ r 4 45 (60 + (5 * q + t)) ≤ 100000000000000 := fun q t q0 q1 t0 t1 => by
    have x := g1 q t q0 q1 t0 t1
    have y := cb2 (q * 4 + t) (by omega) (by omega)
    rw [show 60 + (5 * q + t) = 60 + 5 * q + t by omega]
    omega
  have b25 : ∀ i, 0 ≤ i → i < 28 → (0 ≤ c 0 24 i ∧ c 0 24 i ≤ 1000000000000000) ∧ 0 ≤ c 0 25 i ∧ c 0 25 i ≤ 1000000000000000 := fun i i0 i1 => by
    have x := b24 (i / 4) (i % 4) (by omega) (by omega) (by omega) (by omega)
    have y := a3 (i / 4) (i % 4) (by omega) (by omega) (by omega) (by omega)
    rw [show i / 4 * 4 + i % 4 = i by omega] at x y
    refine ⟨by omega, ?_⟩
    rw [y]
    by_cases z : r 4 45 18 = 0
    · rw [if_pos z]
      omega
    · have w := a6 (min (r 4 45 18) 7 - 1) (i / 4) (i % 4) (by omega) (by omega) (by omega) (by omega) (by omega) (by omega)
      rw [if_neg z]
      omega
  obtain ⟨m', e1, p1, p2, p3, p4, p5, p6, p7, p8, p9, p10⟩ := bill_c (c := c) (by omega) b25
  obtain ⟨r', e2, q1, q2, q3, q4, q5, q6, q7⟩ := bill_r (r := r) (by omega)
  have hbi : BI (m' 0) (r' 4 45) := hI.add (t := c 0 8 9) rfl rfl b24 (fun q q0 q1 => by
    have x := g2 q q0 q1
    rw [show 60 + (5 * q + 4) = 60 + 5 * q + 4 by omega, show 60 + (5 * q + 0) = 60 + 5 * q + 0 by omega, show 60 + (5 * q + 1) = 60 + 5 * q + 1 by omega, show 60 + (5 * q + 2) = 60 + 5 * q + 2 by omega, show 60 + (5 * q + 3) = 60 + 5 * q + 3 by omega]
    exact x) d3 p1 p3 p4 p5 p6 p7 q1 (by rw [q2, ht]) q3 (fun k k0 k1 => (q4 k k0 k1).1) q5
  have hl : LG (m' 0) (r' 4 45) := h.1.l.pt (fun k hk => p10 0 k (by omega)) (fun i hi => q6 i (by omega) (by omega) (by omega))
  have hd : DM (m' 0) (r' 4 45) := by
    have k30 : m' 0 30 = c 0 30 := p10 0 30 (by omega)
    refine ⟨by rw [k30, q6 19 (by omega) (by omega) (by omega)]; exact d1, by rw [k30, q6 20 (by omega) (by omega) (by omega)]; exact d2, fun t t0 t1 => ?_, fun t t0 t1 => ?_⟩
    · rw [p8 t t0 t1, (q4 t t0 t1).2.1]
    · rw [p9 t t0 t1, (q4 t t0 t1).2.2]
  have tt : m' 0 8 9 = r' 4 45 0 := by rw [p10 0 8 (by omega), q6 0 (by omega) (by omega) (by omega), ht]
  have k1 := log4_c m' 24 0
  obtain ⟨-, -, -, -, k4⟩ := log_r r' 24 0 hl.2.1
  have ec : (f137_1 c).2 = f54_1 0 24 0 m' := by
    unfold f137_1
    rw [zs_a, e1]
  rw [ec, e2]
  refine ⟨hbi.pt (by rw [k1 0 23 (by omega)]) (fun i _ _ => by rw [k1 0 25 (by omega)]) (fun i _ _ => by rw [k1 0 26 (by omega)]) (fun i hi => k4 i (by omega) (by omega)), hd.pt (fun k k0 k2 => k1 0 k (by omega)) (fun i hi => k4 i (by omega) (by omega)), hl.log4 tt⟩
end
section
/-! Phases: the wave begins anew. -/
theorem sumN_0 {f : Nat → Int} : ∀ n : Nat, (∀ k, k < n → f k = 0) → sumN f n = 0
  | 0, _ => rfl
  | n + 1, e => by
    show sumN f n + f n = 0
    rw [sumN_0 n (fun k hk => e k (by omega)), e n (by omega)]
    rfl
theorem ws_zero {c : Nat → Int → Int} {w : Int → Int} (h22 : ∀ i, 0 ≤ i → i < 16 → c 22 i = 0) (h6 : c 19 6 = 0) (hw : ∀ i, 95 ≤ i → i ≤ 190 → w i = 0) (hb : WB w) : WS c w := by
  obtain ⟨p0, p1, n0, n1, -, -, -⟩ := hb
  have z1 : ∀ f : Int, 0 ≤ f → f < 3 → AC w f = 0 ∧ RE w f = 0 ∧ SQ w 95 f = 0 ∧ SQ w 143 f = 0 := fun f f0 f1 => by
    refine ⟨sumN_0 _ (fun k hk => ?_), sumN_0 _ (fun k hk => ?_), sumN_0 _ (fun k hk => ?_), sumN_0 _ (fun k hk => ?_)⟩
    · unfold tA
      rw [hw _ (by omega) (by omega), Int.zero_mul]
    · unfold tR
      rw [hw (95 + 16 * f + (k : Int)) (by omega) (by omega), Int.zero_mul]
    · unfold tS
      rw [hw _ (by omega) (by omega), Int.zero_mul]
    · unfold tS
      rw [hw _ (by omega) (by omega), Int.zero_mul]
  have z2 : ∀ i, sumN (TG w i) (w 1).toNat = 0 := fun i => sumN_0 _ (fun k hk => by
    obtain ⟨a1, a2, a3, a4⟩ := z1 (k : Int) (by omega) (by omega)
    unfold TG
    rw [a1, a2, a3, a4]
    repeat' split
    all_goals rfl)
  refine ⟨fun f hf => ?_, ?_, ?_, ?_, ?_, ?_⟩
  · obtain ⟨a1, a2, a3, a4⟩ := z1 (f : Int) (by omega) (by omega)
    rw [a1, a2, a3, a4]
    exact ⟨h22 _ (by omega) (by omega), h22 _ (by omega) (by omega), h22 _ (by omega) (by omega), h22 _ (by omega) (by omega)⟩
  · rw [z2, h22 3 (by omega) (by omega)]
  · rw [z2, h22 7 (by omega) (by omega)]
  · rw [z2, h22 11 (by omega) (by omega)]
  · rw [z2, h22 15 (by omega) (by omega)]
  · rw [h22 3 (by omega) (by omega), h22 7 (by omega) (by omega), h6]
    unfold isRoot
    omega
theorem nul202 {k : zM → Int × zM} : ∀ (n : Nat) (y : Int) (m : zM), 95 ≤ y → y ≤ 191 → 191 - y < n → ∃ m', fl202_67_1 k n y m = k m' ∧ (∀ i, y ≤ i → i ≤ 190 → m' 4 45 i = 0) ∧ (∀ i, (i < y ∨ 190 < i) → m' 4 45 i = m 4 45 i)
  | 0, y, m, h0, h1, h2 => by omega
  | n + 1, y, m, h0, h1, h2 => by
    show ∃ m', fl202_67_1_b (fl202_67_1 k n) k y m = k m' ∧ _
    unfold fl202_67_1_b
    by_cases h : 191 ≤ y
    · rw [if_pos h]
      exact ⟨m, rfl, fun i i0 i1 => by omega, fun _ _ => rfl⟩
    · rw [if_neg h, zs_a]
      obtain ⟨m', e, e1, e2⟩ := nul202 (k := k) n (y + 1) (z_upd m 4 45 y 0) (by omega) (by omega) (by omega)
      refine ⟨m', e, fun i i0 i1 => ?_, fun i hi => ?_⟩
      · by_cases z : i = y
        · rw [e2 i (by omega), z, zu_row, fu_s]
        · exact e1 i (by omega) i1
      · rw [e2 i (by omega), zu_row, fu_i _ _ (by omega)]
theorem f11_k {g : Nat} {a N : Int} : ∀ (n : Nat) (y : Int) (m : zM) (g' k : Nat), (g' ≠ g ∨ k ≠ 22) → fl11_6_1 (fun m => m) g a N n y m g' k = m g' k
  | 0, _, _, _, _, _ => rfl
  | n + 1, y, m, g', k, hk => by
    show fl11_6_1_b (fl11_6_1 (fun m => m) g a N n) (fun m => m) g a N y m g' k = _
    unfold fl11_6_1_b
    by_cases h : N ≤ y
    · rw [if_pos h]
    · rw [if_neg h, zs_a, f11_k n (y + 1) _ g' k hk]
      rcases hk with hk | hk
      · rw [zu_g _ _ _ hk]
      · rw [zu_k _ _ _ hk]
theorem phases_G {c r : zM} {B A Z a b : Int} (ha : I32 a) (hb : I32 b) (hc : OM B c) (hr : OM B r) (hB : B + 1 ≤ 1000000000) (hs : SE B (c 0) (r 4 45)) (h : MG A Z (c 0) (r 4 45)) (hn : WN (c 0) (r 4 45)) :
    MG A Z ((f16_1 a b c).2 0) ((f202_1 a b r).2 4 45) ∧ WN ((f16_1 a b c).2 0) ((f202_1 a b r).2 4 45) := by
  obtain ⟨j1, j2, -⟩ := q202_1 a b hr.1 hr.2 (by omega) ha hb
  have hwb' : WB ((f202_1 a b r).2 4 45) := WB.of (B := B) ⟨j1, j2.jb⟩
  obtain ⟨v, c1, r1, e1, e2, oc, ro, h1, k1, k2⟩ := shut_M hc hr hB hs h
  have n1 : WN (c1 0) (r1 4 45) := by
    have hwb := h.2.1.2.2.2.2
    obtain ⟨p0, p1, q0, q1, -⟩ := hwb
    obtain ⟨x1, x2⟩ := hn
    refine ⟨by rw [k2 1 (by omega), k2 2 (by omega), k2 3 (by omega)]; exact x1, fun k z0 z1 => ?_⟩
    rw [k2 3 (by omega)] at z1
    have m0 : 0 ≤ k % r 4 45 1 := Int.emod_nonneg _ (by omega)
    have m1 : k % r 4 45 1 < r 4 45 1 := Int.emod_lt_of_pos _ (by omega)
    have d0 : 0 ≤ k / r 4 45 1 := Int.ediv_nonneg z0 (by omega)
    rw [Int.mul_comm] at x1
    have d1 : k / r 4 45 1 < r 4 45 2 := Int.ediv_lt_of_lt_mul (by omega) (by omega)
    rw [k1 20 (by decide), k1 21 (by decide), k2 1 (by omega), k2 _ (by omega), k2 _ (by omega)]
    exact x2 k z0 z1
  revert hwb'
  unfold f16_1 f202_1
  rw [e1, e2]
  simp only [zb_a]
  by_cases hv : v = 0
  case neg =>
    rw [if_neg hv, if_neg hv]
    exact fun _ => ⟨h1, n1⟩
  rw [if_pos hv, if_pos hv]
  unfold f18_1
  by_cases a0 : a < 1
  · rw [if_pos a0, if_pos a0]
    exact fun _ => ⟨h1, n1⟩
  rw [if_neg a0, if_neg a0]
  by_cases a1 : a ≤ 3
  case neg =>
    rw [if_pos (show 3 < a by omega), if_neg a1]
    exact fun _ => ⟨h1, n1⟩
  rw [if_neg (show ¬ 3 < a by omega), if_pos a1]
  by_cases b0 : b < 4
  · rw [if_pos b0, if_pos b0]
    exact fun _ => ⟨h1, n1⟩
  rw [if_neg b0, if_neg b0]
  by_cases b1 : b ≤ 16
  case neg =>
    rw [if_pos (show 16 < b by omega), if_neg b1]
    exact fun _ => ⟨h1, n1⟩
  rw [if_neg (show ¬ 16 < b by omega), if_pos b1]
  by_cases b2 : b % 4 = 0
  case neg =>
    rw [if_neg b2, if_neg b2]
    exact fun _ => ⟨h1, n1⟩
  rw [if_pos b2, if_pos b2]
  simp only [zs_a]
  obtain ⟨m4, em4⟩ : ∃ x, x = z_upd (z_upd (z_upd (z_upd c1 0 19 3 a) 0 19 4 b) 0 19 5 0) 0 19 6 0 := ⟨_, rfl⟩
  rw [← em4]
  have x19 : ∀ i, m4 0 19 i = if i = 6 then 0 else if i = 5 then 0 else if i = 4 then b else if i = 3 then a else c1 0 19 i := fun i => by
    rw [em4, zu_row, zu_row, zu_row, zu_row]
    rfl
  have xk : ∀ k, k ≠ 19 → m4 0 k = c1 0 k := fun k hk => by rw [em4, zu_k _ _ _ hk, zu_k _ _ _ hk, zu_k _ _ _ hk, zu_k _ _ _ hk]
  have e11 : f11_1 0 0 m4 = fl11_6_1 (fun m => m) 0 0 16 (zfu 17) 0 m4 := rfl
  obtain ⟨z1, z2⟩ := nul11 (g := 0) (zfu 17) 0 m4 (by omega) (by omega) (by rw [zfu_eq]; omega)
  rw [e11]
  obtain ⟨m5, em5⟩ : ∃ x, x = fl11_6_1 (fun m => m) 0 0 16 (zfu 17) 0 m4 := ⟨_, rfl⟩
  have hw' : ∀ g k i, (g ≠ 0 ∨ k ≠ 22) → m5 g k i = m4 g k i := fun g k i hk => by
    rw [em5]
    rw [f11_k _ _ _ g k hk]
  rw [← em5] at z1 ⊢
  obtain ⟨r4, er4⟩ : ∃ x, x = z_upd (z_upd (z_upd r1 4 45 1 a) 4 45 2 b) 4 45 3 0 := ⟨_, rfl⟩
  rw [← er4]
  have y4 : ∀ i, r4 4 45 i = if i = 3 then 0 else if i = 2 then b else if i = 1 then a else r1 4 45 i := fun i => by
    rw [er4, zu_row, zu_row, zu_row]
    rfl
  obtain ⟨r5, e5, s1, s2⟩ := nul202 (k := fun m526 => ((1 : Int), m526)) (zfu 97) 95 r4 (by omega) (by omega) (by rw [zfu_eq]; omega)
  rw [e5]
  intro hwb'
  have hwb2 : WB (r5 4 45) := hwb'
  have v1 : r5 4 45 1 = a := by rw [s2 1 (by omega), y4, if_neg (by decide), if_neg (by decide), if_pos rfl]
  have v2 : r5 4 45 2 = b := by rw [s2 2 (by omega), y4, if_neg (by decide), if_pos rfl]
  have v3 : r5 4 45 3 = 0 := by rw [s2 3 (by omega), y4, if_pos rfl]
  have u19 : ∀ i, m5 0 19 i = m4 0 19 i := fun i => hw' 0 19 i (by omega)
  refine ⟨h1.wave (CB.of oc.2 0) (fun n n2 _ _ => FE_w (fun k e1 e2 e3 e4 => funext fun i => ?_) n2) (fun n n2 _ _ => FW_w (fun i i0 i1 i2 => ?_) n2) ?_ ?_ (ws_zero z1 ?_ s1 hwb2) hwb2, ?_, fun k k0 k1 => ?_⟩
  · rw [hw' 0 k i (.inr e4), xk k e1]
  · show r5 4 45 i = r1 4 45 i
    rw [s2 i (by omega), y4, if_neg (by omega), if_neg (by omega), if_neg (by omega)]
  · show m5 0 19 3 = r5 4 45 1
    rw [u19, x19, if_neg (by decide), if_neg (by decide), if_neg (by decide), if_pos rfl, v1]
  · show m5 0 19 4 = r5 4 45 2
    rw [u19, x19, if_neg (by decide), if_neg (by decide), if_pos rfl, v2]
  · rw [u19, x19, if_pos rfl]
  · show r5 4 45 3 < r5 4 45 1 * r5 4 45 2
    rw [v1, v2, v3]
    exact Int.mul_pos (by omega) (by omega)
  · exfalso
    have k1 : k < r5 4 45 3 := k1
    omega
end
section
/-! A calendar in effect: prices. -/
theorem WN.pt {c c' : Nat → Int → Int} {w w' : Int → Int} (h : WN c w) (hb : WB w) (h20 : c' 20 = c 20) (h21 : c' 21 = c 21) (e : ∀ i, (1 ≤ i ∧ i ≤ 3) ∨ (191 ≤ i ∧ i ≤ 286) → w' i = w i) : WN c' w' := by
  obtain ⟨p0, p1, q0, q1, -⟩ := hb
  obtain ⟨x1, x2⟩ := h
  refine ⟨by rw [e 1 (by omega), e 2 (by omega), e 3 (by omega)]; exact x1, fun k z0 z1 => ?_⟩
  rw [e 3 (by omega)] at z1
  have m0 : 0 ≤ k % w 1 := Int.emod_nonneg _ (by omega)
  have m1 : k % w 1 < w 1 := Int.emod_lt_of_pos _ (by omega)
  have d0 : 0 ≤ k / w 1 := Int.ediv_nonneg z0 (by omega)
  rw [Int.mul_comm] at x1
  have d1 : k / w 1 < w 2 := Int.ediv_lt_of_lt_mul (by omega) (by omega)
  rw [h20, h21, e 1 (by omega), e _ (by omega), e _ (by omega)]
  exact x2 k z0 z1
theorem calendar_G {c r : zM} {B A Z : Int} (hc : OM B c) (hr : OM B r) (hB : B + 1 ≤ 1000000000) (hs : SE B (c 0) (r 4 45)) (ht : TA c r) (h : MG A Z (c 0) (r 4 45)) (hn : WN (c 0) (r 4 45)) (hI : BI (c 0) (r 4 45)) :
    MG A Z ((f90_1 c).2 0) ((f260_1 r).2 4 45) ∧ WN ((f90_1 c).2 0) ((f260_1 r).2 4 45) ∧ BI ((f90_1 c).2 0) ((f260_1 r).2 4 45) := by
  obtain ⟨-, -, g3, -, -, g6, g7, g8, g9⟩ := calendar_T hc hr hB hs h.2.2.1 ht
  obtain ⟨hMV, ⟨w1, w2, w3, w4, w5⟩, -, hCB, hsh, hp⟩ := id h
  have kk : ∀ k, (k < 10 ∨ 18 < k) → k ≠ 39 → (f90_1 c).2 0 k = c 0 k := fun k h1 h2 => funext fun i => g7 k i h1 h2
  obtain ⟨m1, em1⟩ : ∃ x, x = (f90_1 c).2 := ⟨_, rfl⟩
  obtain ⟨r1, er1⟩ : ∃ x, x = (f260_1 r).2 := ⟨_, rfl⟩
  rw [← em1] at g3 g6 g8 kk ⊢
  rw [← er1] at g3 g6 g9 ⊢
  have ww : ∀ i, 0 ≤ i → i < 1618 → (i < 28 ∨ 31 < i) → (i < 287 ∨ 787 < i) → r1 4 45 i = r 4 45 i := g9
  obtain ⟨a0, a1, a2, a3, a4, a5, a6, a7, a8, a9, a10⟩ := w4
  have st : ST (m1 0) (r1 4 45) := by
    unfold ST
    rw [g8 0 (by omega), g8 1 (by omega), g8 2 (by omega), g8 3 (by omega), g8 4 (by omega), g8 5 (by omega), g8 10 (by omega), g8 11 (by omega), g8 12 (by omega), ww 4 (by omega) (by omega) (by omega) (by omega), ww 5 (by omega) (by omega) (by omega) (by omega), ww 6 (by omega) (by omega) (by omega) (by omega), ww 7 (by omega) (by omega) (by omega) (by omega), ww 8 (by omega) (by omega) (by omega) (by omega), ww 9 (by omega) (by omega) (by omega) (by omega), ww 1611 (by omega) (by omega) (by omega) (by omega), ww 1612 (by omega) (by omega) (by omega) (by omega), ww 1613 (by omega) (by omega) (by omega) (by omega)]
    exact ⟨a0, a1, a2, a3, a4, a5, g6 a6, a7, a8, a9, a10⟩
  have wb : WB (r1 4 45) := w5.pt (fun i hi => ww i (by omega) (by omega) (by omega) (by omega))
  refine ⟨MG.of ?_ ⟨?_, ?_, ?_⟩ (hMV.o.pt (fun i _ _ => by rw [kk 8 (by omega) (by omega)]) (fun i i0 i1 => ww i (by omega) (by omega) (by omega) (by omega))) (hMV.r.pt (kk 24 (by omega) (by omega)) (fun i i0 i1 => ww i (by omega) (by omega) (by omega) (by omega))) (hMV.k.pt (fun k k0 k1 => kk k (by omega) (by omega)) (fun i i0 i1 => ww i (by omega) (by omega) (by omega) (by omega))) (hMV.l.pt (fun k hk => kk k (by omega) (by omega)) (fun i hi => ww i (by omega) (by omega) (by omega) (by omega))) (hMV.d.pt (fun k k0 k1 => kk k (by omega) (by omega)) (fun i hi => ww i (by omega) (by omega) (by omega) (by omega))) (hMV.ld.pt (fun i _ _ => by rw [kk 27 (by omega) (by omega)]) (kk 28 (by omega) (by omega)) (kk 29 (by omega) (by omega)) (fun i hi => ww i (by omega) (by omega) (by omega) (by omega))) ?_ ⟨?_, ?_, w3.pt w5 (fun i => by rw [kk 22 (by omega) (by omega)]) ?_ (fun i hi => ww i (by omega) (by omega) (by omega) (by omega)), st, wb⟩ g3 (hCB.pt (fun k hk => kk k (by omega) (by omega))) ?_ ?_, hn.pt w5 (kk 20 (by omega) (by omega)) (kk 21 (by omega) (by omega)) (fun i hi => ww i (by omega) (by omega) (by omega) (by omega)), hI.pt (by rw [kk 23 (by omega) (by omega)]) (fun i _ _ => by rw [kk 25 (by omega) (by omega)]) (fun i _ _ => by rw [kk 26 (by omega) (by omega)]) (fun i hi => ww i (by omega) (by omega) (by omega) (by omega))⟩
  · rw [ww 0 (by omega) (by omega) (by omega) (by omega), kk 8 (by omega) (by omega)]
    exact hMV.t
  · rw [ww 13 (by omega) (by omega) (by omega) (by omega), kk 8 (by omega) (by omega)]
    exact hMV.n.1
  · rw [ww 14 (by omega) (by omega) (by omega) (by omega), kk 8 (by omega) (by omega)]
    exact hMV.n.2.1
  · rw [ww 15 (by omega) (by omega) (by omega) (by omega), kk 8 (by omega) (by omega)]
    exact hMV.n.2.2
  · unfold OD
    rw [ww 21 (by omega) (by omega) (by omega) (by omega), ww 8 (by omega) (by omega) (by omega) (by omega), kk 27 (by omega) (by omega)]
    exact hMV.od
  · rw [ww 1 (by omega) (by omega) (by omega) (by omega), kk 19 (by omega) (by omega)]
    exact w1
  · rw [ww 2 (by omega) (by omega) (by omega) (by omega), kk 19 (by omega) (by omega)]
    exact w2
  · rw [kk 19 (by omega) (by omega)]
  · rw [kk 8 (by omega) (by omega)]
    exact hsh
  · rw [kk 8 (by omega) (by omega)]
    exact hp
end
section
/-! In thought: would, lasts. -/
theorem grt_loop {c r : zM} {g : Nat} (h : DM (c g) (r 4 45)) : ∀ (n : Nat) (v y : Int), 0 ≤ y → fl180_6_1 (fun y => y) g c n v y = fl304_6_1 (fun y => y) r n v y
  | 0, _, _, _ => rfl
  | n + 1, v, y, h0 => by
    show fl180_6_1_b (fl180_6_1 (fun y => y) g c n) (fun y => y) g c v y = fl304_6_1_b (fl304_6_1 (fun y => y) r n) (fun y => y) r v y
    unfold fl180_6_1_b fl304_6_1_b
    by_cases hy : 4 ≤ y
    · rw [if_pos hy, if_pos hy]
    · have e : max v (c g 31 y) = if r 4 45 (32 + y) ≤ v then v else r 4 45 (32 + y) := by
        rw [h.2.2.1 y h0 (by omega)]
        split <;> omega
      rw [if_neg hy, if_neg hy, zn_a, ← e]
      exact grt_loop h n _ (y + 1) (by omega)
theorem grt_eq {c r : zM} {g : Nat} (h : DM (c g) (r 4 45)) : f180_1 g c = f304_1 r := grt_loop h (zfu 5) (-1) 0 (by omega)
/-- a copy to think in -/
theorem MG.cp {c r r' : zM} {A Z B : Int} (hc : OM B c) (h : MG A Z (c 0) (r 4 45)) (hr : r' 4 45 = r 4 45) : MG A Z (f171_1 2 0 c 2) (r' 4 45) :=
  h.fe (CB.of hc.2 0) (fun n _ _ => copy_FE (by decide) c n) (fun n _ _ => by rw [hr]; exact FW.rf n _)
theorem cp_om {c : zM} {B : Int} (h : OM B c) (hB : B + 4 ≤ 1000000000) : OM (B + 4) (f171_1 2 0 c) := by
  obtain ⟨k1, k2⟩ := q171_1 2 0 h.1 h.2 hB (by omega) (by omega)
  exact ⟨k1, k2.jb⟩
theorem would_A {c r : zM} {B A Z a b : Int} (hc : OM B c) (hr : OM B r) (hB : B + 90000 ≤ 1000000000) (hA : A ≤ 2880000) (hZ : Z ≤ 900000000) (h : MG A Z (c 0) (r 4 45)) : (f170_1 a b c).1 = (f302_1 a b r).1 := by
  unfold f170_1 f302_1
  by_cases a0 : a < 1
  · rw [if_pos a0, if_pos a0]
  rw [if_neg a0, if_neg a0]
  by_cases a1 : a ≤ 900
  case neg => rw [if_pos (show 900 < a by omega), if_neg a1]
  rw [if_neg (show ¬ 900 < a by omega), if_pos a1]
  by_cases b0 : b < 0
  · rw [if_pos b0, if_pos b0]
  rw [if_neg b0, if_neg b0]
  by_cases b1 : b ≤ 6
  case neg => rw [if_neg b1, if_neg b1]
  rw [if_pos b1, if_pos b1, zs_a, zs_a, zs_a]
  have r45 : z_cpy r 4 46 4 45 0 0 1619 4 45 = r 4 45 := cpy_k _ (.inr (by decide))
  have o1 := cp_om hc (by omega)
  have o2 : OM (B + 4) (z_cpy r 4 46 4 45 0 0 1619) := hr.aside.up (by omega)
  obtain ⟨c1, ec1⟩ : ∃ x, x = f171_1 2 0 c := ⟨_, rfl⟩
  have h1 : MG A Z (c1 2) (z_cpy r 4 46 4 45 0 0 1619 4 45) := by rw [ec1]; exact MG.cp hc h r45
  rw [← ec1] at o1 ⊢
  obtain ⟨c2, e2, m1, -, -, -⟩ := times_G (g := 2) (by omega) h1 o1 o2 (by omega) hA hZ (a := a) (by omega)
  rw [e2, r302_N (zfu 901) 0 _ (by omega) (by rw [zfu_eq]; omega), show a - 0 = a by omega]
  obtain ⟨k1, -, -⟩ := fN_keep o2 a.toNat (by omega)
  obtain ⟨R, eR⟩ : ∃ x, x = fN a.toNat (z_cpy r 4 46 4 45 0 0 1619) := ⟨_, rfl⟩
  rw [← eR] at m1 k1 ⊢
  have hu := r45_5 k1.2.o 4
  have q0 := reads_T (q := 0) m1 (by omega) hu (by omega)
  have q1 := reads_T (q := 1) m1 (by omega) hu (by omega)
  obtain ⟨d10, -, d12⟩ := m1.1.o
  have hk := m1.1.k
  have v12 : c2 2 8 12 = 0 ∨ c2 2 8 12 = 1 := by
    rw [m1.2.2.2.2.1]
    unfold shO
    repeat' split
    all_goals omega
  try dsimp only
  rw [show (zn (f303_1 b R) fun v524 => zs (z_cpy R 4 45 4 46 0 0 1619) fun m525 => (v524, m525)) = (f303_1 b R, z_cpy R 4 45 4 46 0 0 1619) by rw [zn_a, zs_a]]
  try dsimp only
  unfold f303_1
  by_cases x0 : b = 0
  · rw [if_pos x0, if_pos x0, zn_a]
    exact q0
  rw [if_neg x0, if_neg x0]
  by_cases x1 : b = 1
  · rw [if_pos x1, if_pos x1, zn_a]
    exact q1
  rw [if_neg x1, if_neg x1]
  by_cases x2 : b = 2
  · rw [if_pos x2, if_pos x2]
    exact d10.symm
  rw [if_neg x2, if_neg x2]
  by_cases x3 : b = 3
  · rw [if_pos x3, if_pos x3, zn_a]
    exact grt_eq m1.1.d
  rw [if_neg x3, if_neg x3]
  by_cases x4 : b = 4
  · rw [if_pos x4, if_pos x4, zn_a, on_r hk.1]
    exact hk.2.1
  rw [if_neg x4, if_neg x4]
  by_cases x5 : b = 5
  · rw [if_pos x5, if_pos x5, zn_a, d12]
    show (if c2 2 8 12 = 0 then (0 : Int) else 1) = c2 2 8 12
    split <;> omega
  rw [if_neg x5, if_neg x5]
  exact m1.1.t.symm
theorem skip309 {k : Int → zM → Int × zM} : ∀ (v n2 : Nat) (y : Int) (r : zM), (∀ i : Nat, i < v → fN i r 4 45 12 = 0) → y + v ≤ 3600 → fl309_13_1 k (n2 + v) y r = fl309_13_1 k n2 (y + v) (fN v r)
  | 0, n2, y, r, _, _ => by
    rw [show y + ((0 : Nat) : Int) = y by omega]
    rfl
  | v + 1, n2, y, r, h, hy => by
    show fl309_13_1_b (fl309_13_1 k (n2 + v)) k y r = _
    unfold fl309_13_1_b
    have h0 : r 4 45 12 = 0 := h 0 (by omega)
    rw [if_neg (show ¬ 3600 ≤ y by omega), if_pos h0, zs_a, skip309 v n2 (y + 1) (f208_1 r) (fun i hi => by
      have := h (i + 1) (by omega)
      rw [fN_add r 1 i] at this
      exact this) (by omega), fN_add r 1 v, show y + 1 + (v : Int) = y + ((v + 1 : Nat) : Int) by omega]
    rfl
theorem lasts_loop {g : Nat} (hg : g < 3) {Z : Int} (hZ : Z ≤ 900000000) {k309 : Int → zM → Int × zM} : ∀ (n n2 : Nat) (y2 y3 : Int) (c r : zM) (B A : Int), MG A Z (c g) (r 4 45) → c g 8 12 = 0 → OM B c → OM B r → 0 ≤ y2 → y2 ≤ 3600 → 0 ≤ y3 → y3 ≤ y2 → 3600 - y3 < n → 3600 - y2 < n2 → B + 11 * (3600 - y2) + 40000 ≤ 1000000000 → A + (3600 - y2) ≤ 2890000 →
    ∃ v c' T m', fl185_4_1 (fun y501 y502 m503 => (y501, m503)) (fun m507 => ((-1), m507)) g 3600 n y2 y3 c = (v, c') ∧ fl309_13_1 k309 n2 y2 r = k309 T m' ∧ ((v = -1 ∧ m' 4 45 12 = 0) ∨ (v = T ∧ m' 4 45 12 = 1 ∧ c g 8 11 ≠ 0)) := by
  intro n
  induction n with
  | zero =>
    intro n2 y2 y3 c r B A h h12 hc hr h0 h1 h2 h3 h4
    omega
  | succ n ih =>
    intro n2 y2 y3 c r B A h h12 hc hr h0 h1 h2 h3 h4 h5 hB hA
    show ∃ v c' T m', fl185_4_1_b (fl185_4_1 (fun y501 y502 m503 => (y501, m503)) (fun m507 => ((-1), m507)) g 3600 n) (fun y501 y502 m503 => (y501, m503)) (fun m507 => ((-1), m507)) g 3600 y2 y3 c = (v, c') ∧ _
    unfold fl185_4_1_b
    have w12 : r 4 45 12 = 0 := by rw [h.1.o.2.2, h12]
    by_cases hy : 3600 ≤ y2
    · obtain ⟨n2, rfl⟩ : ∃ q, n2 = q + 1 := ⟨n2 - 1, by omega⟩
      refine ⟨-1, c, y2, r, ?_, ?_, .inl ⟨rfl, w12⟩⟩
      · by_cases hy3 : 3600 ≤ y3
        · rw [if_pos hy3]
        · rw [if_neg hy3, if_pos hy]
      · show fl309_13_1_b (fl309_13_1 k309 n2) k309 y2 r = _
        unfold fl309_13_1_b
        rw [if_pos hy]
    rw [if_neg (show ¬ 3600 ≤ y3 by omega), if_neg hy]
    obtain ⟨v, c1, e, v0, v1, m1, m2, m3, m4, m5, m6⟩ := stretch_G hg h hc hr (by omega) (by omega) hZ (a := 3600 - y2) (by omega)
    obtain ⟨k1, -, -⟩ := fN_keep hr v.toNat (by omega)
    rw [e, zb_a]
    obtain ⟨n2', en⟩ : ∃ q, n2 = q + v.toNat := ⟨n2 - v.toNat, by omega⟩
    subst en
    have hs := skip309 (k := k309) v.toNat n2' y2 r (fun i hi => by rw [m6 i (by omega), h12]) (by omega)
    rw [hs, show y2 + ((v.toNat : Nat) : Int) = y2 + v by omega]
    try dsimp only
    by_cases c12 : c1 g 8 12 = 0
    · rw [if_pos c12]
      obtain ⟨u, c', T, m', x1, x2, x3⟩ := ih n2' (y2 + v) (y3 + 1) c1 (fN v.toNat r) (B + 11 * v) (A + v) m1 c12 (m3.up (by omega)) (k1.up (by omega)) (by omega) (by omega) (by omega) (by omega) (by omega) (by omega) (by omega) (by omega)
      refine ⟨u, c', T, m', x1, x2, ?_⟩
      rw [m2.1] at x3
      exact x3
    · rw [if_neg c12]
      have d12 : c1 g 8 12 = shO (c1 g 8 11) (c1 g 8 10) := m1.2.2.2.2.1
      have w1 : fN v.toNat r 4 45 12 = c1 g 8 12 := m1.1.o.2.2
      have p11 : c1 g 8 11 = 1 ∧ c1 g 8 12 = 1 := by
        unfold shO at d12
        by_cases z : c1 g 8 11 = 1
        · rw [if_pos z] at d12
          refine ⟨z, ?_⟩
          by_cases z2 : c1 g 8 10 ≤ 0
          · rw [if_pos z2] at d12
            exact d12
          · rw [if_neg z2] at d12
            exact absurd d12 c12
        · rw [if_neg z] at d12
          exact absurd d12 c12
      refine ⟨y2 + v, c1, y2 + v, fN v.toNat r, rfl, ?_, .inr ⟨rfl, by rw [w1]; exact p11.2, by rw [← m2.1]; omega⟩⟩
      obtain ⟨n3, rfl⟩ : ∃ q, n2' = q + 1 := ⟨n2' - 1, by omega⟩
      show fl309_13_1_b (fl309_13_1 k309 n3) k309 (y2 + v) (fN v.toNat r) = _
      unfold fl309_13_1_b
      by_cases z : 3600 ≤ y2 + v
      · rw [if_pos z]
      · rw [if_neg z, if_neg (show ¬ fN v.toNat r 4 45 12 = 0 by omega)]
theorem lasts_A {c r : zM} {B A Z : Int} (hc : OM B c) (hr : OM B r) (hB : B + 90000 ≤ 1000000000) (hA : A ≤ 2880000) (hZ : Z ≤ 900000000) (h : MG A Z (c 0) (r 4 45)) : (f184_1 c).1 = (f309_1 r).1 := by
  have r45 : z_cpy r 4 46 4 45 0 0 1619 4 45 = r 4 45 := cpy_k _ (.inr (by decide))
  have o2 : OM (B + 4) (z_cpy r 4 46 4 45 0 0 1619) := hr.aside.up (by omega)
  have w12 : r 4 45 12 = c 0 8 12 := h.1.o.2.2
  unfold f184_1 f309_1
  show _ = (fl309_13_1 _ (zfu 3601) 0 (z_cpy r 4 46 4 45 0 0 1619)).1
  obtain ⟨R, eR⟩ : ∃ x, x = z_cpy r 4 46 4 45 0 0 1619 := ⟨_, rfl⟩
  rw [← eR] at r45 o2 ⊢
  by_cases c12 : c 0 8 12 = 0
  case neg =>
    have v12 : c 0 8 12 = 1 := by
      have := h.2.2.2.2.1
      unfold shO at this
      by_cases z : c 0 8 11 = 1
      · rw [if_pos z] at this
        by_cases z2 : c 0 8 10 ≤ 0
        · rw [if_pos z2] at this
          exact this
        · rw [if_neg z2] at this
          exact absurd this c12
      · rw [if_neg z] at this
        exact absurd this c12
    rw [if_neg c12]
    obtain ⟨q, hq⟩ : ∃ q, zfu 3601 = q + 1 := ⟨3600, zfu_eq _⟩
    rw [hq]
    show _ = (fl309_13_1_b (fl309_13_1 _ q) _ 0 R).1
    unfold fl309_13_1_b
    rw [if_neg (show ¬ (3600 : Int) ≤ 0 by omega), if_neg (show ¬ R 4 45 12 = 0 by rw [r45, w12]; omega)]
    try dsimp only
    rw [zn_a, zs_a, zn_a]
    try dsimp only
    rw [r45, w12, if_pos v12]
    rfl
  rw [if_pos c12]
  by_cases c11 : c 0 8 11 = 0
  · rw [if_pos c11]
    obtain ⟨v, c', T, m', x1, x2, x3⟩ := lasts_loop (g := 0) (by omega) hZ (k309 := fun y504 m505 => zn (if (m505 4 45 12) = 1 then (1) else (0)) fun v512 => zs (z_cpy m505 4 45 4 46 0 0 1619) fun m517 => zn (if v512 = 0 then ((-1)) else (y504)) fun v521 => (v521, m517)) (zfu 3601) (zfu 3601) 0 0 c R (B + 4) A (by rw [r45]; exact h) c12 (hc.up (by omega)) o2 (by omega) (by omega) (by omega) (by omega) (by rw [zfu_eq]; omega) (by rw [zfu_eq]; omega) (by omega) (by omega)
    rw [x2, zn_a, zs_a, zn_a]
    rcases x3 with ⟨-, x4⟩ | ⟨-, -, x5⟩
    · rw [x4]
      rfl
    · exact absurd c11 x5
  rw [if_neg c11, zs_a]
  have o1 := cp_om hc (by omega)
  obtain ⟨c1, ec1⟩ : ∃ x, x = f171_1 2 0 c := ⟨_, rfl⟩
  have h1 : MG A Z (c1 2) (R 4 45) := by rw [ec1]; exact MG.cp hc h r45
  have k12 : c1 2 8 12 = 0 := by rw [← h1.1.o.2.2, r45, w12, c12]
  rw [← ec1] at o1 ⊢
  obtain ⟨v, c', T, m', x1, x2, x3⟩ := lasts_loop (g := 2) (by omega) hZ (k309 := fun y504 m505 => zn (if (m505 4 45 12) = 1 then (1) else (0)) fun v512 => zs (z_cpy m505 4 45 4 46 0 0 1619) fun m517 => zn (if v512 = 0 then ((-1)) else (y504)) fun v521 => (v521, m517)) (zfu 3601) (zfu 3601) 0 0 c1 R (B + 4) A h1 k12 o1 o2 (by omega) (by omega) (by omega) (by omega) (by rw [zfu_eq]; omega) (by rw [zfu_eq]; omega) (by omega) (by omega)
  have e185 : f185_1 2 3600 c1 = (v, c') := x1
  rw [x2, e185, zb_a, zn_a, zs_a, zn_a]
  try dsimp only
  rcases x3 with ⟨x4, x5⟩ | ⟨x4, x5, -⟩
  · rw [x4, x5]
    rfl
  · rw [x4, x5]
    rfl
end
section
/-! The bounds, behind each call of the class. -/
theorem end_X {c : zM} {A Z t blk told : Int} (hb : CBD A Z (c 0)) (hA : A ≤ 2900000) (h : XI (c 0)) : XI (f60_1 0 t blk told c 0) ∧ ∀ k, k < 27 ∨ 29 < k → f60_1 0 t blk told c 0 k = c 0 k := by
  obtain ⟨e6, e7, e3⟩ := hb.e3 hA
  obtain ⟨l1, l2⟩ := end_LN (t := t) (blk := blk) (told := told) e6 e7 e3 h.1
  exact ⟨⟨l1, h.2.1.of (fun t _ _ => by rw [l2 31 (.inr (by decide))]), h.2.2.of (fun i _ _ => Int.le_of_eq (by rw [l2 24 (.inl (by decide))])) (fun i _ _ => by rw [l2 25 (.inl (by decide))]) (fun i _ _ => by rw [l2 26 (.inl (by decide))])⟩, l2⟩
theorem f77_k {g : Nat} {a b : Int} {m : zM} : ∀ k, k ≠ 10 → f77_1 g a b m g k = m g k := fun k hk => by
  unfold f77_1
  simp only [zn_a, zs_a]
  split
  · rfl
  · rw [zu_k _ _ _ hk]
theorem f17_k {g : Nat} {m : zM} : ∀ k, k ≠ 39 → (f17_1 g m).2 g k = m g k := fun k hk => by
  unfold f17_1
  simp only [zn_a, zs_a]
  split
  · rfl
  · rw [zu_k _ _ _ hk]
theorem CBD.k39 {A Z : Int} {c c' : Nat → Int → Int} (h : CBD A Z c) (e : ∀ k, k ≠ 39 → c' k = c k) : CBD A Z c' := h.pt (fun k hk => e k (by omega))
theorem f74_X {c : zM} {A Z a b : Int} (hb : CBD A Z (c 0)) (hA : A ≤ 2900000) (h : XI (c 0)) : XI ((f74_1 0 a b c).2 0) := by
  have h77 : ∀ m : zM, XI (m 0) → XI (f77_1 0 a b m 0) := fun m hm => hm.rows (fun k k0 k1 _ _ _ => f77_k k (by omega))
  unfold f74_1
  simp only [zn_a, zs_a]
  by_cases e0 : f75_1 0 a b c = 0
  · rw [if_pos e0]
    exact h
  rw [if_neg e0]
  by_cases e1 : a = 1
  · rw [if_pos e1]
    by_cases e2 : c 0 8 13 ≤ 0
    · rw [if_pos e2]
      exact h77 c h
    · rw [if_neg e2]
      exact h
  rw [if_neg e1]
  by_cases e4 : a = 4
  · rw [if_pos e4]
    exact h77 _ (end_X hb hA h).1
  · rw [if_neg e4]
    exact h77 c h
theorem set_X {c : zM} {A Z a b : Int} (hb : CBD A Z (c 0)) (hA : A ≤ 2900000) (h : XI (c 0)) : XI ((f73_1 a b c).2 0) := by
  have e := f17_k (g := 0) (m := c)
  have h1 : XI ((f17_1 0 c).2 0) := h.rows (fun k k0 k1 _ _ _ => e k (by omega))
  unfold f73_1
  rw [zb_a]
  try dsimp only
  by_cases x : (f17_1 0 c).1 = 0
  · rw [if_pos x, zb_a]
    exact f74_X (hb.k39 e) hA h1
  · rw [if_neg x]
    exact h1
theorem f54_k {g : Nat} {a b : Int} {m : zM} : ∀ k, k ≠ 37 → k ≠ 38 → f54_1 g a b m g k = m g k := fun k h1 h2 => by
  unfold f54_1
  rw [zs_a]
  exact (log_c m g (m g 8 9) a b).2.2.1 g k (.inr ⟨h1, h2⟩)
theorem move_X {c : zM} {A Z a : Int} (hb : CBD A Z (c 0)) (hA : A ≤ 2900000) (h : XI (c 0)) : XI ((f127_1 a c).2 0) := by
  have e := f17_k (g := 0) (m := c)
  have h1 : XI ((f17_1 0 c).2 0) := h.rows (fun k k0 k1 _ _ _ => e k (by omega))
  unfold f127_1
  rw [zb_a]
  try dsimp only
  by_cases x : (f17_1 0 c).1 = 0
  case neg =>
    rw [if_neg x]
    exact h1
  rw [if_pos x]
  by_cases x1 : a < 0
  · rw [if_pos x1]
    exact h1
  rw [if_neg x1]
  by_cases x2 : 2000000000 < a
  · rw [if_pos x2]
    exact h1
  rw [if_neg x2, zb_a]
  generalize (f17_1 0 c).2 = c1 at e h1 ⊢
  have hb1 := hb.k39 e
  unfold f129_1
  simp only [zs_a]
  refine (end_X (t := c1 0 8 9) (blk := max 1 (c1 0 10 4)) (told := 64) hb1 hA h1).1.rows (fun k k0 k1 k27 _ _ => ?_)
  rw [f54_k k (by omega) (by omega), zu_k _ _ _ k27, zu_k _ _ _ (by omega)]
theorem bill_X {c : zM} {B A Z : Int} (hc : OM B c) (hb : CBD A Z (c 0)) (hA : A ≤ 2900000) (h : XI (c 0)) : XI ((f137_1 c).2 0) := by
  obtain ⟨x1, x2, x3, x4, x5⟩ := h
  have c2 := hb.2.1
  have c1 := hb.1
  have h3 : 0 ≤ c 0 23 3 := (r23_3 hc.2.o 0).1
  obtain ⟨m', e, e23, -, e25, e26, e26d, -, e26o, e31, -, ek⟩ := bill_c (c := c) h3 (fun i i0 i1 => by
    have a := x3 i i0 i1
    have b := c2 i i0 i1
    omega)
  have hm : XI (m' 0) := by
    refine ⟨LN.of x1 (fun i _ _ => by rw [ek 0 28 (by omega)]), fun t t0 t1 => by rw [e31 t t0 t1]; omega, fun i i0 i1 => ?_, fun j i j0 j1 i0 i1 => ?_, fun j k j0 j1 k0 k1 => ?_⟩
    · have b := c2 i i0 i1
      rw [e25 i i0 i1, ek 0 24 (by omega)]
      omega
    · by_cases y : j = c 0 23 3 % 6
      · have a := x3 i i0 i1
        have b := c2 i i0 i1
        rw [y, e26 i i0 i1]
        omega
      · rw [e26o _ (by omega)]
        exact x4 j i j0 j1 i0 i1
    · by_cases y : j = c 0 23 3 % 6
      · rw [y, e26d k k0 k1]
        exact x2 k k0 k1
      · rw [e26o _ (by omega)]
        exact x5 j k j0 j1 k0 k1
  unfold f137_1
  rw [zs_a, e]
  exact hm.rows (fun k k0 k1 _ _ _ => f54_k k (by omega) (by omega))
theorem image_X {c : zM} {a : Int} (h0 : XI (c 0)) (h1 : c 4 40 4 ≠ 0 → XI (c 1)) : XI ((f195_1 a c).2 0) ∧ ((f195_1 a c).2 4 40 4 ≠ 0 → XI ((f195_1 a c).2 1)) := by
  unfold f195_1
  simp only [zs_a]
  by_cases x : a = 0
  · rw [if_pos x]
    by_cases y : c 4 40 4 = 0
    · rw [if_pos y]
      exact ⟨h0, h1⟩
    · rw [if_neg y]
      have hq := f171_1_c (show 0 ≠ 1 by decide) c
      have e1 : f171_1 0 1 c 1 = c 1 := hq.1 1 (by decide)
      refine ⟨(h1 y).fe (copy_FE (by decide) c 5) (copy_FE (by decide) c 7) (copy_FE (by decide) c 8) (copy_FE (by decide) c 10), fun _ => ?_⟩
      try dsimp only
      rw [e1]
      exact h1 y
  · rw [if_neg x]
    have hq := f171_1_c (show 1 ≠ 0 by decide) c
    have e0 : f171_1 1 0 c 0 = c 0 := hq.1 0 (by decide)
    have xg : ∀ g, g ≠ 4 → z_upd (f171_1 1 0 c) 4 40 4 1 g = f171_1 1 0 c g := fun g hg => zu_g _ _ _ hg
    refine ⟨?_, fun _ => ?_⟩
    · try dsimp only
      rw [xg 0 (by decide), e0]
      exact h0
    · try dsimp only
      rw [xg 1 (by decide)]
      exact h0.fe (copy_FE (by decide) c 5) (copy_FE (by decide) c 7) (copy_FE (by decide) c 8) (copy_FE (by decide) c 10)
end
