/-! Bounds that what is kept of lines, demands and bills stays in (the class alone). -/
def LN (c : Nat → Int → Int) : Prop := ∀ j, 0 ≤ j → j < 64 → 0 ≤ c 28 (j * 6 + 1) ∧ c 28 (j * 6 + 1) ≤ 49300000000000
def DB (c : Nat → Int → Int) : Prop := ∀ t, 0 ≤ t → t < 4 → -1 ≤ c 31 t ∧ c 31 t ≤ 295800000000000
def BL (c : Nat → Int → Int) : Prop := (∀ i, 0 ≤ i → i < 28 → 0 ≤ c 25 i ∧ c 25 i ≤ c 24 i) ∧ (∀ j i, 0 ≤ j → j < 6 → 0 ≤ i → i < 28 → 0 ≤ c 26 (j * 33 + i) ∧ c 26 (j * 33 + i) ≤ 49300000000000) ∧ ∀ j k, 0 ≤ j → j < 6 → 0 ≤ k → k < 4 → -1 ≤ c 26 (j * 33 + (28 + k)) ∧ c 26 (j * 33 + (28 + k)) ≤ 295800000000000
def XI (c : Nat → Int → Int) : Prop := LN c ∧ DB c ∧ BL c
theorem LN.of {c c' : Nat → Int → Int} (h : LN c) (e : ∀ i, 0 ≤ i → i < 384 → c' 28 i = c 28 i) : LN c' := fun j j0 j1 => by
  rw [e _ (by omega) (by omega)]
  exact h j j0 j1
theorem DB.of {c c' : Nat → Int → Int} (h : DB c) (e : ∀ t, 0 ≤ t → t < 4 → c' 31 t = c 31 t) : DB c' := fun t t0 t1 => by
  rw [e t t0 t1]
  exact h t t0 t1
theorem BL.of {c c' : Nat → Int → Int} (h : BL c) (e24 : ∀ i, 0 ≤ i → i < 28 → c 24 i ≤ c' 24 i) (e25 : ∀ i, 0 ≤ i → i < 28 → c' 25 i = c 25 i) (e26 : ∀ i, 0 ≤ i → i < 198 → c' 26 i = c 26 i) : BL c' := by
  obtain ⟨h1, h2, h3⟩ := h
  refine ⟨fun i i0 i1 => ?_, fun j i j0 j1 i0 i1 => ?_, fun j k j0 j1 k0 k1 => ?_⟩
  · have a := h1 i i0 i1
    have b := e24 i i0 i1
    rw [e25 i i0 i1]
    omega
  · rw [e26 _ (by omega) (by omega)]
    exact h2 j i j0 j1 i0 i1
  · rw [e26 _ (by omega) (by omega)]
    exact h3 j k j0 j1 k0 k1
theorem XI.fe {c c' : Nat → Int → Int} (h : XI c) (h5 : FE 5 c c') (h7 : FE 7 c c') (h8 : FE 8 c c') (h10 : FE 10 c c') : XI c' :=
  ⟨h.1.of (fun i i0 i1 => h7.p28_0 i i0 (by omega)), h.2.1.of (fun i i0 i1 => h8.p31_0 i i0 (by omega)), h.2.2.of (fun i i0 i1 => Int.le_of_eq (h10.p24_0 i i0 (by omega)).symm) (fun i i0 i1 => h5.p25_0 i i0 (by omega)) (fun i i0 i1 => h5.p26_0 i i0 (by omega))⟩
/-- a block's end -/
theorem end_LN {m : zM} {g : Nat} {t blk told : Int} (h6 : 0 ≤ m g 27 6 ∧ m g 27 6 ≤ 1000000000) (h7 : 0 ≤ m g 27 7 ∧ m g 27 7 ≤ 1000000000) (h3 : 0 ≤ m g 27 3 ∧ m g 27 3 ≤ 49300000000000) (h : LN (m g)) : LN (f60_1 g t blk told m g) ∧ ∀ k, k < 27 ∨ 29 < k → f60_1 g t blk told m g k = m g k := by
  obtain ⟨-, -, -, n4⟩ := end_c m g t blk told h6 h7
  refine ⟨fun j j0 j1 => ?_, fun k hk => ?_⟩
  · rw [n4 g 28 (.inr (by decide))]
    split
    · exact h j j0 j1
    · rw [(line_c m g t _).1]
      split
      · rename_i q
        have e : j * 6 + 1 - m g 27 2 % 64 * 6 = 1 := by omega
        rw [e]
        unfold v6
        rw [if_neg (by decide), if_pos rfl]
        exact h3
      · exact h j j0 j1
  · rw [n4 g k (.inr (by omega))]
    split
    · rfl
    · rw [(line_c m g t _).2.2.2.2 g k (.inr (by omega))]
/-- the sum of some lines -/
theorem sum_LN {c : zM} {g : Nat} {win : Int} (h : LN (c g)) : ∀ (n : Nat) (s y : Int), 0 ≤ y → 0 ≤ s → s ≤ 49300000000000 * y → y ≤ 64 → win ≤ 64 → 0 ≤ win → y ≤ win → win - y < n → 0 ≤ fl68_5_1 (fun v => v) g 0 win c n s y ∧ fl68_5_1 (fun v => v) g 0 win c n s y ≤ 49300000000000 * win
  | 0, s, y, h0, h1, h2, h3, h4, h5, h6, h7 => by omega
  | n + 1, s, y, h0, h1, h2, h3, h4, h5, h6, h7 => by
    show 0 ≤ fl68_5_1_b (fl68_5_1 (fun v => v) g 0 win c n) (fun v => v) g 0 win c s y ∧ fl68_5_1_b (fl68_5_1 (fun v => v) g 0 win c n) (fun v => v) g 0 win c s y ≤ _
    unfold fl68_5_1_b
    by_cases e : 0 + win ≤ y
    · rw [if_pos e]
      show 0 ≤ s ∧ s ≤ _
      omega
    · have b := h ((c g 27 2 - 1 - y) % 64) (by omega) (by omega)
      rw [if_neg e, zn_a, w64_id (by omega)]
      exact sum_LN h n _ (y + 1) (by omega) (by omega) (by omega) (by omega) h4 h5 (by omega) (by omega)
theorem dem_X {m : zM} {g : Nat} {win blk tar : Int} (h : LN (m g)) (hd : DB (m g)) (hw : 0 ≤ win ∧ win ≤ 6) (ht : 0 ≤ tar ∧ tar < 4) : DB (f64_1 g g win blk tar m g) ∧ ∀ k, k < 30 ∨ 32 < k → f64_1 g g win blk tar m g k = m g k := by
  rw [f64_k]
  by_cases e : f65_1 g win blk m = 0
  · rw [if_pos e]
    exact ⟨hd, fun _ _ => rfl⟩
  rw [if_neg e]
  have b : 0 ≤ f68_1 g 0 win m ∧ f68_1 g 0 win m ≤ 49300000000000 * win := sum_LN h (zfu 128) 0 0 (by omega) (by omega) (by omega) (by omega) (by omega) (by omega) (by omega) (by rw [zfu_eq]; omega)
  generalize f68_1 g 0 win m = S at b ⊢
  unfold dcK
  simp only [zn_a, zs_a]
  generalize w32 (z_upd m g 30 2 S g 28 (((z_upd m g 30 2 S g 27 2 - 1 - 0) % 64 * 6) + 0)) = T
  have q31 : z_upd (z_upd m g 30 2 S) g 30 3 T g 31 = m g 31 := by rw [zu_k _ _ _ (by decide), zu_k _ _ _ (by decide)]
  have q30 : z_upd (z_upd m g 30 2 S) g 30 3 T g 30 2 = S := by rw [zu_row, fu_i _ _ (by decide), zu_row, fu_s]
  rw [q30]
  by_cases f : S ≤ z_upd (z_upd m g 30 2 S) g 30 3 T g 31 tar
  · rw [if_pos f]
    exact ⟨hd.of (fun t _ _ => by rw [q31]), fun k hk => by rw [zu_k _ _ _ (by omega), zu_k _ _ _ (by omega)]⟩
  · rw [if_neg f]
    refine ⟨fun t t0 t1 => ?_, fun k hk => by rw [zu_k _ _ _ (by omega), zu_k _ _ _ (by omega), zu_k _ _ _ (by omega), zu_k _ _ _ (by omega)]⟩
    rw [zu_k _ _ _ (show (31 : Nat) ≠ 32 by decide), zu_row]
    by_cases x : t = tar
    · rw [x, fu_s]
      omega
    · rw [fu_i _ _ x, q31]
      exact hd t t0 t1
theorem f59_X {m : zM} {g : Nat} {tar : Int} (h6 : 0 ≤ m g 27 6 ∧ m g 27 6 ≤ 1000000000) (h7 : 0 ≤ m g 27 7 ∧ m g 27 7 ≤ 1000000000) (h3 : 0 ≤ m g 27 3 ∧ m g 27 3 ≤ 49300000000000) (hw : 0 ≤ m g 10 5 ∧ m g 10 5 ≤ 6) (ht : 0 ≤ tar ∧ tar < 4) (h : LN (m g)) (hd : DB (m g)) : LN (f59_1 g tar m g) ∧ DB (f59_1 g tar m g) ∧ ∀ k, k < 27 ∨ 32 < k → f59_1 g tar m g k = m g k := by
  unfold f59_1
  simp only [zn_a, zs_a]
  split
  · obtain ⟨a1, a2⟩ := end_LN (t := m g 8 9) (blk := max 1 (m g 10 4)) (told := 0) h6 h7 h3 h
    generalize f60_1 g (m g 8 9) (max 1 (m g 10 4)) 0 m = m1 at a1 a2 ⊢
    obtain ⟨b1, b2⟩ := dem_X (win := m1 g 10 5) (blk := max 1 (m g 10 4)) (tar := tar) a1 (hd.of (fun t _ _ => by rw [a2 31 (.inr (by decide))])) (by rw [a2 10 (.inl (by decide))]; exact hw) ht
    exact ⟨a1.of (fun i _ _ => by rw [b2 28 (.inl (by decide))]), b1, fun k hk => by rw [b2 k (by omega), a2 k (by omega)]⟩
  · exact ⟨h, hd, fun _ _ => rfl⟩
/-- a stretch of seconds -/
theorem cS_X {c r : zM} {g : Nat} {B n tar seen A Z : Int} (hg : g < 3) (hc : OM B c) (hr : OM B r) (hB : B + 20 ≤ 1000000000) (hwv : WV (c g) (r 4 45)) (hcb : CBD A Z (c g)) (hA : A ≤ 2890000) (hob : c g 8 12 = 0 ∨ c g 8 12 = 1) (hn : 1 ≤ n ∧ n ≤ 3600) (ht : 0 ≤ tar ∧ tar < 4) (hseen : -2147483648 ≤ seen ∧ seen ≤ 2147483647) (h9 : c g 8 9 + (n - 1) ≤ 2000000000) (hx : XI (c g)) : XI (cS g n tar seen c g) := by
  obtain ⟨s0, s1, s2, s3, s4, s5, s6, -, -, -, s10⟩ := id hwv.2.2.2.1
  obtain ⟨bP, bQ, bS⟩ := hwv.sums
  have hu := r45_5 hr.2.o 4
  have hp : ∀ t, 0 ≤ t → t < 4 → 0 ≤ r 4 45 (28 + t) ∧ r 4 45 (28 + t) ≤ 100 := fun t t0 t1 => r45_28 hr.2.o 4 (by omega)
  obtain ⟨D, hD⟩ : ∃ D : Int → Int, ∀ q, D q = DL (c g 8 12) (c g 22 3) (c g 22 7) (c g 19 6) (c g 10 0) q := ⟨_, fun _ => rfl⟩
  have hDb : ∀ q, 0 ≤ D q ∧ D q ≤ 17000000 := fun q => by
    rw [hD q]
    unfold DL
    split
    · exact dl_b bP bQ bS q
    · omega
  obtain ⟨cb1, cb2, cb3, cb4, cb5, cb6, cb7, cb8, cb9, cb10⟩ := hcb
  have hFB : FB g c := ⟨bP, bQ, bS, fun i i0 i1 => by have := cb2 i i0 i1; omega, by omega, fun t t0 t1 => by rw [s6 t t0 t1]; exact hp t t0 t1, by omega, by have := cb3 3 (by omega) (by omega); omega, by have := cb3 4 (by omega) (by omega); omega, by have := cb3 5 (by omega) (by omega); omega, by omega, hob⟩
  obtain ⟨f1, f2, f3, f4, f5, f6, f7, f8, f9⟩ := flow_c (n := n) (tar := tar) hFB (by omega) ht hD
  obtain ⟨j1, j2⟩ := q49_1 g n tar hc.1 hc.2 (by omega) hg (by omega) (by omega)
  have o1 : OM B (f49_1 g n tar c) := ⟨j1, j2.jb⟩
  have tc := hc.t g
  have nD : ∀ q, 0 ≤ n * D q ∧ n * D q ≤ 3600 * 17000000 := fun q => mul_le3 (by omega) (by omega) (hDb q).1 (hDb q).2
  have r105 := r10_5 hc.2.o g
  have f24 : ∀ i, 0 ≤ i → i < 28 → c g 24 i ≤ f49_1 g n tar c g 24 i := fun i i0 i1 => by
    have e := f1 (i / 4) (i % 4) (by omega) (by omega) (by omega) (by omega)
    rw [show i / 4 * 4 + i % 4 = i by omega] at e
    have z := nD (i / 4)
    rw [e]
    split <;> omega
  unfold cS
  simp only [zn_a, zs_a]
  rw [f8 13 (by decide) (by decide), w32_id (x := c g 8 13 + n) (by omega)]
  obtain ⟨c1, ec1⟩ : ∃ x, x = f49_1 g n tar c := ⟨_, rfl⟩
  rw [← ec1] at f1 f2 f3 f4 f5 f6 f7 f8 f9 o1 f24 ⊢
  have o2 := u8_13 (g := g) (x := c g 8 13 + n) o1 (by omega)
  have t2 : z_upd c1 g 8 13 (c g 8 13 + n) g 8 9 = c g 8 9 := by rw [zu_row, fu_i _ _ (by decide), f8 9 (by decide) (by decide)]
  rw [t2]
  have o3 := u8_9 (g := g) (x := c g 8 9 + (n - 1)) o2 (by omega)
  obtain ⟨c3, ec3⟩ : ∃ x, x = z_upd (z_upd c1 g 8 13 (c g 8 13 + n)) g 8 9 (c g 8 9 + (n - 1)) := ⟨_, rfl⟩
  rw [← ec3] at o3 ⊢
  have dk : ∀ k, k ≠ 8 → c3 g k = c1 g k := fun k hk => by rw [ec3, zu_k _ _ _ hk, zu_k _ _ _ hk]
  obtain ⟨k1, k2⟩ := q53_1 g o3.1 o3.2 (by omega) hg
  have o4 : OM (B + 1) (f53_1 g c3) := ⟨k1, k2.jb⟩
  obtain ⟨c4, ec4⟩ : ∃ x, x = f53_1 g c3 := ⟨_, rfl⟩
  rw [← ec4] at k2 o4 ⊢
  have u10 := r10_0 (i := 3) o4.2.o g (by omega)
  have u9 := o4.t g
  obtain ⟨k3, k4⟩ := q56_1 g g n seen (c4 g 10 3) (c4 g 8 9) o4.1 o4.2 (by omega) hg hg (by omega) hseen (by omega) (by omega)
  obtain ⟨c5, ec5⟩ : ∃ x, x = f56_1 g g n seen (c4 g 10 3) (c4 g 8 9) c4 := ⟨_, rfl⟩
  rw [← ec5] at k4 ⊢
  have fe : ∀ n, n = 5 ∨ n = 7 ∨ n = 8 ∨ n = 10 ∨ n = 3 → FE n (c3 g) (c5 g) := fun n hn => by
    rcases hn with e | e | e | e | e <;> subst e
    · exact (FE.j k2 g 5 rfl).trans (FE.j k4 g 5 rfl)
    · exact (FE.j k2 g 7 rfl).trans (FE.j k4 g 7 rfl)
    · exact (FE.j k2 g 8 rfl).trans (FE.j k4 g 8 rfl)
    · exact (FE.j k2 g 10 rfl).trans (FE.j k4 g 10 rfl)
    · exact (FE.j k2 g 3 rfl).trans (FE.j k4 g 3 rfl)
  have e5 := fe 5 (.inl rfl)
  have e7 := fe 7 (.inr (.inl rfl))
  have e8 := fe 8 (.inr (.inr (.inl rfl)))
  have e10 := fe 10 (.inr (.inr (.inr (.inl rfl))))
  have e3 := fe 3 (.inr (.inr (.inr (.inr rfl))))
  unfold f58_1
  simp only [zn_a, zs_a]
  have b6 : c5 g 27 6 = c g 27 6 := by rw [e7.p27_2 6 (by omega) (by omega), dk 27 (by decide), f7 6 (by decide) (by decide) (by decide)]
  have b7 : c5 g 27 7 = c g 27 7 := by rw [e7.p27_2 7 (by omega) (by omega), dk 27 (by decide), f7 7 (by decide) (by decide) (by decide)]
  have b3 : c5 g 27 3 = c g 27 3 + n * D 0 := by rw [e7.p27_2 3 (by omega) (by omega), dk 27 (by decide), f4]
  rw [b6, w32_id (x := c g 27 6 + n) (by omega)]
  generalize zor (z_upd c5 g 27 6 (c g 27 6 + n) g 27 8) (c5 g 33 3) = Y
  obtain ⟨c6, ec6⟩ : ∃ x, x = z_upd (z_upd c5 g 27 6 (c g 27 6 + n)) g 27 8 Y := ⟨_, rfl⟩
  rw [← ec6]
  have d6 : ∀ k, k ≠ 27 → c6 g k = c5 g k := fun k hk => by rw [ec6, zu_k _ _ _ hk, zu_k _ _ _ hk]
  have d27 : ∀ i, c6 g 27 i = if i = 8 then Y else if i = 6 then c g 27 6 + n else c5 g 27 i := fun i => by rw [ec6, zu_row, zu_row]; rfl
  obtain ⟨c7, ec7⟩ : ∃ x, x = (if 2000000000 ≤ c6 g 8 9 then c6 else z_upd c6 g 8 9 (c6 g 8 9 + 1)) := ⟨_, rfl⟩
  rw [← ec7]
  have d7 : ∀ k, k ≠ 8 → c7 g k = c6 g k := fun k hk => by
    rw [ec7]
    split
    · rfl
    · rw [zu_k _ _ _ hk]
  have z3 := cb3 3 (by omega) (by omega)
  have zn0 := nD 0
  obtain ⟨x1, x2, x3⟩ := hx
  have l7 : LN (c7 g) := x1.of (fun i i0 i1 => by rw [d7 28 (by decide), d6 28 (by decide), e7.p28_0 i i0 (by omega), dk 28 (by decide), f9 g 28 (.inr (by decide))])
  have l8 : DB (c7 g) := x2.of (fun t t0 t1 => by rw [d7 31 (by decide), d6 31 (by decide), e8.p31_0 t t0 (by omega), dk 31 (by decide), f9 g 31 (.inr (by decide))])
  obtain ⟨y1, y2, y3⟩ := f59_X (m := c7) (g := g) (tar := tar) (by rw [d7 27 (by decide), d27, if_neg (by decide), if_pos rfl]; omega) (by rw [d7 27 (by decide), d27, if_neg (by decide), if_neg (by decide), b7]; omega) (by rw [d7 27 (by decide), d27, if_neg (by decide), if_neg (by decide), b3]; omega)
    (by rw [d7 10 (by decide), d6 10 (by decide), e3.p10_0 5 (by omega) (by omega), dk 10 (by decide), f9 g 10 (.inr (by decide))]; omega) ht l7 l8
  refine ⟨y1, y2, x3.of (fun i i0 i1 => ?_) (fun i i0 i1 => ?_) (fun i i0 i1 => ?_)⟩
  · rw [y3 24 (.inl (by decide)), d7 24 (by decide), d6 24 (by decide), e10.p24_0 i i0 (by omega), dk 24 (by decide)]
    exact f24 i i0 i1
  · rw [y3 25 (.inl (by decide)), d7 25 (by decide), d6 25 (by decide), e5.p25_0 i i0 (by omega), dk 25 (by decide), f9 g 25 (.inr (by decide))]
  · rw [y3 26 (.inl (by decide)), d7 26 (by decide), d6 26 (by decide), e5.p26_0 i i0 (by omega), dk 26 (by decide), f9 g 26 (.inr (by decide))]
theorem XI.rows {c c' : Nat → Int → Int} (h : XI c) (e : ∀ k, 24 ≤ k → k ≤ 31 → k ≠ 27 → k ≠ 29 → k ≠ 30 → c' k = c k) : XI c' :=
  ⟨h.1.of (fun i _ _ => by rw [e 28 (by decide) (by decide) (by decide) (by decide) (by decide)]), h.2.1.of (fun i _ _ => by rw [e 31 (by decide) (by decide) (by decide) (by decide) (by decide)]), h.2.2.of (fun i _ _ => Int.le_of_eq (by rw [e 24 (by decide) (by decide) (by decide) (by decide) (by decide)])) (fun i _ _ => by rw [e 25 (by decide) (by decide) (by decide) (by decide) (by decide)]) (fun i _ _ => by rw [e 26 (by decide) (by decide) (by decide) (by decide) (by decide)])⟩
theorem f26_X {c r : zM} {g : Nat} {B a A Z : Int} (hg : g < 3) (hc : OM B c) (hr : OM B r) (hB : B + 20 ≤ 1000000000) (hwv : WV (c g) (r 4 45)) (hcb : CBD A Z (c g)) (hA : A ≤ 2890000) (hop : c g 8 12 = shO (c g 8 11) (c g 8 10)) (ha : 1 ≤ a ∧ a ≤ 3600) (hx : XI (c g)) : XI ((f26_1 g a c).2 g) := by
  have tc := hc.t g
  have t0 := q27_1 g (c g 8 9) hc.1 hc.2 (by omega) (by omega) (by omega)
  have u2 := r10_0 (i := 2) hc.2.o g (by omega)
  have s0 := q34_1 g (c g 10 2) hc.1 hc.2 (by omega) hg u2
  obtain ⟨p1, p2, p3, p4⟩ := q35_1 g a (f27_1 g (c g 8 9) c) (f34_1 g (c g 10 2) c) hc.1 hc.2 (by omega) hg ha t0 s0 (by omega)
  have hob : c g 8 12 = 0 ∨ c g 8 12 = 1 := by
    rw [hop]
    unfold shO
    repeat' split
    all_goals omega
  rw [f26_k]
  exact cS_X hg hc hr hB hwv hcb hA hob p1 (by omega) s0 (by omega) hx
