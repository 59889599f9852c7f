/-! The demand on both sides. -/
def DM (c : Nat → Int → Int) (w : Int → Int) : Prop := c 30 2 = w 19 ∧ c 30 3 = w 20 ∧ (∀ t, 0 ≤ t → t < 4 → c 31 t = w (32 + t)) ∧ ∀ t, 0 ≤ t → t < 4 → c 32 t = w (36 + t)
theorem DM.fe {c c' : Nat → Int → Int} {w w' : Int → Int} (h : DM c w) (h1 : FE 8 c c') (h2 : FW 8 w w') : DM c' w' := by
  obtain ⟨a1, a2, a3, a4⟩ := h
  refine ⟨by rw [h1.p30_2 2 (by omega) (by omega), h2 19 (by omega) (by omega) (ja45_19 (by omega))]; exact a1, by rw [h1.p30_2 3 (by omega) (by omega), h2 20 (by omega) (by omega) (ja45_19 (by omega))]; exact a2, fun t t0 t1 => ?_, fun t t0 t1 => ?_⟩
  · rw [h1.p31_0 t t0 (by omega), h2 _ (by omega) (by omega) (ja45_32 (by omega))]
    exact a3 t t0 t1
  · rw [h1.p32_0 t t0 (by omega), h2 _ (by omega) (by omega) (ja45_32 (by omega))]
    exact a4 t t0 t1
theorem w64_bmod (x : Int) : w64 x = x.bmod 18446744073709551616 := Int64.toInt_ofInt
theorem w64_iff {x y : Int} (hy : -9223372036854775808 ≤ y ∧ y ≤ 9223372036854775807) : w64 x = y ↔ (x - y) % 18446744073709551616 = 0 := by
  rw [w64_bmod, Int.bmod_def]
  split <;> constructor <;> intro h <;> omega
theorem w64_swap {a b d : Int} (hb : -9223372036854775808 ≤ b ∧ b ≤ 9223372036854775807) (hd : -9223372036854775808 ≤ d ∧ d ≤ 9223372036854775807) : w64 (a - b) = d ↔ w64 (a - d) = b := by
  rw [w64_iff hd, w64_iff hb, show a - b - d = a - d - b by omega]
theorem c64_28 {B : Int} {m : zM} (h : OM B m) (g : Nat) (i : Int) : -9223372036854775808 ≤ m g 28 i ∧ m g 28 i ≤ 9223372036854775807 := by
  have h1 := h.2 g 28 i (jq_of rfl)
  have e : jb 28 = [] := rfl
  unfold jl jh at h1
  rw [e] at h1
  exact h1
theorem win_loop {c r : zM} {g : Nat} {win blk : Int} {k95 : zM} {k112 : Int → zM} (h28 : ∀ i, -9223372036854775808 ≤ c g 28 i ∧ c g 28 i ≤ 9223372036854775807) (hblk : 1 ≤ r 4 45 8 ∧ r 4 45 8 ≤ 3600) (h : LD (c g) (r 4 45)) (hw : win = r 4 45 9) (hb : blk = r 4 45 8) (hwn : 1 ≤ win ∧ win ≤ min (r 4 45 17) 64) : ∀ (n n2 n3 : Nat) (y s : Int), 0 ≤ y → y ≤ win → win - y < n → win - y < n2 → win - y < n3 →
    (fl65_12_1 (fun _ => 0) (fun _ => 0) 1 g win blk c n y = 0 ∧ fl236_24_1 k95 k112 (min (r 4 45 17) 64) r n2 s y = k95) ∨
    (fl65_12_1 (fun _ => 0) (fun _ => 0) 1 g win blk c n y = 1 ∧ fl236_24_1 k95 k112 (min (r 4 45 17) 64) r n2 s y = k112 (fl68_5_1 (fun v => v) g 0 win c n3 s y)) := by
  obtain ⟨a1, a2, a3, -⟩ := h
  intro n
  induction n with
  | zero =>
    intro n2 n3 y s h0 h1 h2 h3 h4
    omega
  | succ n ih =>
    intro n2 n3 y s h0 h1 h2 h3 h4
    obtain ⟨n2, rfl⟩ : ∃ q, n2 = q + 1 := ⟨n2 - 1, by omega⟩
    obtain ⟨n3, rfl⟩ : ∃ q, n3 = q + 1 := ⟨n3 - 1, by omega⟩
    show (fl65_12_1_b (fl65_12_1 (fun _ => 0) (fun _ => 0) 1 g win blk c n) (fun _ => 0) (fun _ => 0) 1 g win blk c y = 0 ∧ fl236_24_1_b (fl236_24_1 k95 k112 (min (r 4 45 17) 64) r n2) k95 k112 (min (r 4 45 17) 64) r s y = k95) ∨ (fl65_12_1_b (fl65_12_1 (fun _ => 0) (fun _ => 0) 1 g win blk c n) (fun _ => 0) (fun _ => 0) 1 g win blk c y = 1 ∧ fl236_24_1_b (fl236_24_1 k95 k112 (min (r 4 45 17) 64) r n2) k95 k112 (min (r 4 45 17) 64) r s y = k112 (fl68_5_1_b (fl68_5_1 (fun v => v) g 0 win c n3) (fun v => v) g 0 win c s y))
    unfold fl65_12_1_b fl236_24_1_b fl68_5_1_b
    by_cases e : win ≤ y
    · rw [if_pos e, if_neg (show ¬ y < r 4 45 9 by omega), if_pos (show 0 + win ≤ y by omega)]
      exact .inr ⟨rfl, rfl⟩
    have e5 := a3.1 y h0 (by omega) 5 (by omega) (by omega)
    have e0 := a3.1 y h0 (by omega) 0 (by omega) (by omega)
    have e1 := a3.1 y h0 (by omega) 1 (by omega) (by omega)
    have q5 : c g 28 ((c g 27 2 - 1 - y) % 64 * 6 + 5) = f234_1 (min (r 4 45 17) 64 - 1 - y) 5 r := by rw [a1, e5]; rfl
    have q0 : c g 28 ((c g 27 2 - 1 - y) % 64 * 6 + 0) = f234_1 (min (r 4 45 17) 64 - 1 - y) 0 r := by rw [a1, e0]; rfl
    have q1 : c g 28 ((c g 27 2 - 1 - y) % 64 * 6 + 1) = f234_1 (min (r 4 45 17) 64 - 1 - y) 1 r := by rw [a1, e1]; rfl
    rw [if_neg e, if_pos (show y < r 4 45 9 by omega), if_neg (show ¬ 0 + win ≤ y by omega)]
    simp only [zn_a]
    rw [q5, q0, q1]
    by_cases f1 : zandL (f234_1 (min (r 4 45 17) 64 - 1 - y) 5 r) 192 = 0
    case neg =>
      rw [if_neg f1, if_neg f1]
      exact .inl ⟨rfl, rfl⟩
    rw [if_pos f1, if_pos f1]
    by_cases f2 : y ≤ 0
    · rw [if_pos f2, if_pos f2]
      exact ih n2 n3 (y + 1) _ (by omega) (by omega) (by omega) (by omega) (by omega)
    rw [if_neg f2, if_neg f2]
    have p0 := a3.1 (y - 1) (by omega) (by omega) 0 (by omega) (by omega)
    have s0 : c g 28 ((c g 27 2 - 1 - (y - 1)) % 64 * 6 + 0) = f234_1 (min (r 4 45 17) 64 - 1 - y + 1) 0 r := by
      rw [a1, p0]
      unfold f234_1
      congr 1
      omega
    rw [s0, hb]
    have hx : -9223372036854775808 ≤ f234_1 (min (r 4 45 17) 64 - 1 - y) 0 r ∧ f234_1 (min (r 4 45 17) 64 - 1 - y) 0 r ≤ 9223372036854775807 := by rw [← q0]; exact h28 _
    by_cases f3 : w64 (f234_1 (min (r 4 45 17) 64 - 1 - y + 1) 0 r - f234_1 (min (r 4 45 17) 64 - 1 - y) 0 r) = r 4 45 8
    · rw [if_pos f3, if_pos ((w64_swap hx (by omega)).mp f3), ← hb]
      exact ih n2 n3 (y + 1) _ (by omega) (by omega) (by omega) (by omega) (by omega)
    · rw [if_neg f3, if_neg (fun h9 => f3 ((w64_swap hx (by omega)).mpr h9))]
      exact .inl ⟨rfl, rfl⟩
noncomputable def dmK (m : zM) (y511 : Int) : zM := zs (z_upd m 4 45 19 y511) fun m516 => zs (z_upd m516 4 45 20 (m516 4 45 0)) fun m519 => zn (f217_1 ((m519 4 45 0) - 1) m519) fun v524 => if y511 ≤ (m519 4 45 (32 + v524)) then (m519) else (zs (z_upd m519 4 45 (32 + v524) y511) fun m527 => zs (z_upd m527 4 45 (36 + v524) (m527 4 45 0)) fun m530 => m530)
theorem f236_k (m : zM) : f236_1 m = if f235_1 m < m 4 45 9 then m else fl236_24_1 m (dmK m) (f235_1 m) m (zfu 7) 0 0 := rfl
noncomputable def dcK (g0 g1 : Nat) (a4 v507 : Int) (m : zM) : zM := zs (z_upd m g0 30 2 v507) fun m508 => zn (w32 (m508 g1 28 ((((((m508 g1 27 2) - 1) - 0) % 64) * 6) + 0))) fun z511 => zs (z_upd m508 g0 30 3 z511) fun m512 => zs (if (m512 g0 30 2) ≤ (m512 g0 31 a4) then (m512) else (zs (z_upd m512 g0 31 a4 (m512 g0 30 2)) fun m516 => zs (z_upd m516 g0 32 a4 (m516 g0 30 3)) fun m519 => m519)) fun m522 => m522
theorem f64_k (g0 g1 : Nat) (a2 a3 a4 : Int) (m : zM) : f64_1 g0 g1 a2 a3 a4 m = if f65_1 g1 a2 a3 m = 0 then m else dcK g0 g1 a4 (f68_1 g1 0 a2 m) m := rfl
theorem f65_k (g : Nat) (a1 a2 : Int) (m : zM) : f65_1 g a1 a2 m = if a1 ≤ min (m g 27 2) 64 then fl65_12_1 (fun _ => 0) (fun _ => 0) 1 g a1 a2 m (zfu 7) 0 else 0 := rfl
theorem dem_T {c r : zM} {g : Nat} {win blk tar : Int} (h28 : ∀ i, -9223372036854775808 ≤ c g 28 i ∧ c g 28 i ≤ 9223372036854775807) (h8 : 1 ≤ r 4 45 8 ∧ r 4 45 8 ≤ 3600) (hwb : 1 ≤ r 4 45 9 ∧ r 4 45 9 ≤ 6) (ht0 : 0 ≤ r 4 45 0 ∧ r 4 45 0 ≤ 2000000000) (h : LD (c g) (r 4 45)) (hd : DM (c g) (r 4 45)) (hw : win = r 4 45 9) (hb : blk = r 4 45 8) (ht : 0 ≤ tar ∧ tar < 4) (h1 : 1 ≤ r 4 45 17) (hl : r 4 45 (788 + 6 * (min (r 4 45 17) 64 - 1)) = r 4 45 0)
    (htar : ∀ m : zM, (∀ i, 287 ≤ i → i ≤ 787 → m 4 45 i = r 4 45 i) → f217_1 (r 4 45 0 - 1) m = tar) :
    DM (f64_1 g g win blk tar c g) (f236_1 r 4 45) ∧ (∀ g' k, (g' ≠ g ∨ (k ≠ 30 ∧ k ≠ 31 ∧ k ≠ 32)) → f64_1 g g win blk tar c g' k = c g' k) ∧ (∀ i, i ≠ 19 → i ≠ 20 → (i < 32 ∨ 39 < i) → f236_1 r 4 45 i = r 4 45 i) ∧ (∀ g k, (g ≠ 4 ∨ k ≠ 45) → f236_1 r g k = r g k) := by
  have a1 := h.1
  have e235 : f235_1 r = min (r 4 45 17) 64 := by
    show (if r 4 45 17 < 64 then r 4 45 17 else 64) = _
    split <;> omega
  rw [f64_k, f65_k, f236_k, e235, a1]
  by_cases f1 : win ≤ min (r 4 45 17) 64
  case neg =>
    rw [if_neg f1, if_pos rfl, if_pos (show min (r 4 45 17) 64 < r 4 45 9 by omega)]
    exact ⟨hd, fun _ _ _ => rfl, fun _ _ _ _ => rfl, fun _ _ _ => rfl⟩
  rw [if_pos f1, if_neg (show ¬ min (r 4 45 17) 64 < r 4 45 9 by omega)]
  rcases win_loop (c := c) (k95 := r) (k112 := dmK r) h28 h8 h hw hb (by omega) (zfu 7) (zfu 7) (zfu 128) 0 0 (by omega) (by omega) (by rw [zfu_eq]; omega) (by rw [zfu_eq]; omega) (by rw [zfu_eq]; omega) with ⟨g1, g2⟩ | ⟨g1, g2⟩
  · rw [g1, g2, if_pos rfl]
    exact ⟨hd, fun _ _ _ => rfl, fun _ _ _ _ => rfl, fun _ _ _ => rfl⟩
  · rw [g1, g2, if_neg (show ¬ (1 : Int) = 0 by decide)]
    have es : f68_1 g 0 win c = fl68_5_1 (fun v => v) g 0 win c (zfu 128) 0 0 := rfl
    rw [← es]
    generalize f68_1 g 0 win c = S
    unfold dcK dmK
    simp only [zn_a, zs_a]
    have q27 : ∀ i, z_upd c g 30 2 S g 27 i = c g 27 i := fun i => by rw [zu_k _ _ _ (by decide)]
    have q28 : ∀ i, z_upd c g 30 2 S g 28 i = c g 28 i := fun i => by rw [zu_k _ _ _ (by decide)]
    have e0 := h.2.2.1.1 0 (by omega) (by omega) 0 (by omega) (by omega)
    rw [q27, q28, a1, e0, show 788 + 6 * (min (r 4 45 17) 64 - 1 - 0) + 0 = 788 + 6 * (min (r 4 45 17) 64 - 1) by omega, hl, w32_id (by omega)]
    have u0 : z_upd (z_upd r 4 45 19 S) 4 45 20 (z_upd r 4 45 19 S 4 45 0) 4 45 0 = r 4 45 0 := by rw [zu_row, fu_i _ _ (by decide), zu_row, fu_i _ _ (by decide)]
    have u1 : z_upd r 4 45 19 S 4 45 0 = r 4 45 0 := by rw [zu_row, fu_i _ _ (by decide)]
    rw [u0, u1]
    rw [htar _ (fun i i0 i1 => by rw [zu_row, fu_i _ _ (by omega), zu_row, fu_i _ _ (by omega)])]
    obtain ⟨d1, d2, d3, d4⟩ := hd
    have c2 : z_upd (z_upd c g 30 2 S) g 30 3 (r 4 45 0) g 30 2 = S := by rw [zu_row, fu_i _ _ (by decide), zu_row, fu_s]
    have c3 : z_upd (z_upd c g 30 2 S) g 30 3 (r 4 45 0) g 30 3 = r 4 45 0 := by rw [zu_row, fu_s]
    have c31 : ∀ t, z_upd (z_upd c g 30 2 S) g 30 3 (r 4 45 0) g 31 t = c g 31 t := fun t => by rw [zu_k _ _ _ (by decide), zu_k _ _ _ (by decide)]
    have c32 : ∀ t, z_upd (z_upd c g 30 2 S) g 30 3 (r 4 45 0) g 32 t = c g 32 t := fun t => by rw [zu_k _ _ _ (by decide), zu_k _ _ _ (by decide)]
    have co : ∀ g' k, (g' ≠ g ∨ k ≠ 30) → z_upd (z_upd c g 30 2 S) g 30 3 (r 4 45 0) g' k = c g' k := fun g' k hk => by
      rcases hk with hk | hk
      · rw [zu_g _ _ _ hk, zu_g _ _ _ hk]
      · rw [zu_k _ _ _ hk, zu_k _ _ _ hk]
    have r19 : z_upd (z_upd r 4 45 19 S) 4 45 20 (r 4 45 0) 4 45 19 = S := by rw [zu_row, fu_i _ _ (by decide), zu_row, fu_s]
    have r20 : z_upd (z_upd r 4 45 19 S) 4 45 20 (r 4 45 0) 4 45 20 = r 4 45 0 := by rw [zu_row, fu_s]
    have ro : ∀ i, i ≠ 19 → i ≠ 20 → z_upd (z_upd r 4 45 19 S) 4 45 20 (r 4 45 0) 4 45 i = r 4 45 i := fun i h1 h2 => by rw [zu_row, fu_i _ _ h2, zu_row, fu_i _ _ h1]
    have rg : ∀ g k, (g ≠ 4 ∨ k ≠ 45) → z_upd (z_upd r 4 45 19 S) 4 45 20 (r 4 45 0) g k = r g k := fun g' k hk => by
      rcases hk with hk | hk
      · rw [zu_g _ _ _ hk, zu_g _ _ _ hk]
      · rw [zu_k _ _ _ hk, zu_k _ _ _ hk]
    rw [c2, c31, ro (32 + tar) (by omega) (by omega), d3 tar ht.1 ht.2]
    generalize z_upd (z_upd c g 30 2 S) g 30 3 (r 4 45 0) = c1 at c2 c3 c31 c32 co ⊢
    generalize z_upd (z_upd r 4 45 19 S) 4 45 20 (r 4 45 0) = r1 at r19 r20 ro rg ⊢
    by_cases f2 : S ≤ r 4 45 (32 + tar)
    · rw [if_pos f2, if_pos f2]
      refine ⟨⟨by omega, by omega, fun t t0 t1 => ?_, fun t t0 t1 => ?_⟩, fun g' k hk => co g' k (by omega), fun i i0 i1 i2 => ro i i0 i1, rg⟩
      · rw [c31, ro _ (by omega) (by omega)]
        exact d3 t t0 t1
      · rw [c32, ro _ (by omega) (by omega)]
        exact d4 t t0 t1
    · rw [if_neg f2, if_neg f2]
      have z1 : z_upd c1 g 31 tar S g 30 3 = c1 g 30 3 := by rw [zu_k _ _ _ (by decide)]
      have z2 : z_upd r1 4 45 (32 + tar) S 4 45 0 = r 4 45 0 := by rw [zu_row, fu_i _ _ (by omega), ro 0 (by decide) (by decide)]
      rw [z1, z2, c3]
      refine ⟨⟨?_, ?_, fun t t0 t1 => ?_, fun t t0 t1 => ?_⟩, fun g' k hk => ?_, fun i i0 i1 i2 => ?_, fun g' k hk => ?_⟩
      · rw [zu_k _ _ _ (show (30 : Nat) ≠ 32 by decide), zu_k _ _ _ (show (30 : Nat) ≠ 31 by decide), zu_row, fu_i _ _ (by omega), zu_row, fu_i _ _ (by omega), c2, r19]
      · rw [zu_k _ _ _ (show (30 : Nat) ≠ 32 by decide), zu_k _ _ _ (show (30 : Nat) ≠ 31 by decide), zu_row, fu_i _ _ (by omega), zu_row, fu_i _ _ (by omega), c3, r20]
      · rw [zu_k _ _ _ (show (31 : Nat) ≠ 32 by decide), zu_row, zu_row, show fu (z_upd r1 4 45 (32 + tar) S 4 45) (36 + tar) (r 4 45 0) (32 + t) = z_upd r1 4 45 (32 + tar) S 4 45 (32 + t) from fu_i _ _ (by omega), zu_row]
        by_cases e : t = tar
        · rw [e, fu_s, fu_s]
        · rw [fu_i _ _ e, fu_i _ _ (by omega), c31, ro _ (by omega) (by omega)]
          exact d3 t t0 t1
      · rw [zu_row, zu_row, zu_k _ _ _ (show (32 : Nat) ≠ 31 by decide)]
        by_cases e : t = tar
        · rw [e, fu_s, fu_s]
        · rw [fu_i _ _ e, fu_i _ _ (by omega), zu_row, fu_i _ _ (by omega), c32, ro _ (by omega) (by omega)]
          exact d4 t t0 t1
      · rw [← co g' k (by omega)]
        rcases hk with hk | hk
        · rw [zu_g _ _ _ hk, zu_g _ _ _ hk]
        · rw [zu_k _ _ _ hk.2.2, zu_k _ _ _ hk.2.1]
      · rw [zu_row, fu_i _ _ (by omega), zu_row, fu_i _ _ (by omega), ro i i0 i1]
      · rw [← rg g' k hk]
        rcases hk with hk | hk
        · rw [zu_g _ _ _ hk, zu_g _ _ _ hk]
        · rw [zu_k _ _ _ hk, zu_k _ _ _ hk]
