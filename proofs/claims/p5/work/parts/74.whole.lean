/-! The calendar's text: the whole of it. -/
theorem cpy_k (m : zM) {g1 k1 g0 k0 g k : Nat} {sp dp n : Int} (h : g ≠ g1 ∨ k ≠ k1) : z_cpy m g1 k1 g0 k0 sp dp n g k = m g k := by
  funext i
  unfold z_cpy
  rw [if_neg (by omega)]
theorem cpy_in (m : zM) {g1 k1 g0 k0 : Nat} {sp dp n i : Int} (h : dp ≤ i ∧ i < dp + n) : z_cpy m g1 k1 g0 k0 sp dp n g1 k1 i = m g0 k0 (i - dp + sp) := by
  unfold z_cpy
  rw [if_pos ⟨rfl, rfl, h.1, h.2⟩]
theorem cpy_out (m : zM) {g1 k1 g0 k0 : Nat} {sp dp n i : Int} (h : ¬ (dp ≤ i ∧ i < dp + n)) : z_cpy m g1 k1 g0 k0 sp dp n g1 k1 i = m g1 k1 i := by
  unfold z_cpy
  rw [if_neg (fun e => h ⟨e.2.2.1, e.2.2.2⟩)]
theorem copy_row {m m' : zM} {g1 k1 g0 : Nat} {n : Int} (h : m' = z_cpy m g1 k1 g0 k1 0 0 n) : (∀ g k, (g ≠ g1 ∨ k ≠ k1) → m' g k = m g k) ∧ ∀ i, 0 ≤ i → i < n → m' g1 k1 i = m g0 k1 i := by
  subst h
  refine ⟨fun g k h => cpy_k m h, fun i i0 i1 => ?_⟩
  rw [cpy_in m (by omega), show i - 0 + 0 = i by omega]
/-- a calendar is copied -/
theorem copy_eq (m : zM) {g0 g1 : Nat} (hg : g0 ≠ g1) : ∃ m', f111_1 g0 g1 m = m' ∧ (∀ i, 0 ≤ i → i < 8 → m' g0 12 i = m g1 12 i) ∧ (∀ i, 0 ≤ i → i < 48 → m' g0 13 i = m g1 13 i) ∧ (∀ i, 0 ≤ i → i < 48 → m' g0 14 i = m g1 14 i) ∧ (∀ i, 0 ≤ i → i < 4 → m' g0 15 i = m g1 15 i) ∧
    (∀ i, 0 ≤ i → i < 28 → m' g0 16 i = m g1 16 i) ∧ (∀ i, 0 ≤ i → i < 16 → m' g0 17 i = m g1 17 i) ∧ (∀ i, 0 ≤ i → i < 16 → m' g0 18 i = m g1 18 i) ∧ m' g0 11 7 = m g1 11 7 ∧ (∀ g k, (g ≠ g0 ∨ k < 11 ∨ 18 < k) → m' g k = m g k) := by
  unfold f111_1
  simp only [zs]
  obtain ⟨m1, e1⟩ : ∃ x, x = z_cpy m g0 12 g1 12 0 0 8 := ⟨_, rfl⟩
  rw [← e1]
  obtain ⟨m2, e2⟩ : ∃ x, x = z_cpy m1 g0 13 g1 13 0 0 48 := ⟨_, rfl⟩
  rw [← e2]
  obtain ⟨m3, e3⟩ : ∃ x, x = z_cpy m2 g0 14 g1 14 0 0 48 := ⟨_, rfl⟩
  rw [← e3]
  obtain ⟨m4, e4⟩ : ∃ x, x = z_cpy m3 g0 15 g1 15 0 0 4 := ⟨_, rfl⟩
  rw [← e4]
  obtain ⟨m5, e5⟩ : ∃ x, x = z_cpy m4 g0 16 g1 16 0 0 28 := ⟨_, rfl⟩
  rw [← e5]
  obtain ⟨m6, e6⟩ : ∃ x, x = z_cpy m5 g0 17 g1 17 0 0 16 := ⟨_, rfl⟩
  rw [← e6]
  obtain ⟨m7, e7⟩ : ∃ x, x = z_cpy m6 g0 18 g1 18 0 0 16 := ⟨_, rfl⟩
  rw [← e7]
  obtain ⟨a1, b1⟩ := copy_row e1
  obtain ⟨a2, b2⟩ := copy_row e2
  obtain ⟨a3, b3⟩ := copy_row e3
  obtain ⟨a4, b4⟩ := copy_row e4
  obtain ⟨a5, b5⟩ := copy_row e5
  obtain ⟨a6, b6⟩ := copy_row e6
  obtain ⟨a7, b7⟩ := copy_row e7
  have s : ∀ k, m7 g1 k = m g1 k := fun k => by
    rw [a7 _ _ (.inl hg.symm), a6 _ _ (.inl hg.symm), a5 _ _ (.inl hg.symm), a4 _ _ (.inl hg.symm), a3 _ _ (.inl hg.symm), a2 _ _ (.inl hg.symm), a1 _ _ (.inl hg.symm)]
  refine ⟨_, rfl, fun i i0 i1 => ?_, fun i i0 i1 => ?_, fun i i0 i1 => ?_, fun i i0 i1 => ?_, fun i i0 i1 => ?_, fun i i0 i1 => ?_, fun i i0 i1 => ?_, ?_, fun g k h => ?_⟩
  · rw [zu_k _ _ _ (by decide), a7 _ _ (by omega), a6 _ _ (by omega), a5 _ _ (by omega), a4 _ _ (by omega), a3 _ _ (by omega), a2 _ _ (by omega), b1 i i0 i1]
  · rw [zu_k _ _ _ (by decide), a7 _ _ (by omega), a6 _ _ (by omega), a5 _ _ (by omega), a4 _ _ (by omega), a3 _ _ (by omega), b2 i i0 i1, a1 _ _ (by omega)]
  · rw [zu_k _ _ _ (by decide), a7 _ _ (by omega), a6 _ _ (by omega), a5 _ _ (by omega), a4 _ _ (by omega), b3 i i0 i1, a2 _ _ (by omega), a1 _ _ (by omega)]
  · rw [zu_k _ _ _ (by decide), a7 _ _ (by omega), a6 _ _ (by omega), a5 _ _ (by omega), b4 i i0 i1, a3 _ _ (by omega), a2 _ _ (by omega), a1 _ _ (by omega)]
  · rw [zu_k _ _ _ (by decide), a7 _ _ (by omega), a6 _ _ (by omega), b5 i i0 i1, a4 _ _ (by omega), a3 _ _ (by omega), a2 _ _ (by omega), a1 _ _ (by omega)]
  · rw [zu_k _ _ _ (by decide), a7 _ _ (by omega), b6 i i0 i1, a5 _ _ (by omega), a4 _ _ (by omega), a3 _ _ (by omega), a2 _ _ (by omega), a1 _ _ (by omega)]
  · rw [zu_k _ _ _ (by decide), b7 i i0 i1, a6 _ _ (by omega), a5 _ _ (by omega), a4 _ _ (by omega), a3 _ _ (by omega), a2 _ _ (by omega), a1 _ _ (by omega)]
  · rw [z_upd_same, s]
  · rcases h with h | h
    · rw [zu_g _ _ _ h, a7 _ _ (.inl h), a6 _ _ (.inl h), a5 _ _ (.inl h), a4 _ _ (.inl h), a3 _ _ (.inl h), a2 _ _ (.inl h), a1 _ _ (.inl h)]
    · rw [zu_k _ _ _ (by omega), a7 _ _ (by omega), a6 _ _ (by omega), a5 _ _ (by omega), a4 _ _ (by omega), a3 _ _ (by omega), a2 _ _ (by omega), a1 _ _ (by omega)]
/-- the same calendar within the rows' lengths -/
theorem CR.cg {c c' : Nat → Int → Int} {w : Int → Int} (h : CR c w) (hb : CB c) (h12 : ∀ i, 0 ≤ i → i < 8 → c' 12 i = c 12 i) (h13 : ∀ i, 0 ≤ i → i < 48 → c' 13 i = c 13 i) (h14 : ∀ i, 0 ≤ i → i < 48 → c' 14 i = c 14 i) (h15 : ∀ i, 0 ≤ i → i < 4 → c' 15 i = c 15 i)
    (h16 : ∀ i, 0 ≤ i → i < 28 → c' 16 i = c 16 i) (h17 : ∀ i, 0 ≤ i → i < 16 → c' 17 i = c 17 i) (h18 : ∀ i, 0 ≤ i → i < 16 → c' 18 i = c 18 i) (h11 : c' 11 7 = c 11 7) : CR c' w := by
  obtain ⟨⟨a1, a2, a3⟩, ⟨b1, b2⟩, c1, c2, c3, c4⟩ := h
  have n6 := hb.n6
  have n16 := hb.2.1
  refine ⟨⟨fun t t0 t1 => ?_, fun t k t0 t1 k0 k1 => ?_, fun t k t0 t1 k0 k1 => ?_⟩, ⟨fun s s0 s1 => ?_, fun d d0 d1 => ?_⟩, fun k k0 k1 => ?_, fun j k j0 j1 k1 => ?_, fun d d0 d1 d2 => ?_, ?_⟩
  · rw [h12 t t0 t1]
    exact a1 t t0 t1
  · rw [h12 t t0 t1] at k1
    have := n6 t t0 t1
    rw [h13 _ (by omega) (by omega), h14 _ (by omega) (by omega)]
    exact a2 t k t0 t1 k0 k1
  · rw [h12 t t0 t1] at k1
    have := n6 t t0 t1
    rw [h13 _ (by omega) (by omega), h13 _ (by omega) (by omega)]
    exact a3 t k t0 t1 k0 k1
  · rw [h15 s s0 s1]
    exact b1 s s0 s1
  · rw [h16 d d0 d1]
    exact b2 d d0 d1
  · rw [h11] at k1
    rw [h17 k k0 (by omega), h18 k k0 (by omega)]
    exact c1 k k0 k1
  · rw [h11] at k1
    rw [h17 j j0 (by omega), h17 k (by omega) (by omega)]
    exact c2 j k j0 j1 k1
  · obtain ⟨k, k0, k1, k2⟩ := c3 d d0 d1 d2
    exact ⟨k, k0, by rw [h11]; exact k1, by rw [h17 k k0 (by omega)]; exact k2⟩
  · rw [h11]
    exact c4
theorem mok_aside {m : zM} (h : z_mok lL m) : z_mok lL (z_cpy m 4 46 4 45 0 0 1619) := by
  refine z_mok_row h (g := 4) (k := 46) (t := 1) (N := 1619) rfl (fun hv i i0 i1 => ?_) (fun g' k' he => cpy_k m (by
    by_cases e : g' = 4
    · exact .inr (fun e2 => he (by rw [e, e2]))
    · exact .inl e))
  rw [cpy_in m (by omega), show i - 0 + 0 = i by omega]
  exact z_rgi h (show z_val lL 4 45 by unfold z_val; decide +kernel) rfl i0 i1
noncomputable def ldC (c : zM) : Int × zM := zb (f92_1 c) fun v07 m05 => zs (if v07 = (-1) then (m05) else (zs (f111_1 0 3 m05) fun m09 => if (m09 4 41 6) = 0 then (m09) else (zs (z_cpy m09 0 10 4 43 0 6 4) fun m14 => m14))) fun m17 => (v07, m17)
noncomputable def ldR (r : zM) : Int × zM := zs (z_cpy r 4 46 4 45 0 0 1619) fun m09 => zs (z_upd m09 4 44 9 0) fun m12 => zs (z_upd m12 4 44 8 0) fun m14 => zs (f262_1 m14) fun m16 => zs (f263_1 m16) fun m19 => fl260_55_1 (fun y22 m23 => zs (z_upd m23 4 44 5 0) fun m29 => if (m29 4 44 9) = 0 then ((y22, m29)) else (zs (z_cpy m29 4 45 4 46 0 0 1619) fun m33 => ((-1), m33))) (zfu 605) 0 m19
/-- nothing is told yet -/
theorem PS.first {c r c1 : zM} (h12 : ∀ i, 0 ≤ i → i < 8 → c1 3 12 i = 0) (h15 : ∀ i, 0 ≤ i → i < 4 → c1 3 15 i = (if i = 0 then 0 else -1)) (h16 : ∀ i, 0 ≤ i → i < 28 → c1 3 16 i = 0) (h11 : c1 3 11 7 = 0) (h9 : c1 4 41 9 = 0) (h10 : c1 4 41 10 = 0) (h6 : c1 4 41 6 = 0)
    (hb : CB (c 3)) (hk : ∀ k, k ≠ 12 → k ≠ 15 → k ≠ 16 → k ≠ 11 → c1 3 k = c 3 k) {r1 : zM} (e287 : ∀ i, 0 ≤ i → i < 8 → r1 4 45 (287 + i) = 0 ∧ r1 4 49 i = 0) (e391 : ∀ i, 0 ≤ i → i < 4 → r1 4 45 (391 + i) = (if i = 0 then 0 else -1) ∧ r1 4 50 i = 0) (e395 : ∀ i, 0 ≤ i → i < 28 → r1 4 45 (395 + i) = 0) (e423 : ∀ i, 0 ≤ i → i < 365 → r1 4 45 (423 + i) = -1)
    (e13 : r1 4 44 13 = 0) (e14 : r1 4 44 14 = 0) (e45 : ∀ i, (i < 287 ∨ 787 < i) → r1 4 45 i = r 4 45 i) : PS (r 4 45) c1 r1 := by
  have t0 : ∀ v : Int, 0 ≤ v → v < 8 → tbit 0 v = 0 := by
    intro v v0 v1
    obtain ⟨n, rfl⟩ : ∃ n : Nat, v = n := ⟨v.toNat, by omega⟩
    have : ∀ n : Nat, n < 8 → tbit 0 n = 0 := by decide +kernel
    exact this n (by omega)
  have sp0 : ∀ n : Nat, n ≤ 365 → spN (r1 4 45) n = 0 := by
    intro n
    induction n with
    | zero => exact fun _ => rfl
    | succ n ih =>
      intro hn
      unfold spN
      rw [ih (by omega), e423 n (by omega) (by omega)]
      rfl
  obtain ⟨b1, b2, b3, b4, b5, b6, b7, b8⟩ := hb
  unfold PS
  rw [h9, h10, h6, h11, e13, e14]
  refine ⟨by omega, by omega, fun v v0 v1 => ?_, fun v v0 v1 => ?_, ⟨rfl, .inl rfl⟩, fun e => absurd e (by decide), ⟨fun _ t t0 t1 => e45 _ (by omega), fun i i0 i1 => e45 _ (by omega)⟩, rfl, fun v v0 v1 _ => h12 v v0 v1, ⟨⟨fun t t0 t1 => ?_, fun t k t0 t1 k0 k1 => ?_, fun t k t0 t1 k0 k1 => ?_⟩, ⟨fun s s0 s1 => ?_, fun d d0 d1 => ?_⟩, fun k k0 k1 => ?_, fun j k j0 j1 k1 => ?_, fun d d0 d1 d2 => ?_, ?_⟩, ?_⟩
  · rw [t0 v v0 v1, (e287 v v0 v1).2]
  · rw [t0 v v0 (by omega), (e391 v v0 v1).2]
  · rw [h12 t t0 t1, (e287 t t0 t1).1]
  · rw [h12 t t0 t1] at k1
    omega
  · rw [h12 t t0 t1] at k1
    omega
  · rw [h15 s s0 s1, (e391 s s0 s1).1]
  · rw [h16 d d0 d1, e395 d d0 d1]
  · rw [h11] at k1
    omega
  · rw [h11] at k1
    omega
  · exact absurd (e423 d d0 d1) d2
  · rw [h11]
    exact sp0 365 (by omega)
  · unfold CB
    rw [h11, hk 13 (by decide) (by decide) (by decide) (by decide), hk 14 (by decide) (by decide) (by decide) (by decide), hk 17 (by decide) (by decide) (by decide) (by decide), hk 18 (by decide) (by decide) (by decide) (by decide)]
    refine ⟨fun t t0 t1 => ?_, by omega, b3, b4, b5, b6, fun s s0 s1 => ?_, fun d d0 d1 => ?_⟩
    · rw [h12 t t0 t1]
      omega
    · rw [h15 s s0 s1]
      split <;> omega
    · rw [h16 d d0 d1]
      omega
theorem load_open {c r : zM} {B : Int} (hkc : z_mok lL c) (hJc : JB B c) (hk : z_mok lL r) (hJ : JB B r) (hB : B + 0 ≤ 1000000000) (ht : c 4 41 3 = r 4 44 5) (hy : ∀ i : Int, 0 ≤ i → i < c 4 41 3 → tE (c 4 42 i) (r 4 48 i)) (h6 : r 4 44 6 = 0) (h7 : r 4 44 7 = -1) :
    ∃ v c' r', ldC c = (v, c') ∧ ldR r = (v, r') ∧ c' 4 41 3 = 0 ∧ r' 4 44 5 = 0 ∧ c' 4 41 4 = r' 4 44 6 ∧ c' 4 41 5 = r' 4 44 7 ∧
      ((v = -1 ∧ (∀ k i, c' 0 k i = c 0 k i) ∧ (∀ i, 0 ≤ i → i ≤ 1618 → r' 4 45 i = r 4 45 i)) ∨
       (0 ≤ v ∧ CR (c' 0) (r' 4 45) ∧ ((∀ t, 0 ≤ t → t < 4 → c 0 10 (6 + t) = r 4 45 (28 + t)) → ∀ t, 0 ≤ t → t < 4 → c' 0 10 (6 + t) = r' 4 45 (28 + t)) ∧ (∀ i : Int, (i < 28 ∨ 31 < i) → (i < 287 ∨ 787 < i) → r' 4 45 i = r 4 45 i) ∧
         (∀ k i, (k < 10 ∨ 18 < k) → c' 0 k i = c 0 k i) ∧ (∀ i, (i < 6 ∨ 9 < i) → c' 0 10 i = c 0 10 i))) := by
  have hl : 0 ≤ c 4 41 3 ∧ c 4 41 3 ≤ 300 := r41_3 hJc.o 4
  obtain ⟨c1, a0, a12, a15, a16, a11, ag, ak⟩ := clr_cls c
  have hq := (q92_1 hkc hJc hB).2.1
  have g0 : ∀ k i, (f92_1 c).2 0 k i = c 0 k i := fun k i => hq.eqg (by simp [zQ])
  obtain ⟨cs, ecs⟩ : ∃ x, x = z_upd (z_upd (z_upd (z_upd (z_upd (z_upd c1 4 41 4 0) 4 41 5 (-1)) 4 41 6 0) 4 41 7 0) 4 41 9 0) 4 41 10 0 := ⟨_, rfl⟩
  have cs3 : cs 3 = c1 3 := by rw [ecs, zu_g _ _ _ (by decide), zu_g _ _ _ (by decide), zu_g _ _ _ (by decide), zu_g _ _ _ (by decide), zu_g _ _ _ (by decide), zu_g _ _ _ (by decide)]
  have cs42 : cs 4 42 = c 4 42 := by rw [ecs, zu_k _ _ _ (by decide), zu_k _ _ _ (by decide), zu_k _ _ _ (by decide), zu_k _ _ _ (by decide), zu_k _ _ _ (by decide), zu_k _ _ _ (by decide), ag 4 (by decide)]
  have s3 : cs 4 41 3 = c 4 41 3 := by rw [ecs, z_upd_o _ _ rfl, z_upd_o _ _ rfl, z_upd_o _ _ rfl, z_upd_o _ _ rfl, z_upd_o _ _ rfl, z_upd_o _ _ rfl, ag 4 (by decide)]
  have s4 : cs 4 41 4 = 0 := by rw [ecs, z_upd_o _ _ rfl, z_upd_o _ _ rfl, z_upd_o _ _ rfl, z_upd_o _ _ rfl, z_upd_o _ _ rfl, z_upd_same]
  have s5 : cs 4 41 5 = -1 := by rw [ecs, z_upd_o _ _ rfl, z_upd_o _ _ rfl, z_upd_o _ _ rfl, z_upd_o _ _ rfl, z_upd_same]
  have s6 : cs 4 41 6 = 0 := by rw [ecs, z_upd_o _ _ rfl, z_upd_o _ _ rfl, z_upd_o _ _ rfl, z_upd_same]
  have s7 : cs 4 41 7 = 0 := by rw [ecs, z_upd_o _ _ rfl, z_upd_o _ _ rfl, z_upd_same]
  have s9 : cs 4 41 9 = 0 := by rw [ecs, z_upd_o _ _ rfl, z_upd_same]
  have s10 : cs 4 41 10 = 0 := by rw [ecs, z_upd_same]
  -- the reference
  obtain ⟨r1, er1⟩ : ∃ x, x = z_cpy r 4 46 4 45 0 0 1619 := ⟨_, rfl⟩
  obtain ⟨r2, er2⟩ : ∃ x, x = z_upd r1 4 44 9 0 := ⟨_, rfl⟩
  obtain ⟨r3, er3⟩ : ∃ x, x = z_upd r2 4 44 8 0 := ⟨_, rfl⟩
  have k1 : z_mok lL r1 := by rw [er1]; exact mok_aside hk
  have k2 : z_mok lL r2 := by rw [er2]; exact mok_put k1 (fj := 9) rfl rfl rfl (by show (-2147483648 : Int) ≤ 0 ∧ (0 : Int) ≤ 2147483647; omega) (fun _ => .inl rfl)
  have k3 : z_mok lL r3 := by rw [er3]; exact mok_put k2 (fj := 8) rfl rfl rfl (by show (-2147483648 : Int) ≤ 0 ∧ (0 : Int) ≤ 2147483647; omega) (fun _ => .inl rfl)
  have j0 : J (zQ [38, 39] [4]) r B r := hJ.j
  have j1 : J (zQ [38, 39] [4]) r B r1 := by
    rw [er1]
    exact j0.cp rfl (jq_of rfl) (by decide) (fun k _ => ⟨fun _ h => h, fun _ h => h⟩) (fun i hi h => h (by rw [ja46 (by omega)]; simp)) (fun h => h (by simp))
  have j2 : J (zQ [38, 39] [4]) r B r2 := w44_9 j1 er2 (by omega) (zQ_n rfl) (zQ_g (by simp))
  have j3 : J (zQ [38, 39] [4]) r B r3 := w44_8 j2 er3 (by omega) (zQ_n rfl) (zQ_g (by simp))
  have r3o : ∀ k, k ≠ 44 → k ≠ 46 → r3 4 k = r 4 k := fun k h1 h2 => by rw [er3, zu_k _ _ _ h1, er2, zu_k _ _ _ h1, er1, cpy_k _ (.inr h2)]
  have r3v : ∀ i, i ≠ 8 → i ≠ 9 → r3 4 44 i = r 4 44 i := fun i h1 h2 => by rw [er3, z_upd_i _ _ _ _ h1, er2, z_upd_i _ _ _ _ h2, er1, cpy_k _ (.inr (by decide))]
  have r346 : ∀ i, 0 ≤ i → i ≤ 1618 → r3 4 46 i = r 4 45 i := fun i i0 i1 => by rw [er3, zu_k _ _ _ (by decide), er2, zu_k _ _ _ (by decide), er1, cpy_in _ (by omega), show i - 0 + 0 = i by omega]
  have r38 : r3 4 44 8 = 0 := by rw [er3, z_upd_same]
  have r39 : r3 4 44 9 = 0 := by rw [er3, z_upd_o _ _ rfl, er2, z_upd_same]
  obtain ⟨k4, j4⟩ := q262_1 k3 j3.jb hB
  obtain ⟨r4, b0, b287, b391, b395, b423, b13, b14, b45, bk, b44⟩ := clr_ref r3
  rw [b0] at k4 j4
  obtain ⟨k5, j5, _, _⟩ := q263_1 k4 j4.jb hB
  have hN : N0 cs r4 := by
    refine ⟨⟨?_, ?_, fun i i0 i1 => ?_, ?_, ?_, ?_⟩, s4, s5, ?_, ?_, ?_⟩
    · rw [s3, ht, b44 _ (by decide) (by decide), r3v _ (by decide) (by decide)]
    · rw [s3]
      omega
    · rw [s3] at i1
      rw [cs42, bk _ (by decide) (by decide) (by decide) (by decide), r3o _ (by decide) (by decide)]
      exact hy i i0 i1
    · omega
    · omega
    · rw [s7, b44 _ (by decide) (by decide), r38]
    · rw [b44 _ (by decide) (by decide), r39]
    · rw [b44 _ (by decide) (by decide), r3v _ (by decide) (by decide), h6]
    · rw [b44 _ (by decide) (by decide), r3v _ (by decide) (by decide), h7]
  have hP : PS (r 4 45) cs r4 := PS.first (c := c) (by rw [cs3]; exact a12) (by rw [cs3]; exact a15) (by rw [cs3]; exact a16) (by rw [cs3]; exact a11) s9 s10 s6 (CB.of hJc 3) (by rw [cs3]; exact ak) b287 b391 b395 b423 b13 b14 (fun i hi => by rw [b45 i hi, r3o _ (by decide) (by decide)])
  obtain ⟨l1, l2, l3, l4⟩ := bl_eq hN.1
  obtain ⟨y', y2', c', r', z1, z2, z3, z4, z5, z6⟩ := text_loop (p0 := r 4 45) (kC := fun y19 m20 => zs (z_upd m20 4 41 3 0) fun m24 => if (m24 4 41 4) = 0 then ((y19, m24)) else (((-1), m24)))
    (kR := fun y22 m23 => zs (z_upd m23 4 44 5 0) fun m29 => if (m29 4 44 9) = 0 then ((y22, m29)) else (zs (z_cpy m29 4 45 4 46 0 0 1619) fun m33 => ((-1), m33))) (zfu 302) (zfu 605) 0 0 (f93_1 cs) (f263_1 r4) B k5 j5.jb hB hN.bl (hP.pres l2.ec l3.er) (Int.le_refl _) (by omega) (by rw [zfu_eq]; omega) (by rw [zfu_eq]; omega)
  have e92 : f92_1 c = fl92_45_1 (fun y19 m20 => zs (z_upd m20 4 41 3 0) fun m24 => if (m24 4 41 4) = 0 then ((y19, m24)) else (((-1), m24))) (zfu 302) 0 0 (f93_1 cs) := by
    unfold f92_1
    simp only [zs]
    rw [a0, ← ecs]
  have e260 : ldR r = fl260_55_1 (fun y22 m23 => zs (z_upd m23 4 44 5 0) fun m29 => if (m29 4 44 9) = 0 then ((y22, m29)) else (zs (z_cpy m29 4 45 4 46 0 0 1619) fun m33 => ((-1), m33))) (zfu 605) 0 (f263_1 r4) := by
    unfold ldR
    simp only [zs]
    rw [← er1, ← er2, ← er3, b0]
  rw [e260, z2]
  rw [z1] at e92
  simp only [zs] at e92 ⊢
  unfold ldC
  have u3 : ∀ x i, i ≠ 3 → z_upd c' 4 41 3 x 4 41 i = c' 4 41 i := fun x i h => z_upd_i _ _ _ _ h
  have w5 : ∀ x i, i ≠ 5 → z_upd r' 4 44 5 x 4 44 i = r' 4 44 i := fun x i h => z_upd_i _ _ _ _ h
  rw [u3 _ _ (by decide)] at e92
  rw [w5 _ _ (by decide)]
  rcases z6 with ⟨v1, v2, v3, v4⟩ | v1
  · subst v1
    rw [if_pos v3.2.1] at e92
    rw [if_pos v3.2.2.2.1]
    rw [e92] at g0
    dsimp only at g0
    rw [zb_eq e92]
    simp only [zs]
    rw [if_neg (by omega)]
    obtain ⟨m9, d0, d12, d13, d14, d15, d16, d17, d18, d11, dk⟩ := copy_eq (z_upd c' 4 41 3 0) (show (0 : Nat) ≠ 3 by decide)
    rw [d0]
    have m94 : m9 4 = z_upd c' 4 41 3 0 4 := by funext k; exact dk 4 k (.inl (by decide))
    have hcr : CR (m9 0) (r' 4 45) := by
      refine v4.2.2.2.2.2.2.2.2.2.1.cg v4.2.2.2.2.2.2.2.2.2.2 (fun i i0 i1 => ?_) (fun i i0 i1 => ?_) (fun i i0 i1 => ?_) (fun i i0 i1 => ?_) (fun i i0 i1 => ?_) (fun i i0 i1 => ?_) (fun i i0 i1 => ?_) ?_
      · rw [d12 i i0 i1, zu_g _ _ _ (by decide)]
      · rw [d13 i i0 i1, zu_g _ _ _ (by decide)]
      · rw [d14 i i0 i1, zu_g _ _ _ (by decide)]
      · rw [d15 i i0 i1, zu_g _ _ _ (by decide)]
      · rw [d16 i i0 i1, zu_g _ _ _ (by decide)]
      · rw [d17 i i0 i1, zu_g _ _ _ (by decide)]
      · rw [d18 i i0 i1, zu_g _ _ _ (by decide)]
      · rw [d11, zu_g _ _ _ (by decide)]
    have w45 : z_upd r' 4 44 5 0 4 45 = r' 4 45 := zu_k _ _ _ (by decide)
    obtain ⟨q1, q2, q3, q4, q5, q6, q7, q8, q9, q10, q11⟩ := v4
    have k0 : ∀ k i, (k < 11 ∨ 18 < k) → m9 0 k i = c 0 k i := fun k i hk => by rw [dk 0 k (.inr hk)]; exact g0 k i
    have e6 : m9 4 41 6 = c' 4 41 6 := by rw [m94, u3 _ _ (by decide)]
    by_cases c6 : c' 4 41 6 = 0
    · rw [if_pos (by rw [e6]; exact c6)]
      refine ⟨y', m9, _, rfl, rfl, ?_, z_upd_same _ _ _ _ _, ?_, ?_, .inr ⟨by omega, by rw [w45]; exact hcr, fun hpr t t0 t1 => ?_, fun i i0 i1 => by rw [w45]; exact q7.2 i i0 i1, fun k i hk => k0 k i (by omega), fun i _ => k0 10 i (by omega)⟩⟩
      · rw [m94, z_upd_same]
      · rw [m94, u3 _ _ (by decide), w5 _ _ (by decide), v3.2.1, v3.2.2.2.2.1]
      · rw [m94, u3 _ _ (by decide), w5 _ _ (by decide), v3.2.2.1, v3.2.2.2.2.2]
      · rw [w45, q7.1 c6 t t0 t1, k0 10 _ (by omega)]
        exact hpr t t0 t1
    · rw [if_neg (by rw [e6]; exact c6)]
      have n4 : ∀ k i, z_cpy m9 0 10 4 43 0 6 4 4 k i = m9 4 k i := fun k i => by rw [cpy_k _ (.inl (by decide))]
      have n0 : ∀ k, k ≠ 10 → z_cpy m9 0 10 4 43 0 6 4 0 k = m9 0 k := fun k hk => cpy_k _ (.inr hk)
      refine ⟨y', _, _, rfl, rfl, ?_, z_upd_same _ _ _ _ _, ?_, ?_, .inr ⟨by omega, ?_, fun hpr t t0 t1 => ?_, fun i i0 i1 => by rw [w45]; exact q7.2 i i0 i1, fun k i hk => by rw [n0 k (by omega)]; exact k0 k i (by omega), fun i hi => by rw [cpy_out _ (by omega)]; exact k0 10 i (by omega)⟩⟩
      · rw [n4, m94, z_upd_same]
      · rw [n4, m94, u3 _ _ (by decide), w5 _ _ (by decide), v3.2.1, v3.2.2.2.2.1]
      · rw [n4, m94, u3 _ _ (by decide), w5 _ _ (by decide), v3.2.2.1, v3.2.2.2.2.2]
      · rw [w45]
        exact hcr.c (by rw [n0 _ (by decide)]) (n0 _ (by decide)) (n0 _ (by decide)) (n0 _ (by decide)) (n0 _ (by decide)) (n0 _ (by decide)) (n0 _ (by decide)) (n0 _ (by decide))
      · rw [w45, cpy_in _ (by omega), show 6 + t - 6 + 0 = t by omega, m94, zu_k _ _ _ (by decide)]
        exact q6 (by omega) t t0 t1
  · rw [if_neg v1.2.2.2.1] at e92
    rw [if_neg (by rw [v1.2.1]; decide)]
    rw [e92] at g0
    dsimp only at g0
    rw [zb_eq e92]
    simp only [zs]
    rw [if_pos trivial]
    refine ⟨_, _, _, rfl, rfl, z_upd_same _ _ _ _ _, ?_, ?_, ?_, .inl ⟨rfl, g0, fun i i0 i1 => ?_⟩⟩
    · rw [cpy_k _ (.inr (by decide)), z_upd_same]
    · rw [cpy_k _ (.inr (by decide)), u3 _ _ (by decide), w5 _ _ (by decide)]
      exact v1.2.2.1
    · rw [cpy_k _ (.inr (by decide)), u3 _ _ (by decide), w5 _ _ (by decide)]
      exact v1.2.2.2.2
    · rw [cpy_in _ (by omega), show i - 0 + 0 = i by omega, zu_k _ _ _ (by decide), z5 i i0 i1, l3 _ _ _ (by omega), bk _ (by decide) (by decide) (by decide) (by decide), r346 i i0 i1]
