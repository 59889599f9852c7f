/-! The calendar's text: the whole of it. -/
theorem cpy_k (m : zM) {g1 k1 g0 k0 g k : Nat} {sp dp n : Int} (h : g ≠ g1 ∨ k ≠ k1) : z_cpy m g1 k1 g0 k0 sp dp n g k = m g k := by
  funext i
  unfold z_cpy
  rw [if_neg (by omega)]
theorem cpy_in (m : zM) {g1 k1 g0 k0 : Nat} {sp dp n i : Int} (h : dp ≤ i ∧ i < dp + n) : z_cpy m g1 k1 g0 k0 sp dp n g1 k1 i = m g0 k0 (i - dp + sp) := by
  unfold z_cpy
  rw [if_pos ⟨rfl, rfl, h.1, h.2⟩]
theorem cpy_out (m : zM) {g1 k1 g0 k0 : Nat} {sp dp n i : Int} (h : ¬ (dp ≤ i ∧ i < dp + n)) : z_cpy m g1 k1 g0 k0 sp dp n g1 k1 i = m g1 k1 i := by
  unfold z_cpy
  rw [if_neg (fun e => h ⟨e.2.2.1, e.2.2.2⟩)]
theorem copy_row {m m' : zM} {g1 k1 g0 : Nat} {n : Int} (h : m' = z_cpy m g1 k1 g0 k1 0 0 n) : (∀ g k, (g ≠ g1 ∨ k ≠ k1) → m' g k = m g k) ∧ ∀ i, 0 ≤ i → i < n → m' g1 k1 i = m g0 k1 i := by
  subst h
  refine ⟨fun g k h => cpy_k m h, fun i i0 i1 => ?_⟩
  rw [cpy_in m (by omega), show i - 0 + 0 = i by omega]
/-- a calendar is copied -/
theorem copy_eq (m : zM) {g0 g1 : Nat} (hg : g0 ≠ g1) : ∃ m', f111_1 g0 g1 m = m' ∧ (∀ i, 0 ≤ i → i < 8 → m' g0 12 i = m g1 12 i) ∧ (∀ i, 0 ≤ i → i < 48 → m' g0 13 i = m g1 13 i) ∧ (∀ i, 0 ≤ i → i < 48 → m' g0 14 i = m g1 14 i) ∧ (∀ i, 0 ≤ i → i < 4 → m' g0 15 i = m g1 15 i) ∧
    (∀ i, 0 ≤ i → i < 28 → m' g0 16 i = m g1 16 i) ∧ (∀ i, 0 ≤ i → i < 16 → m' g0 17 i = m g1 17 i) ∧ (∀ i, 0 ≤ i → i < 16 → m' g0 18 i = m g1 18 i) ∧ m' g0 11 7 = m g1 11 7 ∧ (∀ g k, (g ≠ g0 ∨ k < 11 ∨ 18 < k) → m' g k = m g k) := by
  unfold f111_1
  simp only [zs]
  obtain ⟨m1, e1⟩ : ∃ x, x = z_cpy m g0 12 g1 12 0 0 8 := ⟨_, rfl⟩
  rw [← e1]
  obtain ⟨m2, e2⟩ : ∃ x, x = z_cpy m1 g0 13 g1 13 0 0 48 := ⟨_, rfl⟩
  rw [← e2]
  obtain ⟨m3, e3⟩ : ∃ x, x = z_cpy m2 g0 14 g1 14 0 0 48 := ⟨_, rfl⟩
  rw [← e3]
  obtain ⟨m4, e4⟩ : ∃ x, x = z_cpy m3 g0 15 g1 15 0 0 4 := ⟨_, rfl⟩
  rw [← e4]
  obtain ⟨m5, e5⟩ : ∃ x, x = z_cpy m4 g0 16 g1 16 0 0 28 := ⟨_, rfl⟩
  rw [← e5]
  obtain ⟨m6, e6⟩ : ∃ x, x = z_cpy m5 g0 17 g1 17 0 0 16 := ⟨_, rfl⟩
  rw [← e6]
  obtain ⟨m7, e7⟩ : ∃ x, x = z_cpy m6 g0 18 g1 18 0 0 16 := ⟨_, rfl⟩
  rw [← e7]
  obtain ⟨a1, b1⟩ := copy_row e1
  obtain ⟨a2, b2⟩ := copy_row e2
  obtain ⟨a3, b3⟩ := copy_row e3
  obtain ⟨a4, b4⟩ := copy_row e4
  obtain ⟨a5, b5⟩ := copy_row e5
  obtain ⟨a6, b6⟩ := copy_row e6
  obtain ⟨a7, b7⟩ := copy_row e7
  have s : ∀ k, m7 g1 k = m g1 k := fun k => by
    rw [a7 _ _ (.inl hg.symm), a6 _ _ (.inl hg.symm), a5 _ _ (.inl hg.symm), a4 _ _ (.inl hg.symm), a3 _ _ (.inl hg.symm), a2 _ _ (.inl hg.symm), a1 _ _ (.inl hg.symm)]
  refine ⟨_, rfl, fun i i0 i1 => ?_, fun i i0 i1 => ?_, fun i i0 i1 => ?_, fun i i0 i1 => ?_, fun i i0 i1 => ?_, fun i i0 i1 => ?_, fun i i0 i1 => ?_, ?_, fun g k h => ?_⟩
  · rw [zu_k _ _ _ (by decide), a7 _ _ (by omega), a6 _ _ (by omega), a5 _ _ (by omega), a4 _ _ (by omega), a3 _ _ (by omega), a2 _ _ (by omega), b1 i i0 i1]
  · rw [zu_k _ _ _ (by decide), a7 _ _ (by omega), a6 _ _ (by omega), a5 _ _ (by omega), a4 _ _ (by omega), a3 _ _ (by omega), b2 i i0 i1, a1 _ _ (by omega)]
  · rw [zu_k _ _ _ (by decide), a7 _ _ (by omega), a6 _ _ (by omega), a5 _ _ (by omega), a4 _ _ (by omega), b3 i i0 i1, a2 _ _ (by omega), a1 _ _ (by omega)]
  · rw [zu_k _ _ _ (by decide), a7 _ _ (by omega), a6 _ _ (by omega), a5 _ _ (by omega), b4 i i0 i1, a3 _ _ (by omega), a2 _ _ (by omega), a1 _ _ (by omega)]
  · rw [zu_k _ _ _ (by decide), a7 _ _ (by omega), a6 _ _ (by omega), b5 i i0 i1, a4 _ _ (by omega), a3 _ _ (by omega), a2 _ _ (by omega), a1 _ _ (by omega)]
  · rw [zu_k _ _ _ (by decide), a7 _ _ (by omega), b6 i i0 i1, a5 _ _ (by omega), a4 _ _ (by omega), a3 _ _ (by omega), a2 _ _ (by omega), a1 _ _ (by omega)]
  · rw [zu_k _ _ _ (by decide), b7 i i0 i1, a6 _ _ (by omega), a5 _ _ (by omega), a4 _ _ (by omega), a3 _ _ (by omega), a2 _ _ (by omega), a1 _ _ (by omega)]
  · rw [z_upd_same, s]
  · rcases h with h | h
    · rw [zu_g _ _ _ h, a7 _ _ (.inl h), a6 _ _ (.inl h), a5 _ _ (.inl h), a4 _ _ (.inl h), a3 _ _ (.inl h), a2 _ _ (.inl h), a1 _ _ (.inl h)]
    · rw [zu_k _ _ _ (by omega), a7 _ _ (by omega), a6 _ _ (by omega), a5 _ _ (by omega), a4 _ _ (by omega), a3 _ _ (by omega), a2 _ _ (by omega), a1 _ _ (by omega)]
/-- the same calendar within the rows' lengths -/
theorem CR.cg {c c' : Nat → Int → Int} {w : Int → Int} (h : CR c w) (hb : CB c) (h12 : ∀ i, 0 ≤ i → i < 8 → c' 12 i = c 12 i) (h13 : ∀ i, 0 ≤ i → i < 48 → c' 13 i = c 13 i) (h14 : ∀ i, 0 ≤ i → i < 48 → c' 14 i = c 14 i) (h15 : ∀ i, 0 ≤ i → i < 4 → c' 15 i = c 15 i)
    (h16 : ∀ i, 0 ≤ i → i < 28 → c' 16 i = c 16 i) (h17 : ∀ i, 0 ≤ i → i < 16 → c' 17 i = c 17 i) (h18 : ∀ i, 0 ≤ i → i < 16 → c' 18 i = c 18 i) (h11 : c' 11 7 = c 11 7) : CR c' w := by
  obtain ⟨⟨a1, a2, a3⟩, ⟨b1, b2⟩, c1, c2, c3, c4⟩ := h
  have n6 := hb.n6
  have n16 := hb.2.1
  refine ⟨⟨fun t t0 t1 => ?_, fun t k t0 t1 k0 k1 => ?_, fun t k t0 t1 k0 k1 => ?_⟩, ⟨fun s s0 s1 => ?_, fun d d0 d1 => ?_⟩, fun k k0 k1 => ?_, fun j k j0 j1 k1 => ?_, fun d d0 d1 d2 => ?_, ?_⟩
  · rw [h12 t t0 t1]
    exact a1 t t0 t1
  · rw [h12 t t0 t1] at k1
    have := n6 t t0 t1
    rw [h13 _ (by omega) (by omega), h14 _ (by omega) (by omega)]
    exact a2 t k t0 t1 k0 k1
  · rw [h12 t t0 t1] at k1
    have := n6 t t0 t1
    rw [h13 _ (by omega) (by omega), h13 _ (by omega) (by omega)]
    exact a3 t k t0 t1 k0 k1
  · rw [h15 s s0 s1]
    exact b1 s s0 s1
  · rw [h16 d d0 d1]
    exact b2 d d0 d1
  · rw [h11] at k1
    rw [h17 k k0 (by omega), h18 k k0 (by omega)]
    exact c1 k k0 k1
  · rw [h11] at k1
    rw [h17 j j0 (by omega), h17 k (by omega) (by omega)]
    exact c2 j k j0 j1 k1
  · obtain ⟨k, k0, k1, k2⟩ := c3 d d0 d1 d2
    exact ⟨k, k0, by rw [h11]; exact k1, by rw [h17 k k0 (by omega)]; exact k2⟩
  · rw [h11]
    exact c4
theorem mok_put {L : zL} {g k fj ci : Nat} {fs : List zF} {t : Nat} {x fz : Int} {m : zM} (h : z_mok L m) (hk : L.1 k = some (.inl (ci, fs))) (hf : fs[fj]? = some (.inl t)) (hz : fz = (fj : Int)) (hok : z_ok L (z_fv (.inl t) g x)) (hb : x = 0 ∨ x = 1) : z_mok L (z_upd m g k fz x) := by
  subst hz
  intro g' k' hv'
  by_cases he : (g', k') = (g, k)
  · obtain ⟨rfl, rfl⟩ := Prod.mk.inj he
    have hm := h g' k' hv'
    unfold z_ck at hm ⊢
    rw [hk] at hm ⊢
    intro j' d' hd'
    by_cases hj : j' = fj
    · subst hj
      have hdd : d' = .inl t := Option.some.inj (hd'.symm.trans hf)
      subst hdd
      rw [z_upd_same]
      exact ⟨hok, fun _ => hb⟩
    · rw [z_upd_i _ _ _ _ (by omega)]
      exact hm j' d' hd'
  · rw [z_upd_k _ _ _ he]
    exact h g' k' hv'
theorem mok_aside {m : zM} (h : z_mok lL m) : z_mok lL (z_cpy m 4 46 4 45 0 0 1619) := by
  refine z_mok_row h (g := 4) (k := 46) (t := 1) (N := 1619) rfl (fun hv i i0 i1 => ?_) (fun g' k' he => cpy_k m (by
    by_cases e : g' = 4
    · exact .inr (fun e2 => he (by rw [e, e2]))
    · exact .inl e))
  rw [cpy_in m (by omega), show i - 0 + 0 = i by omega]
  exact z_rgi h (show z_val lL 4 45 by unfold z_val; decide +kernel) rfl i0 i1
noncomputable def ldC (c : zM) : Int × zM := zb (f92_1 c) fun v07 m05 => zs (if v07 = (-1) then (m05) else (zs (f111_1 0 3 m05) fun m09 => if (m09 4 41 6) = 0 then (m09) else (zs (z_cpy m09 0 10 4 43 0 6 4) fun m14 => m14))) fun m17 => (v07, m17)
noncomputable def ldR (r : zM) : Int × zM := zs (z_cpy r 4 46 4 45 0 0 1619) fun m09 => zs (z_upd m09 4 44 9 0) fun m12 => zs (z_upd m12 4 44 8 0) fun m14 => zs (f262_1 m14) fun m16 => zs (f263_1 m16) fun m19 => fl260_55_1 (fun y22 m23 => zs (z_upd m23 4 44 5 0) fun m29 => if (m29 4 44 9) = 0 then ((y22, m29)) else (zs (z_cpy m29 4 45 4 46 0 0 1619) fun m33 => ((-1), m33))) (zfu 605) 0 m19
/-- nothing is told yet -/
theorem PS.first {c r c1 : zM} (h12 : ∀ i, 0 ≤ i → i < 8 → c1 3 12 i = 0) (h15 : ∀ i, 0 ≤ i → i < 4 → c1 3 15 i = (if i = 0 then 0 else -1)) (h16 : ∀ i, 0 ≤ i → i < 28 → c1 3 16 i = 0) (h11 : c1 3 11 7 = 0) (h9 : c1 4 41 9 = 0) (h10 : c1 4 41 10 = 0) (h6 : c1 4 41 6 = 0)
    (hb : CB (c 3)) (hk : ∀ k, k ≠ 12 → k ≠ 15 → k ≠ 16 → k ≠ 11 → c1 3 k = c 3 k) {r1 : zM} (e287 : ∀ i, 0 ≤ i → i < 8 → r1 4 45 (287 + i) = 0 ∧ r1 4 49 i = 0) (e391 : ∀ i, 0 ≤ i → i < 4 → r1 4 45 (391 + i) = (if i = 0 then 0 else -1) ∧ r1 4 50 i = 0) (e395 : ∀ i, 0 ≤ i → i < 28 → r1 4 45 (395 + i) = 0) (e423 : ∀ i, 0 ≤ i → i < 365 → r1 4 45 (423 + i) = -1)
    (e13 : r1 4 44 13 = 0) (e14 : r1 4 44 14 = 0) (e45 : ∀ i, (i < 287 ∨ 787 < i) → r1 4 45 i = r 4 45 i) : PS (r 4 45) c1 r1 := by
  have t0 : ∀ v : Int, 0 ≤ v → v < 8 → tbit 0 v = 0 := by
    intro v v0 v1
    obtain ⟨n, rfl⟩ : ∃ n : Nat, v = n := ⟨v.toNat, by omega⟩
    have : ∀ n : Nat, n < 8 → tbit 0 n = 0 := by decide +kernel
    exact this n (by omega)
  have sp0 : ∀ n : Nat, n ≤ 365 → spN (r1 4 45) n = 0 := by
    intro n
    induction n with
    | zero => exact fun _ => rfl
    | succ n ih =>
      intro hn
      unfold spN
      rw [ih (by omega), e423 n (by omega) (by omega)]
      rfl
  obtain ⟨b1, b2, b3, b4, b5, b6, b7, b8⟩ := hb
  unfold PS
  rw [h9, h10, h6, h11, e13, e14]
  refine ⟨by omega, by omega, fun v v0 v1 => ?_, fun v v0 v1 => ?_, ⟨rfl, .inl rfl⟩, fun e => absurd e (by decide), ⟨fun _ t t0 t1 => e45 _ (by omega), fun i i0 i1 => e45 _ (by omega)⟩, rfl, fun v v0 v1 _ => h12 v v0 v1, ⟨⟨fun t t0 t1 => ?_, fun t k t0 t1 k0 k1 => ?_, fun t k t0 t1 k0 k1 => ?_⟩, ⟨fun s s0 s1 => ?_, fun d d0 d1 => ?_⟩, fun k k0 k1 => ?_, fun j k j0 j1 k1 => ?_, fun d d0 d1 d2 => ?_, ?_⟩, ?_⟩
  · rw [t0 v v0 v1, (e287 v v0 v1).2]
  · rw [t0 v v0 (by omega), (e391 v v0 v1).2]
  · rw [h12 t t0 t1, (e287 t t0 t1).1]
  · rw [h12 t t0 t1] at k1
    omega
  · rw [h12 t t0 t1] at k1
    omega
  · rw [h15 s s0 s1, (e391 s s0 s1).1]
  · rw [h16 d d0 d1, e395 d d0 d1]
  · rw [h11] at k1
    omega
  · rw [h11] at k1
    omega
  · exact absurd (e423 d d0 d1) d2
  · rw [h11]
    exact sp0 365 (by omega)
  · unfold CB
    rw [h11, hk 13 (by decide) (by decide) (by decide) (by decide), hk 14 (by decide) (by decide) (by decide) (by decide), hk 17 (by decide) (by decide) (by decide) (by decide), hk 18 (by decide) (by decide) (by decide) (by decide)]
    refine ⟨fun t t0 t1 => ?_, by omega, b3, b4, b5, b6, fun s s0 s1 => ?_, fun d d0 d1 => ?_⟩
    · rw [h12 t t0 t1]
      omega
    · rw [h15 s s0 s1]
      split <;> omega
    · rw [h16 d d0 d1]
      omega
theorem load_open {c r : zM} {B : Int} (hk : z_mok lL r) (hJ : JB B r) (hB : B + 0 ≤ 1000000000) (hb : CB (c 3)) (ht : c 4 41 3 = r 4 44 5) (hl : 0 ≤ c 4 41 3 ∧ c 4 41 3 ≤ 300) (hy : ∀ i : Int, 0 ≤ i → i < c 4 41 3 → tE (c 4 42 i) (r 4 48 i)) (h6 : r 4 44 6 = 0) (h7 : r 4 44 7 = -1) :
    ∃ v c' r', ldC c = (v, c') ∧ ldR r = (v, r') ∧ c' 4 41 3 = 0 ∧ r' 4 44 5 = 0 ∧ c' 4 41 4 = r' 4 44 6 ∧ c' 4 41 5 = r' 4 44 7 ∧
      ((v = -1 ∧ (∀ i, 0 ≤ i → i ≤ 1618 → r' 4 45 i = r 4 45 i)) ∨
       (0 ≤ v ∧ CR (c' 0) (r' 4 45) ∧ ((∀ t, 0 ≤ t → t < 4 → c 0 10 (6 + t) = r 4 45 (28 + t)) → ∀ t, 0 ≤ t → t < 4 → c' 0 10 (6 + t) = r' 4 45 (28 + t)) ∧ (∀ i : Int, (i < 28 ∨ 31 < i) → (i < 287 ∨ 787 < i) → r' 4 45 i = r 4 45 i))) := by
  sorry
