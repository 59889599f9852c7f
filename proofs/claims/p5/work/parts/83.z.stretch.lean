/-! A stretch is as many seconds of the reference. -/
noncomputable def fN : Nat → zM → zM
  | 0, r => r
  | n + 1, r => f208_1 (fN n r)
theorem fN_add (r : zM) : ∀ a b : Nat, fN (b + a) r = fN b (fN a r)
  | a, 0 => by rw [Nat.zero_add]; rfl
  | a, b + 1 => by
    show fN (b + 1 + a) r = f208_1 (fN b (fN a r))
    rw [← fN_add r a b, show b + 1 + a = (b + a) + 1 by omega]
    rfl
theorem sec_row {B : Int} {m0 m : zM} (h : J (zQ [26, 27, 28, 29, 30, 31, 32, 33] [4]) m0 B m) {k : Nat} (hk : k ≠ 45) : m 4 k = m0 4 k := h.row k (by
  unfold jp
  split <;> first | rfl | exact absurd rfl hk) rfl 4
/-- what seconds leave of the reference's row -/
def keepW (w w' : Int → Int) : Prop := ∀ i, (1 ≤ i ∧ i ≤ 9) ∨ i = 18 ∨ (28 ≤ i ∧ i ≤ 31) ∨ (95 ≤ i ∧ i ≤ 787) ∨ (1172 ≤ i ∧ i ≤ 1486) ∨ (1611 ≤ i ∧ i ≤ 1618) → w' i = w i
theorem keepW.trans {a b c : Int → Int} (h : keepW a b) (h' : keepW b c) : keepW a c := fun i hi => (h' i hi).trans (h i hi)
theorem fN_keep {r : zM} {B : Int} (ho : OM B r) : ∀ n : Nat, B + 11 * (n : Int) ≤ 1000000000 → OM (B + 11 * (n : Int)) (fN n r) ∧ keepW (r 4 45) (fN n r 4 45) ∧ (∀ g k, (g ≠ 4 ∨ k ≠ 45) → fN n r g k = r g k)
  | 0, _ => ⟨ho.up (by omega), fun _ _ => rfl, fun _ _ _ => rfl⟩
  | n + 1, hB => by
    obtain ⟨h1, h2, h3⟩ := fN_keep ho n (by omega)
    obtain ⟨k1, k2, k3⟩ := sec_keep h1 (by omega)
    refine ⟨k1.up (by omega), h2.trans k2, fun g k hk => ?_⟩
    show f208_1 (fN n r) g k = r g k
    rw [← h3 g k hk]
    by_cases hg : g = 4
    · subst hg
      exact sec_row k3 (by omega)
    · rw [jy k3 (by simpa using hg)]
theorem tn_s {n : Int} {i : Nat} (h : (i : Int) = n - 1) : n.toNat = i + 1 := by omega
/-- the tariff of a stretch -/
theorem tar_T {c r : zM} {g : Nat} {x s : Int} (h : CR (c g) (r 4 45)) (hb : CB (c g)) (x0 : 0 ≤ x) (hs : x ≤ s) (hs2 : s < f37_1 g x c) : ∀ m : zM, (∀ i, 287 ≤ i → i ≤ 787 → m 4 45 i = r 4 45 i) → f217_1 s m = f27_1 g x c := fun m hm => by
  have h1 : CR (c g) (m 4 45) := h.w hb hm
  rw [← tf_eq h1 hb (by omega)]
  exact held_const h hb x0 hs hs2
theorem stretch_T {c r : zM} {g : Nat} {B a A Z : Int} (hg : g < 3) (hMV : MV (c g) (r 4 45)) (hc : OM B c) (hr : OM B r) (hB : B + 40000 ≤ 1000000000) (hwv : WV (c g) (r 4 45)) (hcr : CR (c g) (r 4 45)) (hcb : CBD A Z (c g)) (hA : A ≤ 4990000) (hZ : Z ≤ 900000000) (hop : c g 8 12 = shO (c g 8 11) (c g 8 10)) (hpre : c g 8 11 = 0 ∨ c g 8 11 = 1) (ha : 1 ≤ a ∧ a ≤ 3600) :
    ∃ n c', f26_1 g a c = (n, c') ∧ 1 ≤ n ∧ n ≤ a ∧ MV (c' g) (fN n.toNat r 4 45) ∧ c' g 8 12 = shO (c' g 8 11) (c' g 8 10) ∧ c' g 8 11 = c g 8 11 ∧ CBD (A + n) Z (c' g) ∧ (c' g 8 13 = c g 8 13 + n ∧ c' g 8 15 = c g 8 15 ∧ c' g 8 10 ≤ c g 8 10) ∧ OM (B + 8) c' ∧ (∀ k, 1 ≤ k → k ≤ 5 → FE k (c g) (c' g)) ∧ (∀ g', g' ≠ g → c' g' = c g') ∧ (∀ i : Nat, (i : Int) < n → fN i r 4 45 12 = c g 8 12) := by
  have hbC := CB.of hc.2 g
  have tc := hc.t g
  obtain ⟨e0, -⟩ := id hMV
  have hst := hwv.2.2.2.1
  obtain ⟨s0, s1, s2, s3, s4, s5, s6, -, -, -, s10⟩ := id hst
  obtain ⟨bP, bQ, bS⟩ := hwv.sums
  have hu := r45_5 hr.2.o 4
  have h7 := r45_7 hr.2.o 4
  have hp : ∀ t, 0 ≤ t → t < 4 → 0 ≤ r 4 45 (28 + t) ∧ r 4 45 (28 + t) ≤ 100 := fun t t0 t1 => r45_28 hr.2.o 4 (by omega)
  -- what is seen, which tariff
  obtain ⟨tar, etar⟩ : ∃ x, x = f27_1 g (c g 8 9) c := ⟨_, rfl⟩
  obtain ⟨seen, eseen⟩ : ∃ x, x = f34_1 g (c g 10 2) c := ⟨_, rfl⟩
  have htb : 0 ≤ tar ∧ tar ≤ 3 := by rw [etar]; exact q27_1 g (c g 8 9) hc.1 hc.2 (by omega) (by omega) (by omega)
  have hsb : -2147483648 ≤ seen ∧ seen ≤ 2147483647 := by rw [eseen]; exact q34_1 g (c g 10 2) hc.1 hc.2 (by omega) hg (r10_0 hc.2.o g (i := 2) (by omega))
  obtain ⟨so, eso⟩ : ∃ so : Int → Int, so = fun y => if zand (zshr seen y) 1 = 1 then (1 : Int) else 0 := ⟨_, rfl⟩
  have hso2 : ∀ y, 2 ≤ y → y < 5 → (so y = 0 ∨ so y = 1) ∧ (if zand (zshr seen y) 1 = 1 then (1 : Int) else 0) = so y := fun y _ _ => by
    rw [eso]
    refine ⟨?_, rfl⟩
    dsimp only
    split
    · exact .inr rfl
    · exact .inl rfl
  have hso : ∀ m' : zM, WV (c g) (m' 4 45) → ∀ y, 2 ≤ y → y < 5 → soR y m' = so y := fun m' hm y y0 y1 => by
    obtain ⟨x1, x2, x3, x4, x5⟩ := hm
    have h9 := (seen_T (g := g) (low := c g 10 2) x5 x3 x1 x2 x4.2.2.1 y y0 y1).2
    rw [← eseen] at h9
    rw [eso]
    exact h9.symm
  obtain ⟨D, eD⟩ : ∃ D : Int → Int, D = fun q => DL (c g 8 12) (c g 22 3) (c g 22 7) (c g 19 6) (c g 10 0) q := ⟨_, rfl⟩
  have hD : ∀ q, D q = DL (c g 8 12) (c g 22 3) (c g 22 7) (c g 19 6) (c g 10 0) q := fun q => by rw [eD]
  obtain ⟨K, hK⟩ : ∃ K, K = if crp (c g 8 12) (c g 22 3) (c g 22 7) (c g 10 0) = 0 then (0 : Int) else 1 := ⟨_, rfl⟩
  obtain ⟨q26a, q26b, q26c⟩ := q26_1 g a hc.1 hc.2 (by omega) hg ha ha.1
  -- how long
  obtain ⟨n, en⟩ : ∃ n, n = f35_1 g a tar seen c := ⟨_, rfl⟩
  have hn : (1 ≤ n ∧ n ≤ a) ∧ (1 < n → c g 8 9 + n ≤ 2000000000 ∧ c g 8 9 + n ≤ f37_1 g (c g 8 9) c ∧ c g 8 9 % r 4 45 8 + n ≤ r 4 45 8 ∧ (∀ w : Int → Int, b01 w → c g 33 3 = onV w → ∀ m, 2 ≤ m → m < 5 → (w (40 + m) = 1 → so m = 1) ∧ (w (40 + m) = 0 → so m = 1 → c g 36 m + n ≤ c g 10 3 + 1)) ∧
      (c g 8 11 ≠ 0 → c g 8 12 = 0 → ∀ j, 0 ≤ j → j < n → 0 < c g 8 10 - ((c g 24 tar + j * D 0) / c g 10 1 - c g 24 tar / c g 10 1) * c g 10 (6 + tar))) := by
    rw [en]
    unfold f35_1
    by_cases hL : c g 8 9 < 2000000000
    case neg =>
      rw [if_neg hL]
      exact ⟨by omega, fun h9 => by omega⟩
    rw [if_pos hL]
    simp only [zn_a]
    have hh := (held_next hcr hbC tc.1 0).1
    rw [show max 1 (c g 10 4) = r 4 45 8 by omega]
    have b8 := r45_8 hr.2.o 4
    have hmod0 : 0 ≤ c g 8 9 % r 4 45 8 := Int.emod_nonneg _ (by omega)
    have hmod1 : c g 8 9 % r 4 45 8 < r 4 45 8 := Int.emod_lt_of_pos _ (by omega)
    obtain ⟨M, hM⟩ : ∃ M, M = min (min (min a (2000000000 - c g 8 9)) (f37_1 g (c g 8 9) c - c g 8 9)) (r 4 45 8 - c g 8 9 % r 4 45 8) := ⟨_, rfl⟩
    rw [← hM]
    obtain ⟨-, cb2, cb3, -, cb5, cb6, cb7, -⟩ := id hcb
    have cb1 := hcb.1
    have hlen : ∀ m, 2 ≤ m → m < 5 → 0 ≤ c g 36 m ∧ c g 36 m ≤ 1000000000 := fun m m0 m1 => by have := cb6 m (by omega) m1; omega
    have hMK := hMV.2.2.2.2.2.2.2.2.2.1
    obtain ⟨v, ev, v1, v2, v3⟩ := turn_T (c := c) (g := g) (seen := seen) (delay := c g 10 3) (a := M) (w := r 4 45) (so := so) hMK.1 hMK.2.1 hlen (by omega) (by omega) hso2
    rw [ev]
    have hob : c g 8 12 = 0 ∨ c g 8 12 = 1 := by
      rw [hop]
      unfold shO
      repeat' split
      all_goals omega
    have hFB : FB g c := ⟨bP, bQ, bS, fun i i0 i1 => by have := cb2 i i0 i1; omega, by omega, fun t t0 t1 => by rw [s6 t t0 t1]; exact hp t t0 t1, by omega, by have := cb3 3 (by omega) (by omega); omega, by have := cb3 4 (by omega) (by omega); omega, by have := cb3 5 (by omega) (by omega); omega, by omega, hob⟩
    obtain ⟨u, eu, u1, u2, u3⟩ := open_T2 (c := c) (g := g) (tar := tar) (a := v) hFB (by omega) (by omega) (by omega) (fun h11 h12 => by
      rw [hop] at h12
      unfold shO at h12
      have : c g 8 11 = 1 := by omega
      rw [if_pos this] at h12
      by_cases h9 : c g 8 10 ≤ 0
      · rw [if_pos h9] at h12
        omega
      · omega) hD
    rw [eu]
    refine ⟨by omega, fun h9 => ⟨by omega, by omega, by omega, fun w hw ho m m0 m1 => ?_, fun h11 h12 j j0 j1 => u3 h11 h12 j j0 j1 h9⟩⟩
    obtain ⟨v', ev', v1', v2', v3'⟩ := turn_T (c := c) (g := g) (seen := seen) (delay := c g 10 3) (a := M) (w := w) (so := so) hw ho hlen (by omega) (by omega) hso2
    have evv : v' = v := ev'.symm.trans ev
    obtain ⟨x1, x2⟩ := v3' (by omega) m m0 m1
    exact ⟨x1, fun h8 h7 => by have := x2 h8 h7; omega⟩
  obtain ⟨⟨n0, n1⟩, hn2⟩ := hn
  -- all but the last second
  have key : ∀ i : Nat, (i : Int) < n → QJ D K i tar so (c g) (fN i r 4 45) := by
    intro i
    induction i with
    | zero => exact fun _ => hMV.qj D so K tar
    | succ i ih =>
      intro hi
      have hQ := ih (by omega)
      obtain ⟨x1, x2, x3, x4, x5⟩ := hn2 (by omega)
      obtain ⟨k1, k2, k3⟩ := fN_keep hr i (by omega)
      have wv := hwv.pt (w' := fN i r 4 45) (fun i' hi' => k2 i' (by omega))
      have ci : fN i r 4 45 0 = c g 8 9 + i := hQ.1
      have r8 : fN i r 4 45 8 = r 4 45 8 := k2 8 (by omega)
      have h9 := quiet_T (c := c) (r := fN i r) (g := g) (B := B + 11 * (i : Int)) (j := (i : Int)) (tar := tar) (K := K) (A := A) (Z := Z) (D := D) (so := so) hQ k1 (by omega) wv hcb (by omega) hop hpre hD hK (by omega) (by omega)
        (fun m' hm' => by
          rw [hm' 0 (.inl rfl), ci, etar]
          exact tar_T hcr hbC tc.1 (by omega) (by omega) m' (fun i' i0 i1 => by rw [hm' i' (.inr ⟨i0, i1⟩), k2 i' (by omega)]))
        hso (fun y y0 y1 => (hso2 y y0 y1).1) (by omega)
        (by
          rw [ci, r8]
          rcases s10 with h | h | h | h | h <;> rw [h] at x3 ⊢ <;> omega)
        (fun h11 h12 => x5 (by omega) h12 ((i : Int) + 1) (by omega) (by omega))
        (fun m m0 m1 => by
          have hk0 := hQ.2.2.2.2.2.2.1.1
          obtain ⟨y1, y2⟩ := x4 (fN i r 4 45) hk0.1 hk0.2.1 m m0 m1
          exact ⟨y1, fun z1 z2 => by have := y2 z1 z2; omega⟩)
      rw [show ((i + 1 : Nat) : Int) = (i : Int) + 1 by omega]
      exact h9
  -- the last
  obtain ⟨i, hi⟩ : ∃ i : Nat, (i : Int) = n - 1 := ⟨(n - 1).toNat, by omega⟩
  have hQ := key i (by omega)
  obtain ⟨k1, k2, k3⟩ := fN_keep hr i (by omega)
  have wv := hwv.pt (w' := fN i r 4 45) (fun i' hi' => k2 i' (by omega))
  have ci : fN i r 4 45 0 = c g 8 9 + i := hQ.1
  have hh := (held_next hcr hbC tc.1 0).1
  have hheld : c g 8 9 + (i : Int) < f37_1 g (c g 8 9) c := by
    by_cases h1 : 1 < n
    · have := (hn2 h1).2.1
      omega
    · omega
  have T := tar_T hcr hbC tc.1 (s := c g 8 9 + (i : Int)) (by omega) hheld
  obtain ⟨f1, f2, f3, f4, f5, f6, f7, f8⟩ := final_T (c := c) (r := fN i r) (g := g) (B := B + 11 * (i : Int)) (j := (i : Int)) (n := n) (tar := tar) (seen := seen) (K := K) (A := A) (Z := Z) (D := D) (so := so) hg hQ (hc.up (by omega)) k1 (by omega) wv hcb (by omega) hZ hop hpre hD hK (by omega) (by omega) (by omega) hsb
    (fun m' hm' => by
      rw [hm' 0 (.inl rfl), ci, etar]
      exact T m' (fun i' i0 i1 => by rw [hm' i' (.inr ⟨i0, i1⟩), k2 i' (by omega)]))
    (fun m hm => by
      rw [ci, etar]
      exact T m (fun i' i0 i1 => by rw [hm i' i0 i1, k2 i' (by omega)]))
    hso hso2 (fun y y0 y1 h9 h8 => by
      by_cases h1 : 1 < n
      · have hk0 := hQ.2.2.2.2.2.2.1.1
        have := ((hn2 h1).2.2.2.1 (fN i r 4 45) hk0.1 hk0.2.1 y y0 y1).1 h9
        omega
      · omega)
  have eN : fN n.toNat r = f208_1 (fN i r) := by
    rw [tn_s hi]
    rfl
  have e26 : f26_1 g a c = (n, cS g n tar seen c) := by rw [f26_k, ← etar, ← eseen, ← en]
  rw [e26] at q26a q26b
  refine ⟨n, cS g n tar seen c, e26, n0, n1, by rw [eN]; exact f1, f2, f3, f4, ⟨f6, f7, f8⟩, ⟨q26a, q26b.jb⟩, fun k k0 k1 => ?_, fun g' hg' => jy q26b (by simpa using hg'), fun i' hi' => (key i' hi').2.2.2.2.1⟩
  rcases (show k = 1 ∨ k = 2 ∨ k = 3 ∨ k = 4 ∨ k = 5 by omega) with rfl | rfl | rfl | rfl | rfl
  · exact FE.j q26b g 1 rfl
  · exact FE.j q26b g 2 rfl
  · exact FE.j q26b g 3 rfl
  · exact FE.j q26b g 4 rfl
  · exact FE.j q26b g 5 rfl
