/-! Many seconds: again, in thought. -/
theorem CBD.up {A A' Z Z' : Int} {c : Nat → Int → Int} (h : CBD A Z c) (hA : A ≤ A') (hZ : Z ≤ Z') : CBD A' Z' c := by
  obtain ⟨h1, h2, h3, h4, h5, h6, h7⟩ := h
  exact ⟨by omega, h2, h3, h4, h5, fun m m0 m1 => by have := h6 m m0 m1; omega, h7⟩
theorem WV.ce {c c' : Nat → Int → Int} {w : Int → Int} (h : WV c w) (h2 : FE 2 c c') (h3 : FE 3 c c') : WV c' w := by
  obtain ⟨a1, a2, a3, a4, a5⟩ := h
  exact ⟨by rw [h2.p19_3 3 (by omega) (by omega)]; exact a1, by rw [h2.p19_3 4 (by omega) (by omega)]; exact a2, a3.fe a5 h2 (FW.rf 2 w), a4.fe h3 (FW.rf 3 w), a5⟩
/-- prepaid, off, credit: what seconds do -/
def KC (c c' : Nat → Int → Int) : Prop := c' 8 11 = c 8 11 ∧ c' 8 15 = c 8 15 ∧ c' 8 10 ≤ c 8 10 ∧ (XI c → XI c')
theorem KC.rf (c : Nat → Int → Int) : KC c c := ⟨rfl, rfl, Int.le_refl _, fun h => h⟩
theorem KC.trans {a b c : Nat → Int → Int} (h : KC a b) (h' : KC b c) : KC a c := ⟨h'.1.trans h.1, h'.2.1.trans h.2.1, Int.le_trans h'.2.2.1 h.2.2.1, fun x => h'.2.2.2 (h.2.2.2 x)⟩
/-- class and reference as far as seconds move them -/
def MG (A Z : Int) (c : Nat → Int → Int) (w : Int → Int) : Prop := MV c w ∧ WV c w ∧ CR c w ∧ CBD A Z c ∧ c 8 12 = shO (c 8 11) (c 8 10) ∧ (c 8 11 = 0 ∨ c 8 11 = 1)
theorem jf_mem2 {i : Int} {p : Int × Int} : ∀ l : List (Int × Int × Int × Int), jf l i = some p → ∃ q, q ∈ l ∧ q.1 ≤ i ∧ i ≤ q.2.1 ∧ q.2.2 = p
  | [], h => by cases h
  | z :: r, h => by
    unfold jf at h
    split at h
    · rename_i h1
      exact ⟨z, List.mem_cons_self, h1.1, h1.2, by injection h⟩
    · obtain ⟨q, h1, h2⟩ := jf_mem2 r h
      exact ⟨q, List.mem_cons_of_mem _ h1, h2⟩
theorem ja1_in {i : Int} (h : ja 45 i = 1 + 20) : 287 ≤ i ∧ i ≤ 787 := by
  unfold ja at h
  cases e : jf (jp 45) i with
  | none => rw [e] at h; exact absurd h (by decide)
  | some q =>
    rw [e] at h
    obtain ⟨x, h1, h2, h3, h4⟩ := jf_mem2 _ e
    subst h4
    have hx : ∀ x, x ∈ jp 45 → x.2.2.1.toNat = 21 → x = (287, 787, 21, 0) := by decide
    have := hx x h1 h
    subst this
    exact ⟨h2, h3⟩
theorem stretch_G {c r : zM} {g : Nat} {B a A Z : Int} (hg : g < 3) (h : MG A Z (c g) (r 4 45)) (hc : OM B c) (hr : OM B r) (hB : B + 40000 ≤ 1000000000) (hA : A ≤ 2890000) (hZ : Z ≤ 900000000) (ha : 1 ≤ a ∧ a ≤ 3600) :
    ∃ n c', f26_1 g a c = (n, c') ∧ 1 ≤ n ∧ n ≤ a ∧ MG (A + n) Z (c' g) (fN n.toNat r 4 45) ∧ KC (c g) (c' g) ∧ OM (B + 8) c' ∧ (∀ k, 1 ≤ k → k ≤ 5 → FE k (c g) (c' g)) ∧ (∀ g', g' ≠ g → c' g' = c g') ∧ (∀ i : Nat, (i : Int) < n → fN i r 4 45 12 = c g 8 12) := by
  obtain ⟨h1, h2, h3, h4, h5, h6⟩ := h
  obtain ⟨n, c', e, n0, n1, m1, m2, m3, m4, m5, m6, m7, m8, m9⟩ := stretch_T hg h1 hc hr hB h2 h3 h4 (by omega) hZ h5 h6 ha
  obtain ⟨-, k2, -⟩ := fN_keep hr n.toNat (by omega)
  refine ⟨n, c', e, n0, n1, ⟨m1, (h2.pt (fun i hi => k2 i (by omega))).ce (m7 2 (by omega) (by omega)) (m7 3 (by omega) (by omega)), ?_, m4, m2, by rw [m3]; exact h6⟩, ⟨m3, m5.2.1, m5.2.2, fun hx => by
    have y := f26_X hg hc hr (by omega) h2 h4 (by omega) h5 ha hx
    rw [e] at y
    exact y⟩, m6, m7, m8, m9⟩
  exact h3.fe (CB.of hc.2 g) (m7 1 (by omega) (by omega)) (fun i i0 i1 e9 => by
    have hi : 287 ≤ i ∧ i ≤ 787 := ja1_in e9
    exact k2 i (by omega))
theorem times_loop {g : Nat} (hg : g < 3) {a Z : Int} (ha : 1 ≤ a ∧ a ≤ 3600) (hZ : Z ≤ 900000000) : ∀ (n : Nat) (y2 y3 : Int) (c r : zM) (B A : Int), MG A Z (c g) (r 4 45) → OM B c → OM B r → 0 ≤ y2 → 0 ≤ y3 → y2 + y3 ≤ a → a - y3 < n → B + 11 * y2 + 40000 ≤ 1000000000 → A + y2 ≤ 2890000 →
    ∃ c', fl25_4_1 (fun m => m) g a n y2 y3 c = c' ∧ MG (A + y2) Z (c' g) (fN y2.toNat r 4 45) ∧ KC (c g) (c' g) ∧ (∀ k, 1 ≤ k → k ≤ 5 → FE k (c g) (c' g)) ∧ (∀ g', g' ≠ g → c' g' = c g')
  | 0, y2, y3, c, r, B, A, h, hc, hr, h0, h1, h2, h3, hB, hA => by omega
  | n + 1, y2, y3, c, r, B, A, h, hc, hr, h0, h1, h2, h3, hB, hA => by
    show ∃ c', fl25_4_1_b (fl25_4_1 (fun m => m) g a n) (fun m => m) g a y2 y3 c = c' ∧ _
    unfold fl25_4_1_b
    by_cases h4 : a ≤ y3
    · rw [if_pos h4]
      have e : y2 = 0 := by omega
      subst e
      exact ⟨c, rfl, by rw [Int.add_zero]; exact h, KC.rf _, fun k _ _ => FE.rf k _, fun _ _ => rfl⟩
    rw [if_neg h4]
    by_cases h5 : y2 ≤ 0
    · rw [if_pos h5]
      have e : y2 = 0 := by omega
      subst e
      exact ⟨c, rfl, by rw [Int.add_zero]; exact h, KC.rf _, fun k _ _ => FE.rf k _, fun _ _ => rfl⟩
    rw [if_neg h5]
    obtain ⟨v, c1, e, v0, v1, m1, m2, m3, m4, m5, -⟩ := stretch_G hg h hc hr (by omega) (by omega) hZ (a := y2) (by omega)
    obtain ⟨k1, -, -⟩ := fN_keep hr v.toNat (by omega)
    rw [e, zb_a]
    obtain ⟨c', e', x1, x2, x3, x4⟩ := times_loop hg ha hZ n (y2 - v) (y3 + 1) c1 (fN v.toNat r) (B + 11 * v) (A + v) m1 (m3.up (by omega)) (k1.up (by omega)) (by omega) (by omega) (by omega) (by omega) (by omega) (by omega)
    refine ⟨c', e', ?_, m2.trans x2, fun k k0 k1 => (m4 k k0 k1).trans (x3 k k0 k1), fun g' hg' => by rw [x4 g' hg', m5 g' hg']⟩
    rw [← fN_add, show (y2 - v).toNat + v.toNat = y2.toNat by omega, show A + v + (y2 - v) = A + y2 by omega] at x1
    exact x1
theorem times_G {c r : zM} {g : Nat} {B a A Z : Int} (hg : g < 3) (h : MG A Z (c g) (r 4 45)) (hc : OM B c) (hr : OM B r) (hB : B + 80000 ≤ 1000000000) (hA : A ≤ 2880000) (hZ : Z ≤ 900000000) (ha : 1 ≤ a ∧ a ≤ 900) :
    ∃ c', f25_1 g a c = c' ∧ MG (A + a) Z (c' g) (fN a.toNat r 4 45) ∧ KC (c g) (c' g) ∧ (∀ k, 1 ≤ k → k ≤ 5 → FE k (c g) (c' g)) ∧ (∀ g', g' ≠ g → c' g' = c g') :=
  times_loop hg (by omega) hZ (zfu 901) a 0 c r B A h hc hr (by omega) (by omega) (by omega) (by rw [zfu_eq]; omega) (by omega) (by omega)
theorem r279_N {k : zM → Int × zM} {a : Int} : ∀ (n : Nat) (y : Int) (r : zM), y ≤ a → a - y < n → fl279_18_1 k a n y r = k (fN (a - y).toNat r)
  | 0, y, r, h0, h1 => by omega
  | n + 1, y, r, h0, h1 => by
    show fl279_18_1_b (fl279_18_1 k a n) k a y r = _
    unfold fl279_18_1_b
    by_cases h : a ≤ y
    · rw [if_pos h, show (a - y).toNat = 0 by omega]
      rfl
    · rw [if_neg h, zs_a, r279_N n (y + 1) _ (by omega) (by omega), show (a - y).toNat = (a - (y + 1)).toNat + 1 by omega, fN_add r 1]
      rfl
theorem r302_N {k : zM → Int × zM} {a b : Int} : ∀ (n : Nat) (y : Int) (r : zM), y ≤ a → a - y < n → fl302_41_1 k a b n y r = k (fN (a - y).toNat r)
  | 0, y, r, h0, h1 => by omega
  | n + 1, y, r, h0, h1 => by
    show fl302_41_1_b (fl302_41_1 k a b n) k a b y r = _
    unfold fl302_41_1_b
    by_cases h : a ≤ y
    · rw [if_pos h, show (a - y).toNat = 0 by omega]
      rfl
    · rw [if_neg h, zs_a, r302_N n (y + 1) _ (by omega) (by omega), show (a - y).toNat = (a - (y + 1)).toNat + 1 by omega, fN_add r 1]
      rfl
/-- a register's sum over the tariffs -/
theorem sum4 {c : zM} {g : Nat} {y s : Int} (hb : ∀ t, 0 ≤ t → t < 4 → 0 ≤ c g 24 (y + t) ∧ c g 24 (y + t) ≤ 1000000000000000) (hs : s = c g 24 (y + 0) + c g 24 (y + 1) + c g 24 (y + 2) + c g 24 (y + 3)) : f72_1 g y (-1) c = s := by
  have b0 := hb 0 (by omega) (by omega)
  have b1 := hb 1 (by omega) (by omega)
  have b2 := hb 2 (by omega) (by omega)
  have b3 := hb 3 (by omega) (by omega)
  unfold f72_1
  rw [if_pos rfl, zfu_eq]
  have e : fl72_16_1 (fun y502 => y502) g y c 5 0 0 = w64 (w64 (w64 (w64 (0 + c g 24 (y + 0)) + c g 24 (y + 1)) + c g 24 (y + 2)) + c g 24 (y + 3)) := rfl
  rw [e, w64_id (x := 0 + _) (by omega), w64_id (x := 0 + c g 24 (y + 0) + c g 24 (y + 1)) (by omega), w64_id (x := 0 + c g 24 (y + 0) + c g 24 (y + 1) + c g 24 (y + 2)) (by omega), w64_id (by omega)]
  omega
theorem total_T {c r : zM} {g : Nat} {A Z q : Int} (h : MG A Z (c g) (r 4 45)) (hA : A ≤ 5000000) (hq : 0 ≤ q ∧ q < 7) : f71_1 g q (-1) c = r 4 45 (60 + 5 * q + 4) ∧ 0 ≤ r 4 45 (60 + 5 * q + 4) ∧ r 4 45 (60 + 5 * q + 4) ≤ 1000000000000000 := by
  obtain ⟨⟨-, -, -, -, -, -, -, m8, m9, -⟩, -, -, ⟨c1, c2, -⟩, -⟩ := h
  have b : ∀ t, 0 ≤ t → t < 4 → 0 ≤ c g 24 (q * 4 + t) ∧ c g 24 (q * 4 + t) ≤ 100000000000000 := fun t t0 t1 => by have := c2 (q * 4 + t) (by omega) (by omega); omega
  have b0 := b 0 (by omega) (by omega)
  have b1 := b 1 (by omega) (by omega)
  have b2 := b 2 (by omega) (by omega)
  have b3 := b 3 (by omega) (by omega)
  have e := m9 q hq.1 hq.2
  rw [m8 q 0 hq.1 hq.2 (by omega) (by omega), m8 q 1 hq.1 hq.2 (by omega) (by omega), m8 q 2 hq.1 hq.2 (by omega) (by omega), m8 q 3 hq.1 hq.2 (by omega) (by omega)] at e
  refine ⟨?_, by omega, by omega⟩
  unfold f71_1
  rw [zn_a]
  exact sum4 (fun t t0 t1 => by have := b t t0 t1; omega) e
theorem reads_T {c r : zM} {g : Nat} {A Z q : Int} (h : MG A Z (c g) (r 4 45)) (hA : A ≤ 5000000) (hu : 1 ≤ r 4 45 5 ∧ r 4 45 5 ≤ 1000000) (hq : 0 ≤ q ∧ q < 7) : f70_1 g q c = w64 ((r 4 45 (60 + 5 * q + 4)).tdiv (r 4 45 5)) := by
  have e := (total_T h hA hq).1
  have s1 := h.2.1.2.2.2.1.2.1
  unfold f70_1
  simp only [zn_a]
  rw [e, show max 1 (c g 10 1) = r 4 45 5 by omega]
theorem again_G {c r : zM} {B a A Z : Int} (h : MG A Z (c 0) (r 4 45)) (hc : OM B c) (hr : OM B r) (hB : B + 80000 ≤ 1000000000) (hA : A ≤ 2880000) (hZ : Z ≤ 900000000) : (f69_1 a c).1 = (f279_1 a r).1 ∧ MG (A + 900) Z ((f69_1 a c).2 0) ((f279_1 a r).2 4 45) ∧ KC (c 0) ((f69_1 a c).2 0) := by
  unfold f69_1 f279_1
  by_cases h1 : a < 1
  · rw [if_pos h1, if_pos h1]
    exact ⟨rfl, ⟨h.1, h.2.1, h.2.2.1, h.2.2.2.1.up (by omega) (Int.le_refl _), h.2.2.2.2⟩, KC.rf _⟩
  rw [if_neg h1, if_neg h1]
  by_cases h2 : a ≤ 900
  case neg =>
    rw [if_neg h2, if_neg h2]
    exact ⟨rfl, ⟨h.1, h.2.1, h.2.2.1, h.2.2.2.1.up (by omega) (Int.le_refl _), h.2.2.2.2⟩, KC.rf _⟩
  rw [if_pos h2, if_pos h2, zs_a, zn_a, r279_N (zfu 901) 0 r (by omega) (by rw [zfu_eq]; omega), show a - 0 = a by omega]
  obtain ⟨c', e, m1, m2, m3, m4⟩ := times_G (by omega) h hc hr hB hA hZ (a := a) (by omega)
  obtain ⟨k1, -, -⟩ := fN_keep hr a.toNat (by omega)
  rw [e]
  simp only [zn_a]
  refine ⟨?_, ⟨m1.1, m1.2.1, m1.2.2.1, m1.2.2.2.1.up (by omega) (Int.le_refl _), m1.2.2.2.2⟩, m2⟩
  exact reads_T (q := 0) m1 (by omega) (r45_5 k1.2.o 4) (by omega)
