/-! Seconds of one kind: what lies between class and reference, j of them. -/
def ST (c : Nat → Int → Int) (w : Int → Int) : Prop := c 10 0 = w 4 ∧ c 10 1 = w 5 ∧ c 10 2 = w 6 ∧ c 10 3 = w 7 ∧ c 10 4 = w 8 ∧ c 10 5 = w 9 ∧ (∀ t, 0 ≤ t → t < 4 → c 10 (6 + t) = w (28 + t)) ∧ c 10 10 = w 1611 ∧ c 10 11 = w 1612 ∧ c 10 12 = w 1613 ∧ (w 8 = 60 ∨ w 8 = 300 ∨ w 8 = 900 ∨ w 8 = 1800 ∨ w 8 = 3600)
theorem ST.fe {c c' : Nat → Int → Int} {w w' : Int → Int} (h : ST c w) (h1 : FE 3 c c') (h2 : FW 3 w w') : ST c' w' := by
  obtain ⟨a0, a1, a2, a3, a4, a5, a6, a7, a8, a9, a10⟩ := h
  have e : ∀ i, 4 ≤ i → i ≤ 9 → w' i = w i := fun i i0 i1 => h2 i (by omega) (by omega) (ja45_4 ⟨i0, i1⟩)
  unfold ST
  rw [h1.p10_0 0 (by omega) (by omega), h1.p10_0 1 (by omega) (by omega), h1.p10_0 2 (by omega) (by omega), h1.p10_0 3 (by omega) (by omega), h1.p10_0 4 (by omega) (by omega), h1.p10_0 5 (by omega) (by omega), h1.p10_0 10 (by omega) (by omega), h1.p10_0 11 (by omega) (by omega), h1.p10_0 12 (by omega) (by omega),
    e 4 (by omega) (by omega), e 5 (by omega) (by omega), e 6 (by omega) (by omega), e 7 (by omega) (by omega), e 8 (by omega) (by omega), e 9 (by omega) (by omega), h2 1611 (by omega) (by omega) (ja45_1611 (by omega)), h2 1612 (by omega) (by omega) (ja45_1611 (by omega)), h2 1613 (by omega) (by omega) (ja45_1611 (by omega))]
  refine ⟨a0, a1, a2, a3, a4, a5, fun t t0 t1 => ?_, a7, a8, a9, a10⟩
  rw [h1.p10_0 _ (by omega) (by omega), h2 _ (by omega) (by omega) (ja45_28 (by omega))]
  exact a6 t t0 t1
/-- the class' numbers within their bounds; A: how many seconds at most; Z: how many marks by hand -/
def CBD (A Z : Int) (c : Nat → Int → Int) : Prop := (0 ≤ c 8 13 ∧ c 8 13 ≤ A) ∧ (∀ i, 0 ≤ i → i < 28 → 0 ≤ c 24 i ∧ c 24 i ≤ 17000000 * c 8 13) ∧ (∀ i, 3 ≤ i → i ≤ 5 → 0 ≤ c 27 i ∧ c 27 i ≤ 17000000 * c 8 13) ∧ (0 ≤ c 27 6 ∧ c 27 6 ≤ c 8 13) ∧ (0 ≤ c 8 14 ∧ c 8 14 ≤ c 8 13) ∧
  (∀ m, 0 ≤ m → m < 5 → (0 ≤ c 34 m ∧ c 34 m ≤ Z + c 8 13) ∧ (0 ≤ c 35 m ∧ c 35 m ≤ c 8 13) ∧ 0 ≤ c 36 m ∧ c 36 m ≤ c 8 13) ∧ (-1700000000 * c 8 13 ≤ c 8 10 ∧ c 8 10 ≤ 5000000000000) ∧ (0 ≤ c 27 7 ∧ c 27 7 ≤ c 8 15) ∧ (0 ≤ c 8 15 ∧ c 8 15 ≤ 1000000000) ∧ (0 ≤ c 27 8 ∧ c 27 8 < 32)
/-- what the wave and the settings are on both sides -/
def WV (c : Nat → Int → Int) (w : Int → Int) : Prop := c 19 3 = w 1 ∧ c 19 4 = w 2 ∧ WS c w ∧ ST c w ∧ WB w
theorem WV.pt {c : Nat → Int → Int} {w w' : Int → Int} (h : WV c w) (e : ∀ i, (1 ≤ i ∧ i ≤ 9) ∨ (28 ≤ i ∧ i ≤ 31) ∨ (95 ≤ i ∧ i ≤ 286) ∨ (1611 ≤ i ∧ i ≤ 1613) → w' i = w i) : WV c w' := by
  obtain ⟨a1, a2, a3, a4, a5⟩ := h
  refine ⟨by rw [e 1 (by omega)]; exact a1, by rw [e 2 (by omega)]; exact a2, ?_, ?_, a5.pt (fun i hi => e i (by omega))⟩
  · have e' : ∀ i, (1 ≤ i ∧ i ≤ 2) ∨ (95 ≤ i ∧ i ≤ 190) → w' i = w i := fun i hi => e i (by omega)
    obtain ⟨b0, b1, b2, b3, b4, b5⟩ := a3
    have hp := a5.2.1
    refine ⟨fun f hf => ?_, by rw [TG_fw e' a5]; exact b1, by rw [TG_fw e' a5]; exact b2, by rw [TG_fw e' a5]; exact b3, by rw [TG_fw e' a5]; exact b4, b5⟩
    rw [e' 1 (by omega)] at hf
    obtain ⟨q1, q2, q3, q4⟩ := AC_fw e' a5 (f := f) (by omega) (by omega)
    rw [q1, q2, q3, q4]
    exact b0 f hf
  · unfold ST
    rw [e 4 (by omega), e 5 (by omega), e 6 (by omega), e 7 (by omega), e 8 (by omega), e 9 (by omega), e 1611 (by omega), e 1612 (by omega), e 1613 (by omega)]
    obtain ⟨a0, a1, a2, a3, a4, a5, a6, a7, a8, a9, a10⟩ := a4
    exact ⟨a0, a1, a2, a3, a4, a5, fun t t0 t1 => by rw [e _ (by omega)]; exact a6 t t0 t1, a7, a8, a9, a10⟩
theorem WV.sums {c : Nat → Int → Int} {w : Int → Int} (h : WV c w) : (-12000000 ≤ c 22 3 ∧ c 22 3 ≤ 12000000) ∧ (-12000000 ≤ c 22 7 ∧ c 22 7 ≤ 12000000) ∧ 0 ≤ c 19 6 ∧ c 19 6 ≤ 17000000 := by
  obtain ⟨-, -, ⟨-, b1, b2, -, -, b5⟩, -, hb⟩ := h
  have t0 := TG_b hb 0
  have t1 := TG_b hb 1
  rw [← b1] at t0
  rw [← b2] at t1
  refine ⟨t0, t1, b5.1, ?_⟩
  obtain ⟨hr, x0, x1⟩ := root_b (P := c 22 3) (Q := c 22 7) (fun _ _ _ => 0) t0 t1
  rw [b5.uni hr]
  exact x1
/-- what a second adds is the same on both sides -/
theorem DR_eq {c r : zM} {g : Nat} (h : WV (c g) (r 4 45)) (ho : c g 8 12 = r 4 45 12) (hob : c g 8 12 = 0 ∨ c g 8 12 = 1) : (∀ q, DR r q = DL (c g 8 12) (c g 22 3) (c g 22 7) (c g 19 6) (c g 10 0) q) ∧ KR r = (if crp (c g 8 12) (c g 22 3) (c g 22 7) (c g 10 0) = 0 then 0 else 1) := by
  obtain ⟨b1, b2, b3⟩ := h.sums
  obtain ⟨-, -, ⟨-, w1, w2, -, -, w5⟩, ⟨s0, -⟩, hb⟩ := h
  have hc : crp (c g 8 12) (c g 22 3) (c g 22 7) (c g 10 0) = 0 ∨ crp (c g 8 12) (c g 22 3) (c g 22 7) (c g 10 0) = 1 := by
    unfold crp
    repeat' split
    all_goals omega
  rcases hob with e | e
  · have p0 : pw 0 r = c g 22 3 := by
      unfold pw
      rw [if_neg (by omega), zn_a, tg_r hb]
      exact w1.symm
    have p1 : pw 1 r = c g 22 7 := by
      unfold pw
      rw [if_neg (by omega), zn_a, tg_r hb]
      exact w2.symm
    have hr := (root_b (P := c g 22 3) (Q := c g 22 7) r b1 b2).1
    have ec : (max (c g 22 3) (-(c g 22 3)) < c g 10 0 ∧ max (c g 22 7) (-(c g 22 7)) < c g 10 0) ↔ crp (c g 8 12) (c g 22 3) (c g 22 7) (c g 10 0) = 1 := by
      unfold crp
      rw [if_pos e]
      constructor
      · intro h9
        rw [if_pos h9]
      · intro h9
        by_cases h8 : max (c g 22 3) (-(c g 22 3)) < c g 10 0 ∧ max (c g 22 7) (-(c g 22 7)) < c g 10 0
        · exact h8
        · rw [if_neg h8] at h9
          omega
    refine ⟨fun q => ?_, ?_⟩
    · unfold DR DL
      rw [p0, p1, ← s0, ← w5.uni hr]
      by_cases h9 : max (c g 22 3) (-(c g 22 3)) < c g 10 0 ∧ max (c g 22 7) (-(c g 22 7)) < c g 10 0
      · have := ec.mp h9
        rw [if_pos h9, if_neg (fun h8 => by omega)]
      · have : ¬ crp (c g 8 12) (c g 22 3) (c g 22 7) (c g 10 0) = 1 := fun h8 => h9 (ec.mpr h8)
        rw [if_neg h9, if_pos ⟨by omega, e⟩]
    · unfold KR
      rw [p0, p1, ← s0]
      by_cases h9 : max (c g 22 3) (-(c g 22 3)) < c g 10 0 ∧ max (c g 22 7) (-(c g 22 7)) < c g 10 0
      · have := ec.mp h9
        rw [if_pos h9, if_neg (by omega)]
      · have : ¬ crp (c g 8 12) (c g 22 3) (c g 22 7) (c g 10 0) = 1 := fun h8 => h9 (ec.mpr h8)
        rw [if_neg h9, if_pos (by omega)]
  · have p0 : ∀ i, pw i r = 0 := fun i => by
      unfold pw
      rw [if_pos (by omega)]
    have hz : f214_1 (0 * 0 + 0 * 0) r = 0 := by
      have hr := (root_b (P := 0) (Q := 0) r (by omega) (by omega)).1
      exact hr.uni ⟨by omega, by omega, by omega⟩
    have ec : crp (c g 8 12) (c g 22 3) (c g 22 7) (c g 10 0) = if 0 < c g 10 0 then 1 else 0 := by
      unfold crp
      rw [if_neg (by omega)]
    refine ⟨fun q => ?_, ?_⟩
    · unfold DR DL
      rw [p0, p0, if_neg (show ¬ (crp (c g 8 12) (c g 22 3) (c g 22 7) (c g 10 0) = 0 ∧ c g 8 12 = 0) from fun h8 => by omega), hz]
      split
      · rfl
      · unfold dl
        rw [show max (0 : Int) 0 = 0 by decide, show max (-(0 : Int)) 0 = 0 by decide, show max (0 : Int) (-0) = 0 by decide]
        repeat' split
        all_goals rfl
    · unfold KR
      rw [p0, p0, ← s0, ec]
      rw [show max (0 : Int) (-0) = 0 by decide]
      by_cases h9 : 0 < c g 10 0
      · rw [if_pos ⟨h9, h9⟩, if_pos h9, if_neg (by decide)]
      · rw [if_neg (fun h8 => h9 h8.1), if_neg h9, if_pos rfl]
def LLx (c : Nat → Int → Int) (w : Int → Int) : Prop := c 27 2 = w 17 ∧ 0 ≤ w 17 ∧ LL (w 17) (c 28) w ∧ ∀ k, 0 ≤ k → k < 4 → c 29 k = w (1607 + k)
def QJ (D : Int → Int) (K j tar : Int) (so : Int → Int) (c : Nat → Int → Int) (w : Int → Int) : Prop := w 0 = c 8 9 + j ∧ w 13 = c 8 13 + j ∧ w 15 = c 8 15 ∧ w 11 = c 8 11 ∧ w 12 = c 8 12 ∧ FLo D K j tar c w ∧ MI 0 j so c w ∧ LG c w ∧ DM c w ∧ LLx c w ∧ w 25 = c 27 6 + j ∧ w 26 = c 27 7 ∧ w 27 = (if j = 0 then c 27 8 else zorN (c 27 8) (onV w)) ∧ OD c w
/-- the reference's numbers within their bounds, j seconds on -/
theorem QJ.rb {D : Int → Int} {K j tar A Z : Int} {so : Int → Int} {c : Nat → Int → Int} {w : Int → Int} (h : QJ D K j tar so c w) (hc : CBD A Z c) (hA : A ≤ 5000000) (hs : ST c w) (hu : 1 ≤ w 5 ∧ w 5 ≤ 1000000) (hp : ∀ t, 0 ≤ t → t < 4 → 0 ≤ w (28 + t) ∧ w (28 + t) ≤ 100) (ht : 0 ≤ tar ∧ tar < 4) (hj : 0 ≤ j ∧ j ≤ 3600) (hD : ∀ q, 0 ≤ D q ∧ D q ≤ 17000000) (hK : 0 ≤ K ∧ K ≤ 1) : RB w := by
  obtain ⟨-, -, -, -, -, ⟨f1, f2, f3, f4, f5, f6, f7⟩, -⟩ := h
  obtain ⟨c1, c2, c3, c4, c5, c6, c7, -⟩ := hc
  have jd : ∀ q, 0 ≤ j * D q ∧ j * D q ≤ 3600 * 17000000 := fun q => mul_le3 hj.1 hj.2 (hD q).1 (hD q).2
  have each : ∀ q t, 0 ≤ q → q < 7 → 0 ≤ t → t < 4 → 0 ≤ w (60 + 5 * q + t) ∧ w (60 + 5 * q + t) ≤ 100000000000000 := fun q t h0 h1 h2 h3 => by
    rw [f1 q t h0 h1 h2 h3]
    have x := c2 (q * 4 + t) (by omega) (by omega)
    have y := jd q
    split <;> omega
  have x0 := c2 tar (by omega) (by omega)
  have y0 := jd 0
  have q0 := ediv_b (a := c 24 tar) (b := w 5) (A := 100000000000000) x0.1 (by omega) hu.1
  have q1 := ediv_b (a := c 24 tar + j * D 0) (b := w 5) (A := 100000000000000) (by omega) (by omega) hu.1
  have qm : c 24 tar / w 5 ≤ (c 24 tar + j * D 0) / w 5 := Int.ediv_le_ediv (by omega) (by omega)
  have hpt := hp tar ht.1 ht.2
  have cm := mul_le3 (a := (c 24 tar + j * D 0) / w 5 - c 24 tar / w 5) (b := w (28 + tar)) (A := 100000000000000) (B := 100) (by omega) (by omega) hpt.1 hpt.2
  refine ⟨fun i i0 i1 => ?_, hu, hp, ?_, ?_, ?_, ?_, ?_⟩
  · by_cases e : (i - 60) % 5 = 4
    · have h9 := f2 ((i - 60) / 5) (by omega) (by omega)
      have y1 := each ((i - 60) / 5) 0 (by omega) (by omega) (by omega) (by omega)
      have y2 := each ((i - 60) / 5) 1 (by omega) (by omega) (by omega) (by omega)
      have y3 := each ((i - 60) / 5) 2 (by omega) (by omega) (by omega) (by omega)
      have y4 := each ((i - 60) / 5) 3 (by omega) (by omega) (by omega) (by omega)
      rw [show 60 + 5 * ((i - 60) / 5) + 4 = i by omega] at h9
      omega
    · have y1 := each ((i - 60) / 5) ((i - 60) % 5) (by omega) (by omega) (by omega) (by omega)
      rw [show 60 + 5 * ((i - 60) / 5) + (i - 60) % 5 = i by omega] at y1
      omega
  · rw [f3]
    omega
  · have x := c3 3 (by omega) (by omega)
    rw [f5]
    omega
  · have x := c3 4 (by omega) (by omega)
    have y := jd 1
    rw [f6]
    omega
  · have x := c3 5 (by omega) (by omega)
    have y := jd 6
    rw [f7]
    omega
  · have y := mul_le3 (a := j) (b := K) (A := 3600) (B := 1) hj.1 hj.2 hK.1 hK.2
    rw [f4]
    omega
