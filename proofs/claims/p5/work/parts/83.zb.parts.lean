/-! What moves, part by part. -/
theorem MV.of {c : Nat → Int → Int} {w : Int → Int} (t : w 0 = c 8 9) (n : CN c w) (o : CO c w) (r : RG c w) (k : MK c w) (l : LG c w) (d : DM c w) (ld : LD c w) (od : OD c w) : MV c w := ⟨t, n.1, n.2.1, n.2.2, o.1, o.2.1, o.2.2, r.1, r.2, k, l, d, ld, od⟩
theorem MV.t {c : Nat → Int → Int} {w : Int → Int} (h : MV c w) : w 0 = c 8 9 := h.1
theorem MV.n {c : Nat → Int → Int} {w : Int → Int} (h : MV c w) : CN c w := ⟨h.2.1, h.2.2.1, h.2.2.2.1⟩
theorem MV.o {c : Nat → Int → Int} {w : Int → Int} (h : MV c w) : CO c w := ⟨h.2.2.2.2.1, h.2.2.2.2.2.1, h.2.2.2.2.2.2.1⟩
theorem MV.r {c : Nat → Int → Int} {w : Int → Int} (h : MV c w) : RG c w := ⟨h.2.2.2.2.2.2.2.1, h.2.2.2.2.2.2.2.2.1⟩
theorem MV.k {c : Nat → Int → Int} {w : Int → Int} (h : MV c w) : MK c w := h.2.2.2.2.2.2.2.2.2.1
theorem MV.l {c : Nat → Int → Int} {w : Int → Int} (h : MV c w) : LG c w := h.2.2.2.2.2.2.2.2.2.2.1
theorem MV.d {c : Nat → Int → Int} {w : Int → Int} (h : MV c w) : DM c w := h.2.2.2.2.2.2.2.2.2.2.2.1
theorem MV.ld {c : Nat → Int → Int} {w : Int → Int} (h : MV c w) : LD c w := h.2.2.2.2.2.2.2.2.2.2.2.2.1
theorem MV.od {c : Nat → Int → Int} {w : Int → Int} (h : MV c w) : OD c w := h.2.2.2.2.2.2.2.2.2.2.2.2.2
theorem CN.fe {c c' : Nat → Int → Int} {w w' : Int → Int} (h : CN c w) (h1 : FE 13 c c') (h2 : FW 13 w w') : CN c' w' := by
  unfold CN
  rw [h1.p8_13 13 (by omega) (by omega), h1.p8_13 14 (by omega) (by omega), h1.p8_13 15 (by omega) (by omega), h2 13 (by omega) (by omega) (ja45_13 (by omega)), h2 14 (by omega) (by omega) (ja45_13 (by omega)), h2 15 (by omega) (by omega) (ja45_13 (by omega))]
  exact h
theorem CO.fe {c c' : Nat → Int → Int} {w w' : Int → Int} (h : CO c w) (h1 : FE 12 c c') (h2 : FW 12 w w') : CO c' w' := by
  unfold CO
  rw [h1.p8_10 10 (by omega) (by omega), h1.p8_10 11 (by omega) (by omega), h1.p8_10 12 (by omega) (by omega), h2 10 (by omega) (by omega) (ja45_10 (by omega)), h2 11 (by omega) (by omega) (ja45_10 (by omega)), h2 12 (by omega) (by omega) (ja45_10 (by omega))]
  exact h
theorem RG.fe {c c' : Nat → Int → Int} {w w' : Int → Int} (h : RG c w) (h1 : FE 10 c c') (h2 : FW 10 w w') : RG c' w' := by
  have e : ∀ i, 60 ≤ i → i ≤ 94 → w' i = w i := fun i i0 i1 => h2 i (by omega) (by omega) (ja45_60 ⟨i0, i1⟩)
  refine ⟨fun q t q0 q1 t0 t1 => ?_, fun q q0 q1 => ?_⟩
  · rw [e _ (by omega) (by omega), h1.p24_0 _ (by omega) (by omega)]
    exact h.1 q t q0 q1 t0 t1
  · rw [e _ (by omega) (by omega), e _ (by omega) (by omega), e _ (by omega) (by omega), e _ (by omega) (by omega), e _ (by omega) (by omega)]
    exact h.2 q q0 q1
theorem OD.fe {c c' : Nat → Int → Int} {w w' : Int → Int} (h : OD c w) (h1 : FE 7 c c') (h3 : w' 8 = w 8) (h2 : FW 7 w w') : OD c' w' := by
  unfold OD
  rw [h2 21 (by omega) (by omega) (ja45_21 (by omega)), h3, h1.p27_2 9 (by omega) (by omega)]
  exact h
/-- the bounds, part by part -/
theorem CBD.fe {A Z : Int} {c c' : Nat → Int → Int} (h : CBD A Z c) (h7 : FE 7 c c') (h9 : FE 9 c c') (h10 : FE 10 c c') (h12 : FE 12 c c') (h13 : FE 13 c c') : CBD A Z c' := by
  obtain ⟨b1, b2, b3, b4, b5, b6, b7, b8, b9, b10⟩ := h
  unfold CBD
  rw [h13.p8_13 13 (by omega) (by omega), h13.p8_13 14 (by omega) (by omega), h13.p8_13 15 (by omega) (by omega), h12.p8_10 10 (by omega) (by omega), h7.p27_2 6 (by omega) (by omega), h7.p27_2 7 (by omega) (by omega), h7.p27_2 8 (by omega) (by omega)]
  refine ⟨b1, fun i i0 i1 => ?_, fun i i0 i1 => ?_, b4, b5, fun m m0 m1 => ?_, b7, b8, b9, b10⟩
  · rw [h10.p24_0 i i0 (by omega)]
    exact b2 i i0 i1
  · rw [h7.p27_2 i (by omega) (by omega)]
    exact b3 i i0 i1
  · rw [h9.p34_0 m m0 (by omega), h9.p35_0 m m0 (by omega), h9.p36_0 m m0 (by omega)]
    exact b6 m m0 m1
theorem WV.fe {c c' : Nat → Int → Int} {w w' : Int → Int} (h : WV c w) (h2 : FE 2 c c') (h3 : FE 3 c c') (k2 : FW 2 w w') (k3 : FW 3 w w') : WV c' w' := by
  have e : ∀ i, (1 ≤ i ∧ i ≤ 3) ∨ (95 ≤ i ∧ i ≤ 286) → w' i = w i := fun i hi => by
    rcases hi with hi | hi
    · exact k2 i (by omega) (by omega) (ja45_1 hi)
    · exact k2 i (by omega) (by omega) (ja45_95 hi)
  obtain ⟨a1, a2, a3, a4, a5⟩ := h
  exact ⟨by rw [h2.p19_3 3 (by omega) (by omega), e 1 (by omega)]; exact a1, by rw [h2.p19_3 4 (by omega) (by omega), e 2 (by omega)]; exact a2, a3.fe a5 h2 k2, a4.fe h3 k3, a5.pt e⟩
/-- all of it -/
theorem MG.fe {A Z : Int} {c c' : Nat → Int → Int} {w w' : Int → Int} (h : MG A Z c w) (hb : CB c) (e : ∀ n, n ≠ 4 → n ≠ 5 → FE n c c') (e' : ∀ n, n ≠ 4 → n ≠ 5 → FW n w w') : MG A Z c' w' := by
  obtain ⟨h1, h2, h3, h4, h5, h6⟩ := h
  have q8 : w' 8 = w 8 := e' 3 (by decide) (by decide) 8 (by omega) (by omega) (ja45_4 (by omega))
  refine ⟨MV.of ?_ (h1.n.fe (e 13 (by decide) (by decide)) (e' 13 (by decide) (by decide))) (h1.o.fe (e 12 (by decide) (by decide)) (e' 12 (by decide) (by decide))) (h1.r.fe (e 10 (by decide) (by decide)) (e' 10 (by decide) (by decide))) (h1.k.fe (e 9 (by decide) (by decide)) (e' 9 (by decide) (by decide))) (h1.l.fe (e 6 (by decide) (by decide)) (e' 6 (by decide) (by decide))) (h1.d.fe (e 8 (by decide) (by decide)) (e' 8 (by decide) (by decide))) (h1.ld.fe (e 7 (by decide) (by decide)) (e' 7 (by decide) (by decide))) (h1.od.fe (e 7 (by decide) (by decide)) q8 (e' 7 (by decide) (by decide))), h2.fe (e 2 (by decide) (by decide)) (e 3 (by decide) (by decide)) (e' 2 (by decide) (by decide)) (e' 3 (by decide) (by decide)), h3.fe hb (e 1 (by decide) (by decide)) (e' 1 (by decide) (by decide)), h4.fe (e 7 (by decide) (by decide)) (e 9 (by decide) (by decide)) (e 10 (by decide) (by decide)) (e 12 (by decide) (by decide)) (e 13 (by decide) (by decide)), ?_, ?_⟩
  · exact (time_fe (c := c) (w := w) h1.t.symm (e 11 (by decide) (by decide)) (e' 11 (by decide) (by decide))).symm
  · rw [(e 12 (by decide) (by decide)).p8_10 12 (by omega) (by omega), (e 12 (by decide) (by decide)).p8_10 11 (by omega) (by omega), (e 12 (by decide) (by decide)).p8_10 10 (by omega) (by omega)]
    exact h5
  · rw [(e 12 (by decide) (by decide)).p8_10 11 (by omega) (by omega)]
    exact h6
/-- all but the wave -/
theorem MG.wave {A Z : Int} {c c' : Nat → Int → Int} {w w' : Int → Int} (h : MG A Z c w) (hb : CB c) (e : ∀ n, n ≠ 2 → n ≠ 4 → n ≠ 5 → FE n c c') (e' : ∀ n, n ≠ 2 → n ≠ 4 → n ≠ 5 → FW n w w') (h1' : c' 19 3 = w' 1) (h2' : c' 19 4 = w' 2) (hs : WS c' w') (hw : WB w') : MG A Z c' w' := by
  obtain ⟨h1, h2, h3, h4, h5, h6⟩ := h
  have q8 : w' 8 = w 8 := e' 3 (by decide) (by decide) (by decide) 8 (by omega) (by omega) (ja45_4 (by omega))
  refine ⟨MV.of ?_ (h1.n.fe (e 13 (by decide) (by decide) (by decide)) (e' 13 (by decide) (by decide) (by decide))) (h1.o.fe (e 12 (by decide) (by decide) (by decide)) (e' 12 (by decide) (by decide) (by decide))) (h1.r.fe (e 10 (by decide) (by decide) (by decide)) (e' 10 (by decide) (by decide) (by decide))) (h1.k.fe (e 9 (by decide) (by decide) (by decide)) (e' 9 (by decide) (by decide) (by decide))) (h1.l.fe (e 6 (by decide) (by decide) (by decide)) (e' 6 (by decide) (by decide) (by decide))) (h1.d.fe (e 8 (by decide) (by decide) (by decide)) (e' 8 (by decide) (by decide) (by decide))) (h1.ld.fe (e 7 (by decide) (by decide) (by decide)) (e' 7 (by decide) (by decide) (by decide))) (h1.od.fe (e 7 (by decide) (by decide) (by decide)) q8 (e' 7 (by decide) (by decide) (by decide))), ⟨h1', h2', hs, h2.2.2.2.1.fe (e 3 (by decide) (by decide) (by decide)) (e' 3 (by decide) (by decide) (by decide)), hw⟩, h3.fe hb (e 1 (by decide) (by decide) (by decide)) (e' 1 (by decide) (by decide) (by decide)), h4.fe (e 7 (by decide) (by decide) (by decide)) (e 9 (by decide) (by decide) (by decide)) (e 10 (by decide) (by decide) (by decide)) (e 12 (by decide) (by decide) (by decide)) (e 13 (by decide) (by decide) (by decide)), ?_, ?_⟩
  · exact (time_fe (c := c) (w := w) h1.t.symm (e 11 (by decide) (by decide) (by decide)) (e' 11 (by decide) (by decide) (by decide))).symm
  · rw [(e 12 (by decide) (by decide) (by decide)).p8_10 12 (by omega) (by omega), (e 12 (by decide) (by decide) (by decide)).p8_10 11 (by omega) (by omega), (e 12 (by decide) (by decide) (by decide)).p8_10 10 (by omega) (by omega)]
    exact h5
  · rw [(e 12 (by decide) (by decide) (by decide)).p8_10 11 (by omega) (by omega)]
    exact h6
