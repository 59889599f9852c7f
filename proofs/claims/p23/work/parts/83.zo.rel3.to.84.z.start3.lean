section
/-! All that hangs together. -/
theorem WV.st {c c' : Nat → Int → Int} {w w' : Int → Int} (h : WV c w) (h2 : FE 2 c c') (k2 : FW 2 w w') (st : ST c' w') : WV c' w' := by
  have e : ∀ i, (1 ≤ i ∧ i ≤ 3) ∨ (95 ≤ i ∧ i ≤ 286) → w' i = w i := fun i hi => by
    rcases hi with hi | hi
    · exact k2 i (by omega) (by omega) (ja45_1 hi)
    · exact k2 i (by omega) (by omega) (ja45_95 hi)
  obtain ⟨a1, a2, a3, a4, a5⟩ := h
  exact ⟨by rw [h2.p19_3 3 (by omega) (by omega), e 1 (by omega)]; exact a1, by rw [h2.p19_3 4 (by omega) (by omega), e 2 (by omega)]; exact a2, a3.fe a5 h2 k2, st, a5.pt e⟩
theorem CBD.z7 {A Z : Int} {c c' : Nat → Int → Int} (h : CBD A Z c) (h9 : FE 9 c c') (h10 : FE 10 c c') (h12 : FE 12 c c') (h13 : FE 13 c c') (hz : ∀ i, 3 ≤ i → i ≤ 8 → c' 27 i = 0 ∨ c' 27 i = c 27 i) : CBD A Z c' := by
  obtain ⟨b1, b2, b3, b4, b5, b6, b7, b8, b9, b10⟩ := h
  have e13 := h13.p8_13 13 (by omega) (by omega)
  have e15 := h13.p8_13 15 (by omega) (by omega)
  unfold CBD
  rw [e13, h13.p8_13 14 (by omega) (by omega), e15, h12.p8_10 10 (by omega) (by omega)]
  refine ⟨b1, fun i i0 i1 => ?_, fun i i0 i1 => ?_, ?_, b5, fun m m0 m1 => ?_, b7, ?_, b9, ?_⟩
  · rw [h10.p24_0 i i0 (by omega)]
    exact b2 i i0 i1
  · have := b3 i i0 i1
    rcases hz i i0 (by omega) with e | e <;> omega
  · rcases hz 6 (by omega) (by omega) with e | e <;> omega
  · rw [h9.p34_0 m m0 (by omega), h9.p35_0 m m0 (by omega), h9.p36_0 m m0 (by omega)]
    exact b6 m m0 m1
  · rcases hz 7 (by omega) (by omega) with e | e <;> omega
  · rcases hz 8 (by omega) (by omega) with e | e <;> omega
theorem CBD.cred {A Z : Int} {c c' : Nat → Int → Int} (h : CBD A Z c) (h7 : FE 7 c c') (h9 : FE 9 c c') (h10 : FE 10 c c') (h13 : FE 13 c c') (lo : c 8 10 ≤ c' 8 10) (hi : c' 8 10 ≤ 5000000000000) : CBD A Z c' := by
  obtain ⟨b1, b2, b3, b4, b5, b6, b7, b8, b9, b10⟩ := h
  unfold CBD
  rw [h13.p8_13 13 (by omega) (by omega), h13.p8_13 14 (by omega) (by omega), h13.p8_13 15 (by omega) (by omega), h7.p27_2 6 (by omega) (by omega), h7.p27_2 7 (by omega) (by omega), h7.p27_2 8 (by omega) (by omega)]
  refine ⟨b1, fun i i0 i1 => ?_, fun i i0 i1 => ?_, b4, b5, fun m m0 m1 => ?_, by omega, b8, b9, b10⟩
  · rw [h10.p24_0 i i0 (by omega)]
    exact b2 i i0 i1
  · rw [h7.p27_2 i (by omega) (by omega)]
    exact b3 i i0 i1
  · rw [h9.p34_0 m m0 (by omega), h9.p35_0 m m0 (by omega), h9.p36_0 m m0 (by omega)]
    exact b6 m m0 m1
theorem CBD.marks {A Z : Int} {c c' : Nat → Int → Int} (h : CBD A Z c) (h7 : FE 7 c c') (h10 : FE 10 c c') (h12 : FE 12 c c') (h13 : FE 13 c c') (hm : ∀ m, 0 ≤ m → m < 5 → (0 ≤ c' 34 m ∧ c' 34 m ≤ Z + 1 + c 8 13) ∧ c' 35 m = c 35 m ∧ c' 36 m = c 36 m) : CBD A (Z + 1) c' := by
  obtain ⟨b1, b2, b3, b4, b5, b6, b7, b8, b9, b10⟩ := h
  unfold CBD
  rw [h13.p8_13 13 (by omega) (by omega), h13.p8_13 14 (by omega) (by omega), h13.p8_13 15 (by omega) (by omega), h12.p8_10 10 (by omega) (by omega), h7.p27_2 6 (by omega) (by omega), h7.p27_2 7 (by omega) (by omega), h7.p27_2 8 (by omega) (by omega)]
  refine ⟨b1, fun i i0 i1 => ?_, fun i i0 i1 => ?_, b4, b5, fun m m0 m1 => ?_, b7, b8, b9, b10⟩
  · rw [h10.p24_0 i i0 (by omega)]
    exact b2 i i0 i1
  · rw [h7.p27_2 i (by omega) (by omega)]
    exact b3 i i0 i1
  · obtain ⟨x1, x2, x3⟩ := hm m m0 m1
    obtain ⟨y1, y2, y3⟩ := b6 m m0 m1
    rw [x2, x3]
    exact ⟨x1, y2, y3⟩
def MY (B : Int) (c : Nat → Int → Int) (w : Int → Int) : Prop := MG (B / 244) (B / 2) c w ∧ WN c w ∧ BI c w ∧ 2 * c 8 15 ≤ B ∧ c 8 10 ≤ 4600 * B ∧ XI c
theorem MY.up {B B' : Int} {c : Nat → Int → Int} {w : Int → Int} (h : MY B c w) (hb : B ≤ B') : MY B' c w := by
  obtain ⟨h1, h2, h3, h4, h5, h6⟩ := h
  exact ⟨h1.up (by omega) (by omega), h2, h3, by omega, by omega, h6⟩
theorem MY.all {B : Int} {c c' : Nat → Int → Int} {w w' : Int → Int} (h : MY B c w) (hb : CB c) (h1 : ∀ n, FE n c c') (h2 : ∀ i, 0 ≤ i → i ≤ 1618 → w' i = w i) : MY B c' w' := by
  obtain ⟨g1, g2, g3, g4, g5, g6⟩ := h
  refine ⟨g1.fe hb (fun n _ _ => h1 n) (fun n _ _ => FW.all h2 n), g2.fe g1.2.1.2.2.2.2 (h1 2) (FW.all h2 2), g3.fe (h1 5) (FW.all h2 5), ?_, ?_, g6.fe (h1 5) (h1 7) (h1 8) (h1 10)⟩
  · rw [(h1 13).p8_13 15 (by omega) (by omega)]
    exact g4
  · rw [(h1 12).p8_10 10 (by omega) (by omega)]
    exact g5
def Rel3 (B : Int) (c r : zM) : Prop := Rel2 B c r ∧ MY B (c 0) (r 4 45) ∧ (r 4 44 3 = 1 → MY B (c 1) (r 4 47))
theorem Rel3.up {B B' : Int} {c r : zM} (h : Rel3 B c r) (hb : B ≤ B') : Rel3 B' c r := ⟨h.1.up hb, h.2.1.up hb, fun e => (h.2.2 e).up hb⟩
/-- the image is as it was, on both sides, behind both calls -/
theorem Rel3.img {L L' G : List Nat} {B B1 B2 B3 : Int} {m m1 m2 : zM} (h : Rel3 B m m) (k2 : J (zQ L G) m B1 m1) (k4 : J (zQ L' [4]) m1 B2 m2) (hb : B ≤ B3) (g1 : G.contains 1 = false) (a47 : ((jp 47).all fun x => !L.contains x.2.2.1.toNat) = true) (a44 : ((jp 44).all fun x => !L.contains x.2.2.1.toNat) = true) (a0 : L.contains 0 = false) (b47 : ((jp 47).all fun x => !L'.contains x.2.2.1.toNat) = true) (b34 : L'.contains 34 = false) (b0 : L'.contains 0 = false) : m2 4 44 3 = 1 → MY B3 (m2 1) (m2 4 47) := fun e => by
  have e1 : m2 4 44 3 = m 4 44 3 := by rw [jx k4 34 ja44_3 b34, k2.row 44 a44 a0 4]
  rw [jy k4 (g := 1) rfl, jy k2 g1, k4.row 47 b47 b0 4, k2.row 47 a47 a0 4]
  exact (h.2.2 (by rw [← e1]; exact e)).up hb
end
section
/-! What each call does to the whole. -/
theorem op3_phases {c r : zM} {B a b : Int} (ha : I32 a) (hb9 : I32 b) (hc : OM (B + 110000) c) (hr : OM (B + 110000) r) (hB : B + 220000 ≤ 700000000) (h2 : Rel2 B c r) (h : MY B (c 0) (r 4 45)) : MY (B + 220000) ((f16_1 a b c).2 0) ((f202_1 a b r).2 4 45) := by
  obtain ⟨-, k2, -⟩ := q16_1 a b hc.1 hc.2 (by omega) ha hb9
  obtain ⟨-, k4, -⟩ := q202_1 a b hr.1 hr.2 (by omega) ha hb9
  have h2' := op_phases ha hb9 hc hr (by omega) (h2.up (show B ≤ B + 110000 by omega))
  replace h2' := h2'.2
  obtain ⟨hg, hw, hi, x15, x10, hx⟩ := id h
  obtain ⟨h1, hv, -, hb, hs, hp⟩ := id hg
  have hT := phases_G ha hb9 hc hr (by omega) (h2.1.2.2.1.up (show B ≤ B + 110000 by omega)) h.1 hw
  exact ⟨(hT.1.up (by omega) (by omega)), hT.2, (hi.fe (FE.j k2 0 5 rfl) (FW.j k4 4 5 rfl)), (by rw [(FE.j k2 0 13 rfl).p8_13 15 (by omega) (by omega)]; omega), (by rw [(FE.j k2 0 12 rfl).p8_10 10 (by omega) (by omega)]; omega), hx.fe (FE.j k2 0 5 rfl) (FE.j k2 0 7 rfl) (FE.j k2 0 8 rfl) (FE.j k2 0 10 rfl)⟩
theorem op3_sample {c r : zM} {B a b : Int} (ha : I32 a) (hb9 : I32 b) (hc : OM (B + 110000) c) (hr : OM (B + 110000) r) (hB : B + 220000 ≤ 700000000) (h2 : Rel2 B c r) (h : MY B (c 0) (r 4 45)) : MY (B + 220000) ((f19_1 a b c).2 0) ((f205_1 a b r).2 4 45) := by
  obtain ⟨-, k2, -⟩ := q19_1 a b hc.1 hc.2 (by omega) ha hb9
  obtain ⟨-, k4, -⟩ := q205_1 a b hr.1 hr.2 (by omega) ha hb9
  have h2' := op_sample ha hb9 hc hr (by omega) (h2.up (show B ≤ B + 110000 by omega))
  replace h2' := h2'.2
  obtain ⟨hg, hw, hi, x15, x10, hx⟩ := id h
  obtain ⟨h1, hv, -, hb, hs, hp⟩ := id hg
  have hT := sample_G (a := a) (b := b) hc hr (by omega) (by omega) (by omega) h.1 hw h2.1.2.1.2.2
  exact ⟨(hT.1.up (by omega) (by omega)), hT.2.1, (hi.fe (FE.j k2 0 5 rfl) (FW.j k4 4 5 rfl)), (by rw [hT.2.2.2.1]; omega), (by have := hT.2.2.2.2.1; omega), hT.2.2.2.2.2 hx⟩
theorem op3_again {c r : zM} {B a : Int} (ha : I32 a) (hc : OM (B + 110000) c) (hr : OM (B + 110000) r) (hB : B + 220000 ≤ 700000000) (h2 : Rel2 B c r) (h : MY B (c 0) (r 4 45)) : (f69_1 a c).1 = (f279_1 a r).1 ∧ MY (B + 220000) ((f69_1 a c).2 0) ((f279_1 a r).2 4 45) := by
  obtain ⟨-, k2, -⟩ := q69_1 a hc.1 hc.2 (by omega) ha
  obtain ⟨-, k4, -⟩ := q279_1 a hr.1 hr.2 (by omega) ha
  have h2' := op_again ha hc hr (by omega) (h2.up (show B ≤ B + 110000 by omega))
  obtain ⟨hg, hw, hi, x15, x10, hx⟩ := id h
  obtain ⟨h1, hv, -, hb, hs, hp⟩ := id hg
  have hT := again_G (a := a) h.1 hc hr (by omega) (by omega) (by omega)
  exact ⟨hT.1, (hT.2.1.up (by omega) (by omega)), (hw.fe hv.2.2.2.2 (FE.j k2 0 2 rfl) (FW.j k4 4 2 rfl)), (hi.fe (FE.j k2 0 5 rfl) (FW.j k4 4 5 rfl)), (by rw [hT.2.2.2.1]; omega), (by have := hT.2.2.2.2.1; omega), hT.2.2.2.2.2 hx⟩
theorem op3_set {c r : zM} {B a b : Int} (ha : I32 a) (hb9 : I32 b) (hc : OM (B + 110000) c) (hr : OM (B + 110000) r) (hB : B + 220000 ≤ 700000000) (h2 : Rel2 B c r) (h : MY B (c 0) (r 4 45)) : (f73_1 a b c).1 = (f280_1 a b r).1 ∧ MY (B + 220000) ((f73_1 a b c).2 0) ((f280_1 a b r).2 4 45) := by
  obtain ⟨-, k2, -⟩ := q73_1 a b hc.1 hc.2 (by omega) ha hb9
  obtain ⟨-, k4, -⟩ := q280_1 a b hr.1 hr.2 (by omega) ha hb9
  have h2' := op_set ha hb9 hc hr (by omega) (h2.up (show B ≤ B + 110000 by omega))
  obtain ⟨hg, hw, hi, x15, x10, hx⟩ := id h
  obtain ⟨h1, hv, -, hb, hs, hp⟩ := id hg
  have hT := set_P (a := a) (b := b) hc hr (by omega) (h2.1.2.2.1.up (show B ≤ B + 110000 by omega)) h.1 (by omega)
  exact ⟨hT.1, (MG.of h2'.1.1.symm (h1.n.fe (FE.j k2 0 13 rfl) (FW.j k4 4 13 rfl)) (h1.o.fe (FE.j k2 0 12 rfl) (FW.j k4 4 12 rfl)) (h1.r.fe (FE.j k2 0 10 rfl) (FW.j k4 4 10 rfl)) (h1.k.fe (FE.j k2 0 9 rfl) (FW.j k4 4 9 rfl)) (h1.l.fe (FE.j k2 0 6 rfl) (FW.j k4 4 6 rfl)) hT.2.2.2.2.1 hT.2.2.1 hT.2.2.2.1 (hv.st (FE.j k2 0 2 rfl) (FW.j k4 4 2 rfl) hT.2.1) h2'.1.2.2.2 ((hb.z7 (FE.j k2 0 9 rfl) (FE.j k2 0 10 rfl) (FE.j k2 0 12 rfl) (FE.j k2 0 13 rfl) hT.2.2.2.2.2).up (by omega) (by omega)) (by rw [(FE.j k2 0 12 rfl).p8_10 12 (by omega) (by omega), (FE.j k2 0 12 rfl).p8_10 11 (by omega) (by omega), (FE.j k2 0 12 rfl).p8_10 10 (by omega) (by omega)]; exact hs) (by rw [(FE.j k2 0 12 rfl).p8_10 11 (by omega) (by omega)]; exact hp)), (hw.fe hv.2.2.2.2 (FE.j k2 0 2 rfl) (FW.j k4 4 2 rfl)), (hi.fe (FE.j k2 0 5 rfl) (FW.j k4 4 5 rfl)), (by rw [(FE.j k2 0 13 rfl).p8_13 15 (by omega) (by omega)]; omega), (by rw [(FE.j k2 0 12 rfl).p8_10 10 (by omega) (by omega)]; omega), set_X (a := a) (b := b) hb (by omega) hx⟩
theorem op3_table {c r : zM} {B a b d : Int} (ha : I32 a) (hb9 : I32 b) (hd : I32 d) (hc : OM (B + 110000) c) (hr : OM (B + 110000) r) (hB : B + 220000 ≤ 700000000) (h2 : Rel2 B c r) (h : MY B (c 0) (r 4 45)) : MY (B + 220000) ((f78_1 a b d c).2 0) ((f240_1 a b d r).2 4 45) := by
  obtain ⟨-, k2, -⟩ := q78_1 a b d hc.1 hc.2 (by omega) ha hb9 hd
  obtain ⟨-, k4, -⟩ := q240_1 a b d hr.1 hr.2 (by omega) ha hb9 hd
  have h2' := op_table ha hb9 hd hc hr (by omega) (h2.up (show B ≤ B + 110000 by omega))
  replace h2' := h2'.2
  obtain ⟨hg, hw, hi, x15, x10, hx⟩ := id h
  obtain ⟨h1, hv, -, hb, hs, hp⟩ := id hg
  exact ⟨(MG.of h2'.1.1.symm (h1.n.fe (FE.j k2 0 13 rfl) (FW.j k4 4 13 rfl)) (h1.o.fe (FE.j k2 0 12 rfl) (FW.j k4 4 12 rfl)) (h1.r.fe (FE.j k2 0 10 rfl) (FW.j k4 4 10 rfl)) (h1.k.fe (FE.j k2 0 9 rfl) (FW.j k4 4 9 rfl)) (h1.l.fe (FE.j k2 0 6 rfl) (FW.j k4 4 6 rfl)) (h1.d.fe (FE.j k2 0 8 rfl) (FW.j k4 4 8 rfl)) (h1.ld.fe (FE.j k2 0 7 rfl) (FW.j k4 4 7 rfl)) (h1.od.fe (FE.j k2 0 7 rfl) ((FW.j k4 4 3 rfl) 8 (by omega) (by omega) (ja45_4 (by omega))) (FW.j k4 4 7 rfl)) (hv.fe (FE.j k2 0 2 rfl) (FE.j k2 0 3 rfl) (FW.j k4 4 2 rfl) (FW.j k4 4 3 rfl)) h2'.1.2.2.2 ((hb.fe (FE.j k2 0 7 rfl) (FE.j k2 0 9 rfl) (FE.j k2 0 10 rfl) (FE.j k2 0 12 rfl) (FE.j k2 0 13 rfl)).up (by omega) (by omega)) (by rw [(FE.j k2 0 12 rfl).p8_10 12 (by omega) (by omega), (FE.j k2 0 12 rfl).p8_10 11 (by omega) (by omega), (FE.j k2 0 12 rfl).p8_10 10 (by omega) (by omega)]; exact hs) (by rw [(FE.j k2 0 12 rfl).p8_10 11 (by omega) (by omega)]; exact hp)), (hw.fe hv.2.2.2.2 (FE.j k2 0 2 rfl) (FW.j k4 4 2 rfl)), (hi.fe (FE.j k2 0 5 rfl) (FW.j k4 4 5 rfl)), (by rw [(FE.j k2 0 13 rfl).p8_13 15 (by omega) (by omega)]; omega), (by rw [(FE.j k2 0 12 rfl).p8_10 10 (by omega) (by omega)]; omega), hx.fe (FE.j k2 0 5 rfl) (FE.j k2 0 7 rfl) (FE.j k2 0 8 rfl) (FE.j k2 0 10 rfl)⟩
theorem op3_wipe {c r : zM} {B a : Int} (ha : I32 a) (hc : OM (B + 110000) c) (hr : OM (B + 110000) r) (hB : B + 220000 ≤ 700000000) (h2 : Rel2 B c r) (h : MY B (c 0) (r 4 45)) : MY (B + 220000) ((f83_1 a c).2 0) ((f244_1 a r).2 4 45) := by
  obtain ⟨-, k2, -⟩ := q83_1 a hc.1 hc.2 (by omega) ha
  obtain ⟨-, k4, -⟩ := q244_1 a hr.1 hr.2 (by omega) ha
  have h2' := op_wipe ha hc hr (by omega) (h2.up (show B ≤ B + 110000 by omega))
  replace h2' := h2'.2
  obtain ⟨hg, hw, hi, x15, x10, hx⟩ := id h
  obtain ⟨h1, hv, -, hb, hs, hp⟩ := id hg
  exact ⟨(MG.of h2'.1.1.symm (h1.n.fe (FE.j k2 0 13 rfl) (FW.j k4 4 13 rfl)) (h1.o.fe (FE.j k2 0 12 rfl) (FW.j k4 4 12 rfl)) (h1.r.fe (FE.j k2 0 10 rfl) (FW.j k4 4 10 rfl)) (h1.k.fe (FE.j k2 0 9 rfl) (FW.j k4 4 9 rfl)) (h1.l.fe (FE.j k2 0 6 rfl) (FW.j k4 4 6 rfl)) (h1.d.fe (FE.j k2 0 8 rfl) (FW.j k4 4 8 rfl)) (h1.ld.fe (FE.j k2 0 7 rfl) (FW.j k4 4 7 rfl)) (h1.od.fe (FE.j k2 0 7 rfl) ((FW.j k4 4 3 rfl) 8 (by omega) (by omega) (ja45_4 (by omega))) (FW.j k4 4 7 rfl)) (hv.fe (FE.j k2 0 2 rfl) (FE.j k2 0 3 rfl) (FW.j k4 4 2 rfl) (FW.j k4 4 3 rfl)) h2'.1.2.2.2 ((hb.fe (FE.j k2 0 7 rfl) (FE.j k2 0 9 rfl) (FE.j k2 0 10 rfl) (FE.j k2 0 12 rfl) (FE.j k2 0 13 rfl)).up (by omega) (by omega)) (by rw [(FE.j k2 0 12 rfl).p8_10 12 (by omega) (by omega), (FE.j k2 0 12 rfl).p8_10 11 (by omega) (by omega), (FE.j k2 0 12 rfl).p8_10 10 (by omega) (by omega)]; exact hs) (by rw [(FE.j k2 0 12 rfl).p8_10 11 (by omega) (by omega)]; exact hp)), (hw.fe hv.2.2.2.2 (FE.j k2 0 2 rfl) (FW.j k4 4 2 rfl)), (hi.fe (FE.j k2 0 5 rfl) (FW.j k4 4 5 rfl)), (by rw [(FE.j k2 0 13 rfl).p8_13 15 (by omega) (by omega)]; omega), (by rw [(FE.j k2 0 12 rfl).p8_10 10 (by omega) (by omega)]; omega), hx.fe (FE.j k2 0 5 rfl) (FE.j k2 0 7 rfl) (FE.j k2 0 8 rfl) (FE.j k2 0 10 rfl)⟩
theorem op3_season {c r : zM} {B a b : Int} (ha : I32 a) (hb9 : I32 b) (hc : OM (B + 110000) c) (hr : OM (B + 110000) r) (hB : B + 220000 ≤ 700000000) (h2 : Rel2 B c r) (h : MY B (c 0) (r 4 45)) : MY (B + 220000) ((f122_1 a b c).2 0) ((f245_1 a b r).2 4 45) := by
  obtain ⟨-, k2, -⟩ := q122_1 a b hc.1 hc.2 (by omega) ha hb9
  obtain ⟨-, k4, -⟩ := q245_1 a b hr.1 hr.2 (by omega) ha hb9
  have h2' := op_season ha hb9 hc hr (by omega) (h2.up (show B ≤ B + 110000 by omega))
  replace h2' := h2'.2
  obtain ⟨hg, hw, hi, x15, x10, hx⟩ := id h
  obtain ⟨h1, hv, -, hb, hs, hp⟩ := id hg
  exact ⟨(MG.of h2'.1.1.symm (h1.n.fe (FE.j k2 0 13 rfl) (FW.j k4 4 13 rfl)) (h1.o.fe (FE.j k2 0 12 rfl) (FW.j k4 4 12 rfl)) (h1.r.fe (FE.j k2 0 10 rfl) (FW.j k4 4 10 rfl)) (h1.k.fe (FE.j k2 0 9 rfl) (FW.j k4 4 9 rfl)) (h1.l.fe (FE.j k2 0 6 rfl) (FW.j k4 4 6 rfl)) (h1.d.fe (FE.j k2 0 8 rfl) (FW.j k4 4 8 rfl)) (h1.ld.fe (FE.j k2 0 7 rfl) (FW.j k4 4 7 rfl)) (h1.od.fe (FE.j k2 0 7 rfl) ((FW.j k4 4 3 rfl) 8 (by omega) (by omega) (ja45_4 (by omega))) (FW.j k4 4 7 rfl)) (hv.fe (FE.j k2 0 2 rfl) (FE.j k2 0 3 rfl) (FW.j k4 4 2 rfl) (FW.j k4 4 3 rfl)) h2'.1.2.2.2 ((hb.fe (FE.j k2 0 7 rfl) (FE.j k2 0 9 rfl) (FE.j k2 0 10 rfl) (FE.j k2 0 12 rfl) (FE.j k2 0 13 rfl)).up (by omega) (by omega)) (by rw [(FE.j k2 0 12 rfl).p8_10 12 (by omega) (by omega), (FE.j k2 0 12 rfl).p8_10 11 (by omega) (by omega), (FE.j k2 0 12 rfl).p8_10 10 (by omega) (by omega)]; exact hs) (by rw [(FE.j k2 0 12 rfl).p8_10 11 (by omega) (by omega)]; exact hp)), (hw.fe hv.2.2.2.2 (FE.j k2 0 2 rfl) (FW.j k4 4 2 rfl)), (hi.fe (FE.j k2 0 5 rfl) (FW.j k4 4 5 rfl)), (by rw [(FE.j k2 0 13 rfl).p8_13 15 (by omega) (by omega)]; omega), (by rw [(FE.j k2 0 12 rfl).p8_10 10 (by omega) (by omega)]; omega), hx.fe (FE.j k2 0 5 rfl) (FE.j k2 0 7 rfl) (FE.j k2 0 8 rfl) (FE.j k2 0 10 rfl)⟩
theorem op3_week {c r : zM} {B a b d : Int} (ha : I32 a) (hb9 : I32 b) (hd : I32 d) (hc : OM (B + 110000) c) (hr : OM (B + 110000) r) (hB : B + 220000 ≤ 700000000) (h2 : Rel2 B c r) (h : MY B (c 0) (r 4 45)) : MY (B + 220000) ((f124_1 a b d c).2 0) ((f247_1 a b d r).2 4 45) := by
  obtain ⟨-, k2, -⟩ := q124_1 a b d hc.1 hc.2 (by omega) ha hb9 hd
  obtain ⟨-, k4, -⟩ := q247_1 a b d hr.1 hr.2 (by omega) ha hb9 hd
  have h2' := op_week ha hb9 hd hc hr (by omega) (h2.up (show B ≤ B + 110000 by omega))
  replace h2' := h2'.2
  obtain ⟨hg, hw, hi, x15, x10, hx⟩ := id h
  obtain ⟨h1, hv, -, hb, hs, hp⟩ := id hg
  exact ⟨(MG.of h2'.1.1.symm (h1.n.fe (FE.j k2 0 13 rfl) (FW.j k4 4 13 rfl)) (h1.o.fe (FE.j k2 0 12 rfl) (FW.j k4 4 12 rfl)) (h1.r.fe (FE.j k2 0 10 rfl) (FW.j k4 4 10 rfl)) (h1.k.fe (FE.j k2 0 9 rfl) (FW.j k4 4 9 rfl)) (h1.l.fe (FE.j k2 0 6 rfl) (FW.j k4 4 6 rfl)) (h1.d.fe (FE.j k2 0 8 rfl) (FW.j k4 4 8 rfl)) (h1.ld.fe (FE.j k2 0 7 rfl) (FW.j k4 4 7 rfl)) (h1.od.fe (FE.j k2 0 7 rfl) ((FW.j k4 4 3 rfl) 8 (by omega) (by omega) (ja45_4 (by omega))) (FW.j k4 4 7 rfl)) (hv.fe (FE.j k2 0 2 rfl) (FE.j k2 0 3 rfl) (FW.j k4 4 2 rfl) (FW.j k4 4 3 rfl)) h2'.1.2.2.2 ((hb.fe (FE.j k2 0 7 rfl) (FE.j k2 0 9 rfl) (FE.j k2 0 10 rfl) (FE.j k2 0 12 rfl) (FE.j k2 0 13 rfl)).up (by omega) (by omega)) (by rw [(FE.j k2 0 12 rfl).p8_10 12 (by omega) (by omega), (FE.j k2 0 12 rfl).p8_10 11 (by omega) (by omega), (FE.j k2 0 12 rfl).p8_10 10 (by omega) (by omega)]; exact hs) (by rw [(FE.j k2 0 12 rfl).p8_10 11 (by omega) (by omega)]; exact hp)), (hw.fe hv.2.2.2.2 (FE.j k2 0 2 rfl) (FW.j k4 4 2 rfl)), (hi.fe (FE.j k2 0 5 rfl) (FW.j k4 4 5 rfl)), (by rw [(FE.j k2 0 13 rfl).p8_13 15 (by omega) (by omega)]; omega), (by rw [(FE.j k2 0 12 rfl).p8_10 10 (by omega) (by omega)]; omega), hx.fe (FE.j k2 0 5 rfl) (FE.j k2 0 7 rfl) (FE.j k2 0 8 rfl) (FE.j k2 0 10 rfl)⟩
theorem op3_special {c r : zM} {B a b : Int} (ha : I32 a) (hb9 : I32 b) (hc : OM (B + 110000) c) (hr : OM (B + 110000) r) (hB : B + 220000 ≤ 700000000) (h2 : Rel2 B c r) (h : MY B (c 0) (r 4 45)) : MY (B + 220000) ((f125_1 a b c).2 0) ((f248_1 a b r).2 4 45) := by
  obtain ⟨-, k2, -⟩ := q125_1 a b hc.1 hc.2 (by omega) ha hb9
  obtain ⟨-, k4, -⟩ := q248_1 a b hr.1 hr.2 (by omega) ha hb9
  have h2' := op_special ha hb9 hc hr (by omega) (h2.up (show B ≤ B + 110000 by omega))
  replace h2' := h2'.2
  obtain ⟨hg, hw, hi, x15, x10, hx⟩ := id h
  obtain ⟨h1, hv, -, hb, hs, hp⟩ := id hg
  exact ⟨(MG.of h2'.1.1.symm (h1.n.fe (FE.j k2 0 13 rfl) (FW.j k4 4 13 rfl)) (h1.o.fe (FE.j k2 0 12 rfl) (FW.j k4 4 12 rfl)) (h1.r.fe (FE.j k2 0 10 rfl) (FW.j k4 4 10 rfl)) (h1.k.fe (FE.j k2 0 9 rfl) (FW.j k4 4 9 rfl)) (h1.l.fe (FE.j k2 0 6 rfl) (FW.j k4 4 6 rfl)) (h1.d.fe (FE.j k2 0 8 rfl) (FW.j k4 4 8 rfl)) (h1.ld.fe (FE.j k2 0 7 rfl) (FW.j k4 4 7 rfl)) (h1.od.fe (FE.j k2 0 7 rfl) ((FW.j k4 4 3 rfl) 8 (by omega) (by omega) (ja45_4 (by omega))) (FW.j k4 4 7 rfl)) (hv.fe (FE.j k2 0 2 rfl) (FE.j k2 0 3 rfl) (FW.j k4 4 2 rfl) (FW.j k4 4 3 rfl)) h2'.1.2.2.2 ((hb.fe (FE.j k2 0 7 rfl) (FE.j k2 0 9 rfl) (FE.j k2 0 10 rfl) (FE.j k2 0 12 rfl) (FE.j k2 0 13 rfl)).up (by omega) (by omega)) (by rw [(FE.j k2 0 12 rfl).p8_10 12 (by omega) (by omega), (FE.j k2 0 12 rfl).p8_10 11 (by omega) (by omega), (FE.j k2 0 12 rfl).p8_10 10 (by omega) (by omega)]; exact hs) (by rw [(FE.j k2 0 12 rfl).p8_10 11 (by omega) (by omega)]; exact hp)), (hw.fe hv.2.2.2.2 (FE.j k2 0 2 rfl) (FW.j k4 4 2 rfl)), (hi.fe (FE.j k2 0 5 rfl) (FW.j k4 4 5 rfl)), (by rw [(FE.j k2 0 13 rfl).p8_13 15 (by omega) (by omega)]; omega), (by rw [(FE.j k2 0 12 rfl).p8_10 10 (by omega) (by omega)]; omega), hx.fe (FE.j k2 0 5 rfl) (FE.j k2 0 7 rfl) (FE.j k2 0 8 rfl) (FE.j k2 0 10 rfl)⟩
theorem op3_seal {c r : zM} {B a : Int} (ha : I32 a) (hc : OM (B + 110000) c) (hr : OM (B + 110000) r) (hB : B + 220000 ≤ 700000000) (h2 : Rel2 B c r) (h : MY B (c 0) (r 4 45)) : MY (B + 220000) ((f114_1 a c).2 0) ((f276_1 a r).2 4 45) := by
  obtain ⟨-, k2, -⟩ := q114_1 a hc.1 hc.2 (by omega) ha
  obtain ⟨-, k4, -⟩ := q276_1 a hr.1 hr.2 (by omega) ha
  have h2' := op_seal ha hc hr (by omega) (h2.up (show B ≤ B + 110000 by omega))
  replace h2' := h2'.2
  obtain ⟨hg, hw, hi, x15, x10, hx⟩ := id h
  obtain ⟨h1, hv, -, hb, hs, hp⟩ := id hg
  have hT := seal_L (a := a) hc h2.1.1 (h2.1.2.2.1.up (show B ≤ B + 110000 by omega)) h1.l
  exact ⟨(MG.of h2'.1.1.symm (h1.n.fe (FE.j k2 0 13 rfl) (FW.j k4 4 13 rfl)) (h1.o.fe (FE.j k2 0 12 rfl) (FW.j k4 4 12 rfl)) (h1.r.fe (FE.j k2 0 10 rfl) (FW.j k4 4 10 rfl)) (h1.k.fe (FE.j k2 0 9 rfl) (FW.j k4 4 9 rfl)) hT (h1.d.fe (FE.j k2 0 8 rfl) (FW.j k4 4 8 rfl)) (h1.ld.fe (FE.j k2 0 7 rfl) (FW.j k4 4 7 rfl)) (h1.od.fe (FE.j k2 0 7 rfl) ((FW.j k4 4 3 rfl) 8 (by omega) (by omega) (ja45_4 (by omega))) (FW.j k4 4 7 rfl)) (hv.fe (FE.j k2 0 2 rfl) (FE.j k2 0 3 rfl) (FW.j k4 4 2 rfl) (FW.j k4 4 3 rfl)) h2'.1.2.2.2 ((hb.fe (FE.j k2 0 7 rfl) (FE.j k2 0 9 rfl) (FE.j k2 0 10 rfl) (FE.j k2 0 12 rfl) (FE.j k2 0 13 rfl)).up (by omega) (by omega)) (by rw [(FE.j k2 0 12 rfl).p8_10 12 (by omega) (by omega), (FE.j k2 0 12 rfl).p8_10 11 (by omega) (by omega), (FE.j k2 0 12 rfl).p8_10 10 (by omega) (by omega)]; exact hs) (by rw [(FE.j k2 0 12 rfl).p8_10 11 (by omega) (by omega)]; exact hp)), (hw.fe hv.2.2.2.2 (FE.j k2 0 2 rfl) (FW.j k4 4 2 rfl)), (hi.fe (FE.j k2 0 5 rfl) (FW.j k4 4 5 rfl)), (by rw [(FE.j k2 0 13 rfl).p8_13 15 (by omega) (by omega)]; omega), (by rw [(FE.j k2 0 12 rfl).p8_10 10 (by omega) (by omega)]; omega), hx.fe (FE.j k2 0 5 rfl) (FE.j k2 0 7 rfl) (FE.j k2 0 8 rfl) (FE.j k2 0 10 rfl)⟩
theorem op3_open {c r : zM} {B a : Int} (ha : I32 a) (hc : OM (B + 110000) c) (hr : OM (B + 110000) r) (hB : B + 220000 ≤ 700000000) (h2 : Rel2 B c r) (h : MY B (c 0) (r 4 45)) : MY (B + 220000) ((f116_1 a c).2 0) ((f277_1 a r).2 4 45) := by
  obtain ⟨-, k2, -⟩ := q116_1 a hc.1 hc.2 (by omega) ha
  obtain ⟨-, k4, -⟩ := q277_1 a hr.1 hr.2 (by omega) ha
  have h2' := op_open ha hc hr (by omega) (h2.up (show B ≤ B + 110000 by omega))
  replace h2' := h2'.2
  obtain ⟨hg, hw, hi, x15, x10, hx⟩ := id h
  obtain ⟨h1, hv, -, hb, hs, hp⟩ := id hg
  have hT := open_L (a := a) hc h2.1.1 (h2.1.2.2.1.up (show B ≤ B + 110000 by omega)) h1.l
  exact ⟨(MG.of h2'.1.1.symm (h1.n.fe (FE.j k2 0 13 rfl) (FW.j k4 4 13 rfl)) (h1.o.fe (FE.j k2 0 12 rfl) (FW.j k4 4 12 rfl)) (h1.r.fe (FE.j k2 0 10 rfl) (FW.j k4 4 10 rfl)) (h1.k.fe (FE.j k2 0 9 rfl) (FW.j k4 4 9 rfl)) hT (h1.d.fe (FE.j k2 0 8 rfl) (FW.j k4 4 8 rfl)) (h1.ld.fe (FE.j k2 0 7 rfl) (FW.j k4 4 7 rfl)) (h1.od.fe (FE.j k2 0 7 rfl) ((FW.j k4 4 3 rfl) 8 (by omega) (by omega) (ja45_4 (by omega))) (FW.j k4 4 7 rfl)) (hv.fe (FE.j k2 0 2 rfl) (FE.j k2 0 3 rfl) (FW.j k4 4 2 rfl) (FW.j k4 4 3 rfl)) h2'.1.2.2.2 ((hb.fe (FE.j k2 0 7 rfl) (FE.j k2 0 9 rfl) (FE.j k2 0 10 rfl) (FE.j k2 0 12 rfl) (FE.j k2 0 13 rfl)).up (by omega) (by omega)) (by rw [(FE.j k2 0 12 rfl).p8_10 12 (by omega) (by omega), (FE.j k2 0 12 rfl).p8_10 11 (by omega) (by omega), (FE.j k2 0 12 rfl).p8_10 10 (by omega) (by omega)]; exact hs) (by rw [(FE.j k2 0 12 rfl).p8_10 11 (by omega) (by omega)]; exact hp)), (hw.fe hv.2.2.2.2 (FE.j k2 0 2 rfl) (FW.j k4 4 2 rfl)), (hi.fe (FE.j k2 0 5 rfl) (FW.j k4 4 5 rfl)), (by rw [(FE.j k2 0 13 rfl).p8_13 15 (by omega) (by omega)]; omega), (by rw [(FE.j k2 0 12 rfl).p8_10 10 (by omega) (by omega)]; omega), hx.fe (FE.j k2 0 5 rfl) (FE.j k2 0 7 rfl) (FE.j k2 0 8 rfl) (FE.j k2 0 10 rfl)⟩
theorem op3_move {c r : zM} {B a : Int} (ha : I32 a) (hc : OM (B + 110000) c) (hr : OM (B + 110000) r) (hB : B + 220000 ≤ 700000000) (h2 : Rel2 B c r) (h : MY B (c 0) (r 4 45)) : MY (B + 220000) ((f127_1 a c).2 0) ((f281_1 a r).2 4 45) := by
  obtain ⟨-, k2, -⟩ := q127_1 a hc.1 hc.2 (by omega) ha
  obtain ⟨-, k4, -⟩ := q281_1 a hr.1 hr.2 (by omega) ha
  have h2' := op_move ha hc hr (by omega) (h2.up (show B ≤ B + 110000 by omega))
  replace h2' := h2'.2
  obtain ⟨hg, hw, hi, x15, x10, hx⟩ := id h
  obtain ⟨h1, hv, -, hb, hs, hp⟩ := id hg
  have hT := move_S (a := a) hc hr (by omega) (h2.1.2.2.1.up (show B ≤ B + 110000 by omega)) h.1 (by omega)
  exact ⟨(MG.of h2'.1.1.symm (h1.n.fe (FE.j k2 0 13 rfl) (FW.j k4 4 13 rfl)) (h1.o.fe (FE.j k2 0 12 rfl) (FW.j k4 4 12 rfl)) (h1.r.fe (FE.j k2 0 10 rfl) (FW.j k4 4 10 rfl)) (h1.k.fe (FE.j k2 0 9 rfl) (FW.j k4 4 9 rfl)) hT.2.1 hT.2.2.2.2.1 hT.2.2.1 hT.2.2.2.1 (hv.fe (FE.j k2 0 2 rfl) (FE.j k2 0 3 rfl) (FW.j k4 4 2 rfl) (FW.j k4 4 3 rfl)) h2'.1.2.2.2 ((hb.z7 (FE.j k2 0 9 rfl) (FE.j k2 0 10 rfl) (FE.j k2 0 12 rfl) (FE.j k2 0 13 rfl) hT.2.2.2.2.2).up (by omega) (by omega)) (by rw [(FE.j k2 0 12 rfl).p8_10 12 (by omega) (by omega), (FE.j k2 0 12 rfl).p8_10 11 (by omega) (by omega), (FE.j k2 0 12 rfl).p8_10 10 (by omega) (by omega)]; exact hs) (by rw [(FE.j k2 0 12 rfl).p8_10 11 (by omega) (by omega)]; exact hp)), (hw.fe hv.2.2.2.2 (FE.j k2 0 2 rfl) (FW.j k4 4 2 rfl)), (hi.fe (FE.j k2 0 5 rfl) (FW.j k4 4 5 rfl)), (by rw [(FE.j k2 0 13 rfl).p8_13 15 (by omega) (by omega)]; omega), (by rw [(FE.j k2 0 12 rfl).p8_10 10 (by omega) (by omega)]; omega), move_X (a := a) hb (by omega) hx⟩
theorem op3_off {c r : zM} {B a : Int} (ha : I32 a) (hc : OM (B + 110000) c) (hr : OM (B + 110000) r) (hB : B + 220000 ≤ 700000000) (h2 : Rel2 B c r) (h : MY B (c 0) (r 4 45)) : MY (B + 220000) ((f130_1 a c).2 0) ((f282_1 a r).2 4 45) := by
  obtain ⟨-, k2, -⟩ := q130_1 a hc.1 hc.2 (by omega) ha
  obtain ⟨-, k4, -⟩ := q282_1 a hr.1 hr.2 (by omega) ha
  have h2' := op_off ha hc hr (by omega) (h2.up (show B ≤ B + 110000 by omega))
  replace h2' := h2'.2
  obtain ⟨hg, hw, hi, x15, x10, hx⟩ := id h
  obtain ⟨h1, hv, -, hb, hs, hp⟩ := id hg
  have hT := off_G (a := a) hc hr (by omega) h.1 (by omega) hw (by omega)
  exact ⟨(hT.1.up (by omega) (by omega)), hT.2.1, (hi.fe (FE.j k2 0 5 rfl) (FW.j k4 4 5 rfl)), (by have := hT.2.2.1; omega), (by rw [hT.2.2.2.1]; omega), hT.2.2.2.2 hx⟩
theorem op3_mark {c r : zM} {B a b : Int} (ha : I32 a) (hb0 : 0 ≤ b ∧ b ≤ 1) (hc : OM (B + 110000) c) (hr : OM (B + 110000) r) (hB : B + 220000 ≤ 700000000) (h2 : Rel2 B c r) (h : MY B (c 0) (r 4 45)) : MY (B + 220000) ((f134_1 a b c).2 0) ((f283_1 a b r).2 4 45) := by
  obtain ⟨-, k2, -⟩ := q134_1 a b hc.1 hc.2 (by omega) ha hb0
  obtain ⟨-, k4, -⟩ := q283_1 a b hr.1 hr.2 (by omega) ha hb0
  have h2' := op_mark ha hb0 hc hr (by omega) (h2.up (show B ≤ B + 110000 by omega))
  obtain ⟨hg, hw, hi, x15, x10, hx⟩ := id h
  obtain ⟨h1, hv, -, hb, hs, hp⟩ := id hg
  have hT := mark_S (a := a) (b := b) h.1 (by omega) (by omega) hb0
  exact ⟨(MG.of h2'.1.1.symm (h1.n.fe (FE.j k2 0 13 rfl) (FW.j k4 4 13 rfl)) (h1.o.fe (FE.j k2 0 12 rfl) (FW.j k4 4 12 rfl)) (h1.r.fe (FE.j k2 0 10 rfl) (FW.j k4 4 10 rfl)) hT.1 hT.2.1 (h1.d.fe (FE.j k2 0 8 rfl) (FW.j k4 4 8 rfl)) (h1.ld.fe (FE.j k2 0 7 rfl) (FW.j k4 4 7 rfl)) (h1.od.fe (FE.j k2 0 7 rfl) ((FW.j k4 4 3 rfl) 8 (by omega) (by omega) (ja45_4 (by omega))) (FW.j k4 4 7 rfl)) (hv.fe (FE.j k2 0 2 rfl) (FE.j k2 0 3 rfl) (FW.j k4 4 2 rfl) (FW.j k4 4 3 rfl)) h2'.1.2.2.2 ((hb.marks (FE.j k2 0 7 rfl) (FE.j k2 0 10 rfl) (FE.j k2 0 12 rfl) (FE.j k2 0 13 rfl) hT.2.2).up (by omega) (by omega)) (by rw [(FE.j k2 0 12 rfl).p8_10 12 (by omega) (by omega), (FE.j k2 0 12 rfl).p8_10 11 (by omega) (by omega), (FE.j k2 0 12 rfl).p8_10 10 (by omega) (by omega)]; exact hs) (by rw [(FE.j k2 0 12 rfl).p8_10 11 (by omega) (by omega)]; exact hp)), (hw.fe hv.2.2.2.2 (FE.j k2 0 2 rfl) (FW.j k4 4 2 rfl)), (hi.fe (FE.j k2 0 5 rfl) (FW.j k4 4 5 rfl)), (by rw [(FE.j k2 0 13 rfl).p8_13 15 (by omega) (by omega)]; omega), (by rw [(FE.j k2 0 12 rfl).p8_10 10 (by omega) (by omega)]; omega), hx.fe (FE.j k2 0 5 rfl) (FE.j k2 0 7 rfl) (FE.j k2 0 8 rfl) (FE.j k2 0 10 rfl)⟩
theorem op3_prepaid {c r : zM} {B a : Int} (ha : 0 ≤ a ∧ a ≤ 1) (hc : OM (B + 110000) c) (hr : OM (B + 110000) r) (hB : B + 220000 ≤ 700000000) (h2 : Rel2 B c r) (h : MY B (c 0) (r 4 45)) : MY (B + 220000) ((f135_1 a c).2 0) ((f284_1 a r).2 4 45) := by
  obtain ⟨-, k2, -⟩ := q135_1 a hc.1 hc.2 (by omega) ha
  obtain ⟨-, k4, -⟩ := q284_1 a hr.1 hr.2 (by omega) ha
  have h2' := op_prepaid ha hc hr (by omega) (h2.up (show B ≤ B + 110000 by omega))
  obtain ⟨hg, hw, hi, x15, x10, hx⟩ := id h
  obtain ⟨h1, hv, -, hb, hs, hp⟩ := id hg
  have hT := prepaid_S (a := a) ha h.1
  exact ⟨(MG.of h2'.1.1.symm (h1.n.fe (FE.j k2 0 13 rfl) (FW.j k4 4 13 rfl)) hT.1 (h1.r.fe (FE.j k2 0 10 rfl) (FW.j k4 4 10 rfl)) (h1.k.fe (FE.j k2 0 9 rfl) (FW.j k4 4 9 rfl)) hT.2.1 (h1.d.fe (FE.j k2 0 8 rfl) (FW.j k4 4 8 rfl)) (h1.ld.fe (FE.j k2 0 7 rfl) (FW.j k4 4 7 rfl)) (h1.od.fe (FE.j k2 0 7 rfl) ((FW.j k4 4 3 rfl) 8 (by omega) (by omega) (ja45_4 (by omega))) (FW.j k4 4 7 rfl)) (hv.fe (FE.j k2 0 2 rfl) (FE.j k2 0 3 rfl) (FW.j k4 4 2 rfl) (FW.j k4 4 3 rfl)) h2'.1.2.2.2 ((hb.cred (FE.j k2 0 7 rfl) (FE.j k2 0 9 rfl) (FE.j k2 0 10 rfl) (FE.j k2 0 13 rfl) (by rw [hT.2.2.2.2]; exact Int.le_refl _) (by rw [hT.2.2.2.2]; omega)).up (by omega) (by omega)) hT.2.2.1 hT.2.2.2.1), (hw.fe hv.2.2.2.2 (FE.j k2 0 2 rfl) (FW.j k4 4 2 rfl)), (hi.fe (FE.j k2 0 5 rfl) (FW.j k4 4 5 rfl)), (by rw [(FE.j k2 0 13 rfl).p8_13 15 (by omega) (by omega)]; omega), (by rw [hT.2.2.2.2]; omega), hx.fe (FE.j k2 0 5 rfl) (FE.j k2 0 7 rfl) (FE.j k2 0 8 rfl) (FE.j k2 0 10 rfl)⟩
theorem op3_pay {c r : zM} {B a : Int} (ha : I32 a) (hc : OM (B + 110000) c) (hr : OM (B + 110000) r) (hB : B + 220000 ≤ 700000000) (h2 : Rel2 B c r) (h : MY B (c 0) (r 4 45)) : (f136_1 a c).1 = (f285_1 a r).1 ∧ MY (B + 220000) ((f136_1 a c).2 0) ((f285_1 a r).2 4 45) := by
  obtain ⟨-, k2, -⟩ := q136_1 a hc.1 hc.2 (by omega) ha
  obtain ⟨-, k4, -⟩ := q285_1 a hr.1 hr.2 (by omega) ha
  have h2' := op_pay ha hc hr (by omega) (h2.up (show B ≤ B + 110000 by omega))
  obtain ⟨hg, hw, hi, x15, x10, hx⟩ := id h
  obtain ⟨h1, hv, -, hb, hs, hp⟩ := id hg
  have hT := pay_S (a := a) h.1 (by omega)
  exact ⟨hT.1, (MG.of h2'.1.1.symm (h1.n.fe (FE.j k2 0 13 rfl) (FW.j k4 4 13 rfl)) hT.2.1 (h1.r.fe (FE.j k2 0 10 rfl) (FW.j k4 4 10 rfl)) (h1.k.fe (FE.j k2 0 9 rfl) (FW.j k4 4 9 rfl)) hT.2.2.1 (h1.d.fe (FE.j k2 0 8 rfl) (FW.j k4 4 8 rfl)) (h1.ld.fe (FE.j k2 0 7 rfl) (FW.j k4 4 7 rfl)) (h1.od.fe (FE.j k2 0 7 rfl) ((FW.j k4 4 3 rfl) 8 (by omega) (by omega) (ja45_4 (by omega))) (FW.j k4 4 7 rfl)) (hv.fe (FE.j k2 0 2 rfl) (FE.j k2 0 3 rfl) (FW.j k4 4 2 rfl) (FW.j k4 4 3 rfl)) h2'.1.2.2.2 ((hb.cred (FE.j k2 0 7 rfl) (FE.j k2 0 9 rfl) (FE.j k2 0 10 rfl) (FE.j k2 0 13 rfl) hT.2.2.2.2.2.1 (by have := hT.2.2.2.2.2.2; omega)).up (by omega) (by omega)) hT.2.2.2.1 (by rw [hT.2.2.2.2.1]; exact hp)), (hw.fe hv.2.2.2.2 (FE.j k2 0 2 rfl) (FW.j k4 4 2 rfl)), (hi.fe (FE.j k2 0 5 rfl) (FW.j k4 4 5 rfl)), (by rw [(FE.j k2 0 13 rfl).p8_13 15 (by omega) (by omega)]; omega), (by have := hT.2.2.2.2.2.2; omega), hx.fe (FE.j k2 0 5 rfl) (FE.j k2 0 7 rfl) (FE.j k2 0 8 rfl) (FE.j k2 0 10 rfl)⟩
theorem op3_bill {c r : zM} {B : Int} (hc : OM (B + 110000) c) (hr : OM (B + 110000) r) (hB : B + 220000 ≤ 700000000) (h2 : Rel2 B c r) (h : MY B (c 0) (r 4 45)) : MY (B + 220000) ((f137_1 c).2 0) ((f286_1 r).2 4 45) := by
  obtain ⟨-, k2, -⟩ := q137_1 hc.1 hc.2 (by omega)
  obtain ⟨-, k4, -⟩ := q286_1 hr.1 hr.2 (by omega)
  have h2' := op_bill hc hr (by omega) (h2.up (show B ≤ B + 110000 by omega))
  obtain ⟨hg, hw, hi, x15, x10, hx⟩ := id h
  obtain ⟨h1, hv, -, hb, hs, hp⟩ := id hg
  have hT := bill_G h.1 (by omega) hi
  exact ⟨(MG.of h2'.1.1.symm (h1.n.fe (FE.j k2 0 13 rfl) (FW.j k4 4 13 rfl)) (h1.o.fe (FE.j k2 0 12 rfl) (FW.j k4 4 12 rfl)) (h1.r.fe (FE.j k2 0 10 rfl) (FW.j k4 4 10 rfl)) (h1.k.fe (FE.j k2 0 9 rfl) (FW.j k4 4 9 rfl)) hT.2.2 hT.2.1 (h1.ld.fe (FE.j k2 0 7 rfl) (FW.j k4 4 7 rfl)) (h1.od.fe (FE.j k2 0 7 rfl) ((FW.j k4 4 3 rfl) 8 (by omega) (by omega) (ja45_4 (by omega))) (FW.j k4 4 7 rfl)) (hv.fe (FE.j k2 0 2 rfl) (FE.j k2 0 3 rfl) (FW.j k4 4 2 rfl) (FW.j k4 4 3 rfl)) h2'.1.2.2.2 ((hb.fe (FE.j k2 0 7 rfl) (FE.j k2 0 9 rfl) (FE.j k2 0 10 rfl) (FE.j k2 0 12 rfl) (FE.j k2 0 13 rfl)).up (by omega) (by omega)) (by rw [(FE.j k2 0 12 rfl).p8_10 12 (by omega) (by omega), (FE.j k2 0 12 rfl).p8_10 11 (by omega) (by omega), (FE.j k2 0 12 rfl).p8_10 10 (by omega) (by omega)]; exact hs) (by rw [(FE.j k2 0 12 rfl).p8_10 11 (by omega) (by omega)]; exact hp)), (hw.fe hv.2.2.2.2 (FE.j k2 0 2 rfl) (FW.j k4 4 2 rfl)), hT.1, (by rw [(FE.j k2 0 13 rfl).p8_13 15 (by omega) (by omega)]; omega), (by rw [(FE.j k2 0 12 rfl).p8_10 10 (by omega) (by omega)]; omega), bill_X hc hb (by omega) hx⟩
theorem op3_feed {c r : zM} {B a b d e f : Int} (ha : I32 a) (hb9 : I32 b) (hd : I32 d) (he : I32 e) (hf : I32 f) (hc : OM (B + 110000) c) (hr : OM (B + 110000) r) (hB : B + 220000 ≤ 700000000) (h2 : Rel2 B c r) (h : MY B (c 0) (r 4 45)) : MY (B + 220000) ((f85_1 a b d e f c).2 0) ((f256_1 a b d e f r).2 4 45) := by
  obtain ⟨-, k2, -⟩ := q85_1 a b d e f hc.1 hc.2 (by omega) ha hb9 hd he hf
  obtain ⟨-, k4, -⟩ := q256_1 a b d e f hr.1 hr.2 (by omega) ha hb9 hd he hf
  have h2' := op_feed ha hb9 hd he hf hc hr (by omega) (h2.up (show B ≤ B + 110000 by omega))
  replace h2' := h2'.2
  obtain ⟨hg, hw, hi, x15, x10, hx⟩ := id h
  obtain ⟨h1, hv, -, hb, hs, hp⟩ := id hg
  exact ⟨(MG.of h2'.1.1.symm (h1.n.fe (FE.j k2 0 13 rfl) (FW.j k4 4 13 rfl)) (h1.o.fe (FE.j k2 0 12 rfl) (FW.j k4 4 12 rfl)) (h1.r.fe (FE.j k2 0 10 rfl) (FW.j k4 4 10 rfl)) (h1.k.fe (FE.j k2 0 9 rfl) (FW.j k4 4 9 rfl)) (h1.l.fe (FE.j k2 0 6 rfl) (FW.j k4 4 6 rfl)) (h1.d.fe (FE.j k2 0 8 rfl) (FW.j k4 4 8 rfl)) (h1.ld.fe (FE.j k2 0 7 rfl) (FW.j k4 4 7 rfl)) (h1.od.fe (FE.j k2 0 7 rfl) ((FW.j k4 4 3 rfl) 8 (by omega) (by omega) (ja45_4 (by omega))) (FW.j k4 4 7 rfl)) (hv.fe (FE.j k2 0 2 rfl) (FE.j k2 0 3 rfl) (FW.j k4 4 2 rfl) (FW.j k4 4 3 rfl)) h2'.1.2.2.2 ((hb.fe (FE.j k2 0 7 rfl) (FE.j k2 0 9 rfl) (FE.j k2 0 10 rfl) (FE.j k2 0 12 rfl) (FE.j k2 0 13 rfl)).up (by omega) (by omega)) (by rw [(FE.j k2 0 12 rfl).p8_10 12 (by omega) (by omega), (FE.j k2 0 12 rfl).p8_10 11 (by omega) (by omega), (FE.j k2 0 12 rfl).p8_10 10 (by omega) (by omega)]; exact hs) (by rw [(FE.j k2 0 12 rfl).p8_10 11 (by omega) (by omega)]; exact hp)), (hw.fe hv.2.2.2.2 (FE.j k2 0 2 rfl) (FW.j k4 4 2 rfl)), (hi.fe (FE.j k2 0 5 rfl) (FW.j k4 4 5 rfl)), (by rw [(FE.j k2 0 13 rfl).p8_13 15 (by omega) (by omega)]; omega), (by rw [(FE.j k2 0 12 rfl).p8_10 10 (by omega) (by omega)]; omega), hx.fe (FE.j k2 0 5 rfl) (FE.j k2 0 7 rfl) (FE.j k2 0 8 rfl) (FE.j k2 0 10 rfl)⟩
theorem op3_end {c r : zM} {B a : Int} (ha : I32 a) (hc : OM (B + 110000) c) (hr : OM (B + 110000) r) (hB : B + 220000 ≤ 700000000) (h2 : Rel2 B c r) (h : MY B (c 0) (r 4 45)) : MY (B + 220000) ((f88_1 a c).2 0) ((f258_1 a r).2 4 45) := by
  obtain ⟨-, k2, -⟩ := q88_1 a hc.1 hc.2 (by omega) ha
  obtain ⟨-, k4, -⟩ := q258_1 a hr.1 hr.2 (by omega) ha
  have h2' := op_end ha hc hr (by omega) (h2.up (show B ≤ B + 110000 by omega))
  replace h2' := h2'.2
  obtain ⟨hg, hw, hi, x15, x10, hx⟩ := id h
  obtain ⟨h1, hv, -, hb, hs, hp⟩ := id hg
  exact ⟨(MG.of h2'.1.1.symm (h1.n.fe (FE.j k2 0 13 rfl) (FW.j k4 4 13 rfl)) (h1.o.fe (FE.j k2 0 12 rfl) (FW.j k4 4 12 rfl)) (h1.r.fe (FE.j k2 0 10 rfl) (FW.j k4 4 10 rfl)) (h1.k.fe (FE.j k2 0 9 rfl) (FW.j k4 4 9 rfl)) (h1.l.fe (FE.j k2 0 6 rfl) (FW.j k4 4 6 rfl)) (h1.d.fe (FE.j k2 0 8 rfl) (FW.j k4 4 8 rfl)) (h1.ld.fe (FE.j k2 0 7 rfl) (FW.j k4 4 7 rfl)) (h1.od.fe (FE.j k2 0 7 rfl) ((FW.j k4 4 3 rfl) 8 (by omega) (by omega) (ja45_4 (by omega))) (FW.j k4 4 7 rfl)) (hv.fe (FE.j k2 0 2 rfl) (FE.j k2 0 3 rfl) (FW.j k4 4 2 rfl) (FW.j k4 4 3 rfl)) h2'.1.2.2.2 ((hb.fe (FE.j k2 0 7 rfl) (FE.j k2 0 9 rfl) (FE.j k2 0 10 rfl) (FE.j k2 0 12 rfl) (FE.j k2 0 13 rfl)).up (by omega) (by omega)) (by rw [(FE.j k2 0 12 rfl).p8_10 12 (by omega) (by omega), (FE.j k2 0 12 rfl).p8_10 11 (by omega) (by omega), (FE.j k2 0 12 rfl).p8_10 10 (by omega) (by omega)]; exact hs) (by rw [(FE.j k2 0 12 rfl).p8_10 11 (by omega) (by omega)]; exact hp)), (hw.fe hv.2.2.2.2 (FE.j k2 0 2 rfl) (FW.j k4 4 2 rfl)), (hi.fe (FE.j k2 0 5 rfl) (FW.j k4 4 5 rfl)), (by rw [(FE.j k2 0 13 rfl).p8_13 15 (by omega) (by omega)]; omega), (by rw [(FE.j k2 0 12 rfl).p8_10 10 (by omega) (by omega)]; omega), hx.fe (FE.j k2 0 5 rfl) (FE.j k2 0 7 rfl) (FE.j k2 0 8 rfl) (FE.j k2 0 10 rfl)⟩
theorem op3_calendar {c r : zM} {B : Int} (hc : OM (B + 110000) c) (hr : OM (B + 110000) r) (hB : B + 220000 ≤ 700000000) (h2 : Rel2 B c r) (h : MY B (c 0) (r 4 45)) : MY (B + 220000) ((f90_1 c).2 0) ((f260_1 r).2 4 45) := by
  obtain ⟨-, k2, -⟩ := q90_1 hc.1 hc.2 (by omega)
  obtain ⟨-, k4, -⟩ := q260_1 hr.1 hr.2 (by omega)
  have h2' := op_calendar hc hr (by omega) (h2.up (show B ≤ B + 110000 by omega))
  replace h2' := h2'.2
  obtain ⟨hg, hw, hi, x15, x10, hx⟩ := id h
  obtain ⟨h1, hv, -, hb, hs, hp⟩ := id hg
  have hT := calendar_G hc hr (by omega) (h2.1.2.2.1.up (show B ≤ B + 110000 by omega)) h2.2.2.2.1 h.1 hw hi
  exact ⟨(hT.1.up (by omega) (by omega)), hT.2.1, hT.2.2, (by rw [(FE.j k2 0 13 rfl).p8_13 15 (by omega) (by omega)]; omega), (by rw [(FE.j k2 0 12 rfl).p8_10 10 (by omega) (by omega)]; omega), hx.fe (FE.j k2 0 5 rfl) (FE.j k2 0 7 rfl) (FE.j k2 0 8 rfl) (FE.j k2 0 10 rfl)⟩
theorem st3_phases {m m1 m2 : zM} {B a b v w : Int} (ha : -2147483648 ≤ a ∧ a ≤ 2147483647) (hb : -2147483648 ≤ b ∧ b ≤ 2147483647) (hk : z_mok lL m) (hJ : JB B m) (hB : B + 220000 ≤ 700000000) (h : Rel3 B m m) (e1 : f16_1 a b m = (v, m1)) (e2 : f202_1 a b m1 = (w, m2)) : v = w ∧ Rel3 (B + 220000) m2 m2 := by
  obtain ⟨k1, k2, -⟩ := q16_1 a b hk hJ (by omega) ha hb
  rw [e1] at k1 k2
  try dsimp only at k1 k2
  have o0 : OM (B + 110000) m := ⟨hk, hJ.up (by omega)⟩
  have o1 : OM (B + 110000) m1 := ⟨k1, k2.jb.up (by omega)⟩
  obtain ⟨-, k4, -⟩ := q202_1 a b o1.1 o1.2 (by omega) ha hb
  rw [e2] at k4
  try dsimp only at k4
  have g2 := st_phases ha hb hk hJ (by omega) h.1 e1 e2
  have h2 : Rel2 B m m1 := h.1.rj k2 rfl rfl
  have e45 : m1 4 45 = m 4 45 := k2.row 45 rfl rfl 4
  have g := op3_phases ha hb o0 o1 hB h2 (by rw [e45]; exact h.2.1)
  rw [e1, e2] at g
  try dsimp only at g
  exact ⟨g2.1, ⟨g2.2, by rw [jy k4 (g := 0) rfl]; exact g, h.img k2 k4 (by omega) rfl rfl rfl rfl rfl rfl rfl⟩⟩
theorem st3_sample {m m1 m2 : zM} {B a b v w : Int} (ha : -2147483648 ≤ a ∧ a ≤ 2147483647) (hb : -2147483648 ≤ b ∧ b ≤ 2147483647) (hk : z_mok lL m) (hJ : JB B m) (hB : B + 220000 ≤ 700000000) (h : Rel3 B m m) (e1 : f19_1 a b m = (v, m1)) (e2 : f205_1 a b m1 = (w, m2)) : v = w ∧ Rel3 (B + 220000) m2 m2 := by
  obtain ⟨k1, k2, -⟩ := q19_1 a b hk hJ (by omega) ha hb
  rw [e1] at k1 k2
  try dsimp only at k1 k2
  have o0 : OM (B + 110000) m := ⟨hk, hJ.up (by omega)⟩
  have o1 : OM (B + 110000) m1 := ⟨k1, k2.jb.up (by omega)⟩
  obtain ⟨-, k4, -⟩ := q205_1 a b o1.1 o1.2 (by omega) ha hb
  rw [e2] at k4
  try dsimp only at k4
  have g2 := st_sample ha hb hk hJ (by omega) h.1 e1 e2
  have h2 : Rel2 B m m1 := h.1.rj k2 rfl rfl
  have e45 : m1 4 45 = m 4 45 := k2.row 45 rfl rfl 4
  have g := op3_sample ha hb o0 o1 hB h2 (by rw [e45]; exact h.2.1)
  rw [e1, e2] at g
  try dsimp only at g
  exact ⟨g2.1, ⟨g2.2, by rw [jy k4 (g := 0) rfl]; exact g, h.img k2 k4 (by omega) rfl rfl rfl rfl rfl rfl rfl⟩⟩
theorem st3_again {m m1 m2 : zM} {B a v w : Int} (ha : -2147483648 ≤ a ∧ a ≤ 2147483647) (hk : z_mok lL m) (hJ : JB B m) (hB : B + 220000 ≤ 700000000) (h : Rel3 B m m) (e1 : f69_1 a m = (v, m1)) (e2 : f279_1 a m1 = (w, m2)) : v = w ∧ Rel3 (B + 220000) m2 m2 := by
  obtain ⟨k1, k2, -⟩ := q69_1 a hk hJ (by omega) ha
  rw [e1] at k1 k2
  try dsimp only at k1 k2
  have o0 : OM (B + 110000) m := ⟨hk, hJ.up (by omega)⟩
  have o1 : OM (B + 110000) m1 := ⟨k1, k2.jb.up (by omega)⟩
  obtain ⟨-, k4, -⟩ := q279_1 a o1.1 o1.2 (by omega) ha
  rw [e2] at k4
  try dsimp only at k4
  have g2 := st_again ha hk hJ (by omega) h.1 e1 e2
  have h2 : Rel2 B m m1 := h.1.rj k2 rfl rfl
  have e45 : m1 4 45 = m 4 45 := k2.row 45 rfl rfl 4
  have g := op3_again ha o0 o1 hB h2 (by rw [e45]; exact h.2.1)
  rw [e1, e2] at g
  try dsimp only at g
  exact ⟨g.1, ⟨g2, by rw [jy k4 (g := 0) rfl]; exact g.2, h.img k2 k4 (by omega) rfl rfl rfl rfl rfl rfl rfl⟩⟩
theorem st3_set {m m1 m2 : zM} {B a b v w : Int} (ha : -2147483648 ≤ a ∧ a ≤ 2147483647) (hb : -2147483648 ≤ b ∧ b ≤ 2147483647) (hk : z_mok lL m) (hJ : JB B m) (hB : B + 220000 ≤ 700000000) (h : Rel3 B m m) (e1 : f73_1 a b m = (v, m1)) (e2 : f280_1 a b m1 = (w, m2)) : v = w ∧ Rel3 (B + 220000) m2 m2 := by
  obtain ⟨k1, k2, -⟩ := q73_1 a b hk hJ (by omega) ha hb
  rw [e1] at k1 k2
  try dsimp only at k1 k2
  have o0 : OM (B + 110000) m := ⟨hk, hJ.up (by omega)⟩
  have o1 : OM (B + 110000) m1 := ⟨k1, k2.jb.up (by omega)⟩
  obtain ⟨-, k4, -⟩ := q280_1 a b o1.1 o1.2 (by omega) ha hb
  rw [e2] at k4
  try dsimp only at k4
  have g2 := st_set ha hb hk hJ (by omega) h.1 e1 e2
  have h2 : Rel2 B m m1 := h.1.rj k2 rfl rfl
  have e45 : m1 4 45 = m 4 45 := k2.row 45 rfl rfl 4
  have g := op3_set ha hb o0 o1 hB h2 (by rw [e45]; exact h.2.1)
  rw [e1, e2] at g
  try dsimp only at g
  exact ⟨g.1, ⟨g2, by rw [jy k4 (g := 0) rfl]; exact g.2, h.img k2 k4 (by omega) rfl rfl rfl rfl rfl rfl rfl⟩⟩
theorem st3_table {m m1 m2 : zM} {B a b d v w : Int} (ha : -2147483648 ≤ a ∧ a ≤ 2147483647) (hb : -2147483648 ≤ b ∧ b ≤ 2147483647) (hd : -2147483648 ≤ d ∧ d ≤ 2147483647) (hk : z_mok lL m) (hJ : JB B m) (hB : B + 220000 ≤ 700000000) (h : Rel3 B m m) (e1 : f78_1 a b d m = (v, m1)) (e2 : f240_1 a b d m1 = (w, m2)) : v = w ∧ Rel3 (B + 220000) m2 m2 := by
  obtain ⟨k1, k2, -⟩ := q78_1 a b d hk hJ (by omega) ha hb hd
  rw [e1] at k1 k2
  try dsimp only at k1 k2
  have o0 : OM (B + 110000) m := ⟨hk, hJ.up (by omega)⟩
  have o1 : OM (B + 110000) m1 := ⟨k1, k2.jb.up (by omega)⟩
  obtain ⟨-, k4, -⟩ := q240_1 a b d o1.1 o1.2 (by omega) ha hb hd
  rw [e2] at k4
  try dsimp only at k4
  have g2 := st_table ha hb hd hk hJ (by omega) h.1 e1 e2
  have h2 : Rel2 B m m1 := h.1.rj k2 rfl rfl
  have e45 : m1 4 45 = m 4 45 := k2.row 45 rfl rfl 4
  have g := op3_table ha hb hd o0 o1 hB h2 (by rw [e45]; exact h.2.1)
  rw [e1, e2] at g
  try dsimp only at g
  exact ⟨g2.1, ⟨g2.2, by rw [jy k4 (g := 0) rfl]; exact g, h.img k2 k4 (by omega) rfl rfl rfl rfl rfl rfl rfl⟩⟩
theorem st3_wipe {m m1 m2 : zM} {B a v w : Int} (ha : -2147483648 ≤ a ∧ a ≤ 2147483647) (hk : z_mok lL m) (hJ : JB B m) (hB : B + 220000 ≤ 700000000) (h : Rel3 B m m) (e1 : f83_1 a m = (v, m1)) (e2 : f244_1 a m1 = (w, m2)) : v = w ∧ Rel3 (B + 220000) m2 m2 := by
  obtain ⟨k1, k2, -⟩ := q83_1 a hk hJ (by omega) ha
  rw [e1] at k1 k2
  try dsimp only at k1 k2
  have o0 : OM (B + 110000) m := ⟨hk, hJ.up (by omega)⟩
  have o1 : OM (B + 110000) m1 := ⟨k1, k2.jb.up (by omega)⟩
  obtain ⟨-, k4, -⟩ := q244_1 a o1.1 o1.2 (by omega) ha
  rw [e2] at k4
  try dsimp only at k4
  have g2 := st_wipe ha hk hJ (by omega) h.1 e1 e2
  have h2 : Rel2 B m m1 := h.1.rj k2 rfl rfl
  have e45 : m1 4 45 = m 4 45 := k2.row 45 rfl rfl 4
  have g := op3_wipe ha o0 o1 hB h2 (by rw [e45]; exact h.2.1)
  rw [e1, e2] at g
  try dsimp only at g
  exact ⟨g2.1, ⟨g2.2, by rw [jy k4 (g := 0) rfl]; exact g, h.img k2 k4 (by omega) rfl rfl rfl rfl rfl rfl rfl⟩⟩
theorem st3_season {m m1 m2 : zM} {B a b v w : Int} (ha : -2147483648 ≤ a ∧ a ≤ 2147483647) (hb : -2147483648 ≤ b ∧ b ≤ 2147483647) (hk : z_mok lL m) (hJ : JB B m) (hB : B + 220000 ≤ 700000000) (h : Rel3 B m m) (e1 : f122_1 a b m = (v, m1)) (e2 : f245_1 a b m1 = (w, m2)) : v = w ∧ Rel3 (B + 220000) m2 m2 := by
  obtain ⟨k1, k2, -⟩ := q122_1 a b hk hJ (by omega) ha hb
  rw [e1] at k1 k2
  try dsimp only at k1 k2
  have o0 : OM (B + 110000) m := ⟨hk, hJ.up (by omega)⟩
  have o1 : OM (B + 110000) m1 := ⟨k1, k2.jb.up (by omega)⟩
  obtain ⟨-, k4, -⟩ := q245_1 a b o1.1 o1.2 (by omega) ha hb
  rw [e2] at k4
  try dsimp only at k4
  have g2 := st_season ha hb hk hJ (by omega) h.1 e1 e2
  have h2 : Rel2 B m m1 := h.1.rj k2 rfl rfl
  have e45 : m1 4 45 = m 4 45 := k2.row 45 rfl rfl 4
  have g := op3_season ha hb o0 o1 hB h2 (by rw [e45]; exact h.2.1)
  rw [e1, e2] at g
  try dsimp only at g
  exact ⟨g2.1, ⟨g2.2, by rw [jy k4 (g := 0) rfl]; exact g, h.img k2 k4 (by omega) rfl rfl rfl rfl rfl rfl rfl⟩⟩
theorem st3_week {m m1 m2 : zM} {B a b d v w : Int} (ha : -2147483648 ≤ a ∧ a ≤ 2147483647) (hb : -2147483648 ≤ b ∧ b ≤ 2147483647) (hd : -2147483648 ≤ d ∧ d ≤ 2147483647) (hk : z_mok lL m) (hJ : JB B m) (hB : B + 220000 ≤ 700000000) (h : Rel3 B m m) (e1 : f124_1 a b d m = (v, m1)) (e2 : f247_1 a b d m1 = (w, m2)) : v = w ∧ Rel3 (B + 220000) m2 m2 := by
  obtain ⟨k1, k2, -⟩ := q124_1 a b d hk hJ (by omega) ha hb hd
  rw [e1] at k1 k2
  try dsimp only at k1 k2
  have o0 : OM (B + 110000) m := ⟨hk, hJ.up (by omega)⟩
  have o1 : OM (B + 110000) m1 := ⟨k1, k2.jb.up (by omega)⟩
  obtain ⟨-, k4, -⟩ := q247_1 a b d o1.1 o1.2 (by omega) ha hb hd
  rw [e2] at k4
  try dsimp only at k4
  have g2 := st_week ha hb hd hk hJ (by omega) h.1 e1 e2
  have h2 : Rel2 B m m1 := h.1.rj k2 rfl rfl
  have e45 : m1 4 45 = m 4 45 := k2.row 45 rfl rfl 4
  have g := op3_week ha hb hd o0 o1 hB h2 (by rw [e45]; exact h.2.1)
  rw [e1, e2] at g
  try dsimp only at g
  exact ⟨g2.1, ⟨g2.2, by rw [jy k4 (g := 0) rfl]; exact g, h.img k2 k4 (by omega) rfl rfl rfl rfl rfl rfl rfl⟩⟩
theorem st3_special {m m1 m2 : zM} {B a b v w : Int} (ha : -2147483648 ≤ a ∧ a ≤ 2147483647) (hb : -2147483648 ≤ b ∧ b ≤ 2147483647) (hk : z_mok lL m) (hJ : JB B m) (hB : B + 220000 ≤ 700000000) (h : Rel3 B m m) (e1 : f125_1 a b m = (v, m1)) (e2 : f248_1 a b m1 = (w, m2)) : v = w ∧ Rel3 (B + 220000) m2 m2 := by
  obtain ⟨k1, k2, -⟩ := q125_1 a b hk hJ (by omega) ha hb
  rw [e1] at k1 k2
  try dsimp only at k1 k2
  have o0 : OM (B + 110000) m := ⟨hk, hJ.up (by omega)⟩
  have o1 : OM (B + 110000) m1 := ⟨k1, k2.jb.up (by omega)⟩
  obtain ⟨-, k4, -⟩ := q248_1 a b o1.1 o1.2 (by omega) ha hb
  rw [e2] at k4
  try dsimp only at k4
  have g2 := st_special ha hb hk hJ (by omega) h.1 e1 e2
  have h2 : Rel2 B m m1 := h.1.rj k2 rfl rfl
  have e45 : m1 4 45 = m 4 45 := k2.row 45 rfl rfl 4
  have g := op3_special ha hb o0 o1 hB h2 (by rw [e45]; exact h.2.1)
  rw [e1, e2] at g
  try dsimp only at g
  exact ⟨g2.1, ⟨g2.2, by rw [jy k4 (g := 0) rfl]; exact g, h.img k2 k4 (by omega) rfl rfl rfl rfl rfl rfl rfl⟩⟩
theorem st3_seal {m m1 m2 : zM} {B a v w : Int} (ha : -2147483648 ≤ a ∧ a ≤ 2147483647) (hk : z_mok lL m) (hJ : JB B m) (hB : B + 220000 ≤ 700000000) (h : Rel3 B m m) (e1 : f114_1 a m = (v, m1)) (e2 : f276_1 a m1 = (w, m2)) : v = w ∧ Rel3 (B + 220000) m2 m2 := by
  obtain ⟨k1, k2, -⟩ := q114_1 a hk hJ (by omega) ha
  rw [e1] at k1 k2
  try dsimp only at k1 k2
  have o0 : OM (B + 110000) m := ⟨hk, hJ.up (by omega)⟩
  have o1 : OM (B + 110000) m1 := ⟨k1, k2.jb.up (by omega)⟩
  obtain ⟨-, k4, -⟩ := q276_1 a o1.1 o1.2 (by omega) ha
  rw [e2] at k4
  try dsimp only at k4
  have g2 := st_seal ha hk hJ (by omega) h.1 e1 e2
  have h2 : Rel2 B m m1 := h.1.rj k2 rfl rfl
  have e45 : m1 4 45 = m 4 45 := k2.row 45 rfl rfl 4
  have g := op3_seal ha o0 o1 hB h2 (by rw [e45]; exact h.2.1)
  rw [e1, e2] at g
  try dsimp only at g
  exact ⟨g2.1, ⟨g2.2, by rw [jy k4 (g := 0) rfl]; exact g, h.img k2 k4 (by omega) rfl rfl rfl rfl rfl rfl rfl⟩⟩
theorem st3_open {m m1 m2 : zM} {B a v w : Int} (ha : -2147483648 ≤ a ∧ a ≤ 2147483647) (hk : z_mok lL m) (hJ : JB B m) (hB : B + 220000 ≤ 700000000) (h : Rel3 B m m) (e1 : f116_1 a m = (v, m1)) (e2 : f277_1 a m1 = (w, m2)) : v = w ∧ Rel3 (B + 220000) m2 m2 := by
  obtain ⟨k1, k2, -⟩ := q116_1 a hk hJ (by omega) ha
  rw [e1] at k1 k2
  try dsimp only at k1 k2
  have o0 : OM (B + 110000) m := ⟨hk, hJ.up (by omega)⟩
  have o1 : OM (B + 110000) m1 := ⟨k1, k2.jb.up (by omega)⟩
  obtain ⟨-, k4, -⟩ := q277_1 a o1.1 o1.2 (by omega) ha
  rw [e2] at k4
  try dsimp only at k4
  have g2 := st_open ha hk hJ (by omega) h.1 e1 e2
  have h2 : Rel2 B m m1 := h.1.rj k2 rfl rfl
  have e45 : m1 4 45 = m 4 45 := k2.row 45 rfl rfl 4
  have g := op3_open ha o0 o1 hB h2 (by rw [e45]; exact h.2.1)
  rw [e1, e2] at g
  try dsimp only at g
  exact ⟨g2.1, ⟨g2.2, by rw [jy k4 (g := 0) rfl]; exact g, h.img k2 k4 (by omega) rfl rfl rfl rfl rfl rfl rfl⟩⟩
theorem st3_move {m m1 m2 : zM} {B a v w : Int} (ha : -2147483648 ≤ a ∧ a ≤ 2147483647) (hk : z_mok lL m) (hJ : JB B m) (hB : B + 220000 ≤ 700000000) (h : Rel3 B m m) (e1 : f127_1 a m = (v, m1)) (e2 : f281_1 a m1 = (w, m2)) : v = w ∧ Rel3 (B + 220000) m2 m2 := by
  obtain ⟨k1, k2, -⟩ := q127_1 a hk hJ (by omega) ha
  rw [e1] at k1 k2
  try dsimp only at k1 k2
  have o0 : OM (B + 110000) m := ⟨hk, hJ.up (by omega)⟩
  have o1 : OM (B + 110000) m1 := ⟨k1, k2.jb.up (by omega)⟩
  obtain ⟨-, k4, -⟩ := q281_1 a o1.1 o1.2 (by omega) ha
  rw [e2] at k4
  try dsimp only at k4
  have g2 := st_move ha hk hJ (by omega) h.1 e1 e2
  have h2 : Rel2 B m m1 := h.1.rj k2 rfl rfl
  have e45 : m1 4 45 = m 4 45 := k2.row 45 rfl rfl 4
  have g := op3_move ha o0 o1 hB h2 (by rw [e45]; exact h.2.1)
  rw [e1, e2] at g
  try dsimp only at g
  exact ⟨g2.1, ⟨g2.2, by rw [jy k4 (g := 0) rfl]; exact g, h.img k2 k4 (by omega) rfl rfl rfl rfl rfl rfl rfl⟩⟩
theorem st3_off {m m1 m2 : zM} {B a v w : Int} (ha : -2147483648 ≤ a ∧ a ≤ 2147483647) (hk : z_mok lL m) (hJ : JB B m) (hB : B + 220000 ≤ 700000000) (h : Rel3 B m m) (e1 : f130_1 a m = (v, m1)) (e2 : f282_1 a m1 = (w, m2)) : v = w ∧ Rel3 (B + 220000) m2 m2 := by
  obtain ⟨k1, k2, -⟩ := q130_1 a hk hJ (by omega) ha
  rw [e1] at k1 k2
  try dsimp only at k1 k2
  have o0 : OM (B + 110000) m := ⟨hk, hJ.up (by omega)⟩
  have o1 : OM (B + 110000) m1 := ⟨k1, k2.jb.up (by omega)⟩
  obtain ⟨-, k4, -⟩ := q282_1 a o1.1 o1.2 (by omega) ha
  rw [e2] at k4
  try dsimp only at k4
  have g2 := st_off ha hk hJ (by omega) h.1 e1 e2
  have h2 : Rel2 B m m1 := h.1.rj k2 rfl rfl
  have e45 : m1 4 45 = m 4 45 := k2.row 45 rfl rfl 4
  have g := op3_off ha o0 o1 hB h2 (by rw [e45]; exact h.2.1)
  rw [e1, e2] at g
  try dsimp only at g
  exact ⟨g2.1, ⟨g2.2, by rw [jy k4 (g := 0) rfl]; exact g, h.img k2 k4 (by omega) rfl rfl rfl rfl rfl rfl rfl⟩⟩
theorem st3_mark {m m1 m2 : zM} {B a b v w : Int} (ha : -2147483648 ≤ a ∧ a ≤ 2147483647) (hb : 0 ≤ b ∧ b ≤ 1) (hk : z_mok lL m) (hJ : JB B m) (hB : B + 220000 ≤ 700000000) (h : Rel3 B m m) (e1 : f134_1 a b m = (v, m1)) (e2 : f283_1 a b m1 = (w, m2)) : Rel3 (B + 220000) m2 m2 := by
  obtain ⟨k1, k2, -⟩ := q134_1 a b hk hJ (by omega) ha hb
  rw [e1] at k1 k2
  try dsimp only at k1 k2
  have o0 : OM (B + 110000) m := ⟨hk, hJ.up (by omega)⟩
  have o1 : OM (B + 110000) m1 := ⟨k1, k2.jb.up (by omega)⟩
  obtain ⟨-, k4, -⟩ := q283_1 a b o1.1 o1.2 (by omega) ha hb
  rw [e2] at k4
  try dsimp only at k4
  have g2 := st_mark ha hb hk hJ (by omega) h.1 e1 e2
  have h2 : Rel2 B m m1 := h.1.rj k2 rfl rfl
  have e45 : m1 4 45 = m 4 45 := k2.row 45 rfl rfl 4
  have g := op3_mark ha hb o0 o1 hB h2 (by rw [e45]; exact h.2.1)
  rw [e1, e2] at g
  try dsimp only at g
  exact ⟨g2, by rw [jy k4 (g := 0) rfl]; exact g, h.img k2 k4 (by omega) rfl rfl rfl rfl rfl rfl rfl⟩
theorem st3_prepaid {m m1 m2 : zM} {B a v w : Int} (ha : 0 ≤ a ∧ a ≤ 1) (hk : z_mok lL m) (hJ : JB B m) (hB : B + 220000 ≤ 700000000) (h : Rel3 B m m) (e1 : f135_1 a m = (v, m1)) (e2 : f284_1 a m1 = (w, m2)) : Rel3 (B + 220000) m2 m2 := by
  obtain ⟨k1, k2, -⟩ := q135_1 a hk hJ (by omega) ha
  rw [e1] at k1 k2
  try dsimp only at k1 k2
  have o0 : OM (B + 110000) m := ⟨hk, hJ.up (by omega)⟩
  have o1 : OM (B + 110000) m1 := ⟨k1, k2.jb.up (by omega)⟩
  obtain ⟨-, k4, -⟩ := q284_1 a o1.1 o1.2 (by omega) ha
  rw [e2] at k4
  try dsimp only at k4
  have g2 := st_prepaid ha hk hJ (by omega) h.1 e1 e2
  have h2 : Rel2 B m m1 := h.1.rj k2 rfl rfl
  have e45 : m1 4 45 = m 4 45 := k2.row 45 rfl rfl 4
  have g := op3_prepaid ha o0 o1 hB h2 (by rw [e45]; exact h.2.1)
  rw [e1, e2] at g
  try dsimp only at g
  exact ⟨g2, by rw [jy k4 (g := 0) rfl]; exact g, h.img k2 k4 (by omega) rfl rfl rfl rfl rfl rfl rfl⟩
theorem st3_pay {m m1 m2 : zM} {B a v w : Int} (ha : -2147483648 ≤ a ∧ a ≤ 2147483647) (hk : z_mok lL m) (hJ : JB B m) (hB : B + 220000 ≤ 700000000) (h : Rel3 B m m) (e1 : f136_1 a m = (v, m1)) (e2 : f285_1 a m1 = (w, m2)) : v = w ∧ Rel3 (B + 220000) m2 m2 := by
  obtain ⟨k1, k2, -⟩ := q136_1 a hk hJ (by omega) ha
  rw [e1] at k1 k2
  try dsimp only at k1 k2
  have o0 : OM (B + 110000) m := ⟨hk, hJ.up (by omega)⟩
  have o1 : OM (B + 110000) m1 := ⟨k1, k2.jb.up (by omega)⟩
  obtain ⟨-, k4, -⟩ := q285_1 a o1.1 o1.2 (by omega) ha
  rw [e2] at k4
  try dsimp only at k4
  have g2 := st_pay ha hk hJ (by omega) h.1 e1 e2
  have h2 : Rel2 B m m1 := h.1.rj k2 rfl rfl
  have e45 : m1 4 45 = m 4 45 := k2.row 45 rfl rfl 4
  have g := op3_pay ha o0 o1 hB h2 (by rw [e45]; exact h.2.1)
  rw [e1, e2] at g
  try dsimp only at g
  exact ⟨g.1, ⟨g2, by rw [jy k4 (g := 0) rfl]; exact g.2, h.img k2 k4 (by omega) rfl rfl rfl rfl rfl rfl rfl⟩⟩
theorem st3_bill {m m1 m2 : zM} {B v w : Int} (hk : z_mok lL m) (hJ : JB B m) (hB : B + 220000 ≤ 700000000) (h : Rel3 B m m) (e1 : f137_1 m = (v, m1)) (e2 : f286_1 m1 = (w, m2)) : Rel3 (B + 220000) m2 m2 := by
  obtain ⟨k1, k2, -⟩ := q137_1 hk hJ (by omega)
  rw [e1] at k1 k2
  try dsimp only at k1 k2
  have o0 : OM (B + 110000) m := ⟨hk, hJ.up (by omega)⟩
  have o1 : OM (B + 110000) m1 := ⟨k1, k2.jb.up (by omega)⟩
  obtain ⟨-, k4, -⟩ := q286_1 o1.1 o1.2 (by omega)
  rw [e2] at k4
  try dsimp only at k4
  have g2 := st_bill hk hJ (by omega) h.1 e1 e2
  have h2 : Rel2 B m m1 := h.1.rj k2 rfl rfl
  have e45 : m1 4 45 = m 4 45 := k2.row 45 rfl rfl 4
  have g := op3_bill o0 o1 hB h2 (by rw [e45]; exact h.2.1)
  rw [e1, e2] at g
  try dsimp only at g
  exact ⟨g2, by rw [jy k4 (g := 0) rfl]; exact g, h.img k2 k4 (by omega) rfl rfl rfl rfl rfl rfl rfl⟩
theorem st3_feed {m m1 m2 : zM} {B a b d e f v w : Int} (ha : -2147483648 ≤ a ∧ a ≤ 2147483647) (hb : -2147483648 ≤ b ∧ b ≤ 2147483647) (hd : -2147483648 ≤ d ∧ d ≤ 2147483647) (he : -2147483648 ≤ e ∧ e ≤ 2147483647) (hf : -2147483648 ≤ f ∧ f ≤ 2147483647) (hk : z_mok lL m) (hJ : JB B m) (hB : B + 220000 ≤ 700000000) (h : Rel3 B m m) (e1 : f85_1 a b d e f m = (v, m1)) (e2 : f256_1 a b d e f m1 = (w, m2)) : v = w ∧ Rel3 (B + 220000) m2 m2 := by
  obtain ⟨k1, k2, -⟩ := q85_1 a b d e f hk hJ (by omega) ha hb hd he hf
  rw [e1] at k1 k2
  try dsimp only at k1 k2
  have o0 : OM (B + 110000) m := ⟨hk, hJ.up (by omega)⟩
  have o1 : OM (B + 110000) m1 := ⟨k1, k2.jb.up (by omega)⟩
  obtain ⟨-, k4, -⟩ := q256_1 a b d e f o1.1 o1.2 (by omega) ha hb hd he hf
  rw [e2] at k4
  try dsimp only at k4
  have g2 := st_feed ha hb hd he hf hk hJ (by omega) h.1 e1 e2
  have h2 : Rel2 B m m1 := h.1.rj k2 rfl rfl
  have e45 : m1 4 45 = m 4 45 := k2.row 45 rfl rfl 4
  have g := op3_feed ha hb hd he hf o0 o1 hB h2 (by rw [e45]; exact h.2.1)
  rw [e1, e2] at g
  try dsimp only at g
  exact ⟨g2.1, ⟨g2.2, by rw [jy k4 (g := 0) rfl]; exact g, h.img k2 k4 (by omega) rfl rfl rfl rfl rfl rfl rfl⟩⟩
theorem st3_end {m m1 m2 : zM} {B a v w : Int} (ha : -2147483648 ≤ a ∧ a ≤ 2147483647) (hk : z_mok lL m) (hJ : JB B m) (hB : B + 220000 ≤ 700000000) (h : Rel3 B m m) (e1 : f88_1 a m = (v, m1)) (e2 : f258_1 a m1 = (w, m2)) : v = w ∧ Rel3 (B + 220000) m2 m2 := by
  obtain ⟨k1, k2, -⟩ := q88_1 a hk hJ (by omega) ha
  rw [e1] at k1 k2
  try dsimp only at k1 k2
  have o0 : OM (B + 110000) m := ⟨hk, hJ.up (by omega)⟩
  have o1 : OM (B + 110000) m1 := ⟨k1, k2.jb.up (by omega)⟩
  obtain ⟨-, k4, -⟩ := q258_1 a o1.1 o1.2 (by omega) ha
  rw [e2] at k4
  try dsimp only at k4
  have g2 := st_end ha hk hJ (by omega) h.1 e1 e2
  have h2 : Rel2 B m m1 := h.1.rj k2 rfl rfl
  have e45 : m1 4 45 = m 4 45 := k2.row 45 rfl rfl 4
  have g := op3_end ha o0 o1 hB h2 (by rw [e45]; exact h.2.1)
  rw [e1, e2] at g
  try dsimp only at g
  exact ⟨g2.1, ⟨g2.2, by rw [jy k4 (g := 0) rfl]; exact g, h.img k2 k4 (by omega) rfl rfl rfl rfl rfl rfl rfl⟩⟩
theorem st3_calendar {m m1 m2 : zM} {B v w : Int} (hk : z_mok lL m) (hJ : JB B m) (hB : B + 220000 ≤ 700000000) (h : Rel3 B m m) (e1 : f90_1 m = (v, m1)) (e2 : f260_1 m1 = (w, m2)) : v = w ∧ Rel3 (B + 220000) m2 m2 := by
  obtain ⟨k1, k2, -⟩ := q90_1 hk hJ (by omega)
  rw [e1] at k1 k2
  try dsimp only at k1 k2
  have o0 : OM (B + 110000) m := ⟨hk, hJ.up (by omega)⟩
  have o1 : OM (B + 110000) m1 := ⟨k1, k2.jb.up (by omega)⟩
  obtain ⟨-, k4, -⟩ := q260_1 o1.1 o1.2 (by omega)
  rw [e2] at k4
  try dsimp only at k4
  have g2 := st_calendar hk hJ (by omega) h.1 e1 e2
  have h2 : Rel2 B m m1 := h.1.rj k2 rfl rfl
  have e45 : m1 4 45 = m 4 45 := k2.row 45 rfl rfl 4
  have g := op3_calendar o0 o1 hB h2 (by rw [e45]; exact h.2.1)
  rw [e1, e2] at g
  try dsimp only at g
  exact ⟨g2.1, ⟨g2.2, by rw [jy k4 (g := 0) rfl]; exact g, h.img k2 k4 (by omega) rfl rfl rfl rfl rfl rfl rfl⟩⟩
theorem st3_would {m m1 m2 : zM} {B a b v w : Int} (ha : -2147483648 ≤ a ∧ a ≤ 2147483647) (hb : -2147483648 ≤ b ∧ b ≤ 2147483647) (hk : z_mok lL m) (hJ : JB B m) (hB : B + 220000 ≤ 700000000) (h : Rel3 B m m) (e1 : f170_1 a b m = (v, m1)) (e2 : f302_1 a b m1 = (w, m2)) : v = w ∧ Rel3 (B + 220000) m2 m2 := by
  obtain ⟨k1, k2, -⟩ := q170_1 a b hk hJ (by omega) ha hb
  rw [e1] at k1 k2
  try dsimp only at k1 k2
  have o0 : OM (B + 110000) m := ⟨hk, hJ.up (by omega)⟩
  have o1 : OM (B + 110000) m1 := ⟨k1, k2.jb.up (by omega)⟩
  obtain ⟨-, k4, -⟩ := q302_1 a b o1.1 o1.2 (by omega) ha hb
  rw [e2] at k4
  try dsimp only at k4
  have g2 := st_would ha hb hk hJ (by omega) h.1 e1 e2
  have e45 : m1 4 45 = m 4 45 := k2.row 45 rfl rfl 4
  have ga := would_A (A := B / 244) (Z := B / 2) (a := a) (b := b) o0 o1 (by omega) (by omega) (by omega) (by rw [e45]; exact h.2.1.1)
  have gw := would_w (a := a) (b := b) o1 (by omega)
  rw [e1, e2] at ga
  rw [e2] at gw
  try dsimp only at ga gw
  refine ⟨ga, g2, ?_, h.img k2 k4 (by omega) rfl rfl rfl rfl rfl rfl rfl⟩
  rw [jy k4 (g := 0) rfl, jy k2 (g := 0) rfl]
  exact (h.2.1.all (CB.of hJ 0) (fun n => FE.rf n _) (fun i i0 i1 => by rw [gw i i0 i1, e45])).up (by omega)
theorem st3_lasts {m m1 m2 : zM} {B v w : Int} (hk : z_mok lL m) (hJ : JB B m) (hB : B + 220000 ≤ 700000000) (h : Rel3 B m m) (e1 : f184_1 m = (v, m1)) (e2 : f309_1 m1 = (w, m2)) : v = w ∧ Rel3 (B + 220000) m2 m2 := by
  obtain ⟨k1, k2, -⟩ := q184_1 hk hJ (by omega)
  rw [e1] at k1 k2
  try dsimp only at k1 k2
  have o0 : OM (B + 110000) m := ⟨hk, hJ.up (by omega)⟩
  have o1 : OM (B + 110000) m1 := ⟨k1, k2.jb.up (by omega)⟩
  obtain ⟨-, k4, -⟩ := q309_1 o1.1 o1.2 (by omega)
  rw [e2] at k4
  try dsimp only at k4
  have g2 := st_lasts hk hJ (by omega) h.1 e1 e2
  have e45 : m1 4 45 = m 4 45 := k2.row 45 rfl rfl 4
  have ga := lasts_A (A := B / 244) (Z := B / 2) o0 o1 (by omega) (by omega) (by omega) (by rw [e45]; exact h.2.1.1)
  have gw := lasts_w o1 (by omega)
  rw [e1, e2] at ga
  rw [e2] at gw
  try dsimp only at ga gw
  refine ⟨ga, g2, ?_, h.img k2 k4 (by omega) rfl rfl rfl rfl rfl rfl rfl⟩
  rw [jy k4 (g := 0) rfl, jy k2 (g := 0) rfl]
  exact (h.2.1.all (CB.of hJ 0) (fun n => FE.rf n _) (fun i i0 i1 => by rw [gw i i0 i1, e45])).up (by omega)
end
section
/-! The image, on both sides. -/
theorem op3_image {c r : zM} {B a : Int} (hc : OM B c) (h : Rel3 B c r) : MY B ((f195_1 a c).2 0) ((f314_1 a r).2 4 45) ∧ ((f314_1 a r).2 4 44 3 = 1 → MY B ((f195_1 a c).2 1) ((f314_1 a r).2 4 47)) := by
  have hf : 0 ≤ c 4 40 4 ∧ c 4 40 4 ≤ 1 := r40_4 hc.2.o 4
  obtain ⟨hr2, h2, h3⟩ := id h
  have h40 := hr2.2.1
  unfold f195_1 f314_1
  simp only [zs_a]
  by_cases h0 : a = 0
  · rw [if_pos h0, if_pos h0]
    by_cases h6 : c 4 40 4 = 0
    · rw [if_pos h6, if_pos (by omega)]
      exact ⟨h2, h3⟩
    · rw [if_neg h6, if_neg (by omega)]
      have hq := f171_1_c (show 0 ≠ 1 by decide) c
      have e1 : f171_1 0 1 c 1 = c 1 := hq.1 1 (by decide)
      have w47 : z_upd (z_cpy r 4 45 4 47 0 0 1619) 4 44 3 1 4 47 = r 4 47 := by rw [zu_k _ _ _ (by decide), cpy_k _ (.inr (by decide))]
      refine ⟨(h3 (by omega)).all (CB.of hc.2 1) (fun n => copy_FE (show 0 ≠ 1 by decide) c n) (fun i i0 i1 => ?_), fun _ => ?_⟩
      · try dsimp only
        rw [zu_k _ _ _ (by decide), cpy_in _ (by omega), show i - 0 + 0 = i by omega]
      · try dsimp only
        rw [e1, w47]
        exact h3 (by omega)
  · rw [if_neg h0, if_neg h0]
    have hq := f171_1_c (show 1 ≠ 0 by decide) c
    have e0 : f171_1 1 0 c 0 = c 0 := hq.1 0 (by decide)
    have xg : ∀ g, g ≠ 4 → z_upd (f171_1 1 0 c) 4 40 4 1 g = f171_1 1 0 c g := fun g hg => zu_g _ _ _ hg
    have w45 : z_upd (z_cpy r 4 47 4 45 0 0 1619) 4 44 3 1 4 45 = r 4 45 := by rw [zu_k _ _ _ (by decide), cpy_k _ (.inr (by decide))]
    refine ⟨?_, fun _ => ?_⟩
    · try dsimp only
      rw [xg 0 (by decide), e0, w45]
      exact h2
    · try dsimp only
      rw [xg 1 (by decide)]
      refine h2.all (CB.of hc.2 0) (fun n => copy_FE (show 1 ≠ 0 by decide) c n) (fun i i0 i1 => ?_)
      rw [zu_k _ _ _ (by decide), cpy_in _ (by omega), show i - 0 + 0 = i by omega]
theorem st3_image {m m1 m2 : zM} {B a v w : Int} (ha : 0 ≤ a ∧ a ≤ 1) (hk : z_mok lL m) (hJ : JB B m) (hB : B + 220000 ≤ 700000000) (h : Rel3 B m m) (e1 : f195_1 a m = (v, m1)) (e2 : f314_1 a m1 = (w, m2)) : v = w ∧ Rel3 (B + 220000) m2 m2 := by
  obtain ⟨k1, k2, -⟩ := q195_1 a hk hJ (by omega) ha
  rw [e1] at k1 k2
  try dsimp only at k1 k2
  obtain ⟨-, k4, -⟩ := q314_1 a k1 k2.jb (by omega) ha
  rw [e2] at k4
  try dsimp only at k4
  have g2 := st_image ha hk hJ (by omega) h.1 e1 e2
  have h3 : Rel3 B m m1 := ⟨h.1.rj k2 rfl rfl, by rw [k2.row 45 rfl rfl 4]; exact h.2.1, fun e => by rw [k2.row 47 rfl rfl 4]; exact h.2.2 (by rw [← k2.row 44 rfl rfl 4]; exact e)⟩
  have g := op3_image (a := a) ⟨hk, hJ⟩ h3
  rw [e1, e2] at g
  try dsimp only at g
  exact ⟨g2.1, g2.2, by rw [jy k4 (g := 0) rfl]; exact g.1.up (by omega), fun e => by rw [jy k4 (g := 1) rfl]; exact (g.2 e).up (by omega)⟩
end
section
/-! What is told of THE PERIOD. -/
theorem isRoot.mono {v u s t : Int} (h : isRoot v s) (h' : isRoot u t) (hv : v ≤ u) : s ≤ t := by
  obtain ⟨s0, s1, s2⟩ := h
  obtain ⟨t0, t1, t2⟩ := h'
  by_cases hst : s ≤ t
  · exact hst
  · exfalso
    have := Int.mul_le_mul (show t + 1 ≤ s by omega) (show t + 1 ≤ s by omega) (by omega) (by omega)
    omega
theorem sq12 {P : Int} (h : -12000000 ≤ P ∧ P ≤ 12000000) : 0 ≤ P * P ∧ P * P ≤ 144000000000000 := ⟨sq_nn _, by
  have h1 : 0 ≤ (12000000 + P) * (12000000 - P) := Int.mul_nonneg (by omega) (by omega)
  rw [Int.add_mul, Int.mul_sub, Int.mul_sub] at h1
  omega⟩
theorem app_T {c : zM} {k P Q : Int} (h0 : c 0 22 (0 + k) = P) (h4 : c 0 22 (4 + k) = Q) (hP : -12000000 ≤ P ∧ P ≤ 12000000) (hQ : -12000000 ≤ Q ∧ Q ≤ 12000000) : f23_1 0 k c = f214_1 (P * P + Q * Q) c := by
  have p := sq12 hP
  have q := sq12 hQ
  unfold f23_1
  simp only [zn_a]
  rw [h0, h4, w64_id (x := P * P) (by omega), w64_id (x := Q * Q) (by omega), w64_id (x := P * P + Q * Q) (by omega)]
  exact rt_eq c c (by omega)
theorem fac_T {c : zM} {P s : Int} (hP : -12000000 ≤ P ∧ P ≤ 12000000) (hs : 0 ≤ s) : f143_1 P s c = f239_1 P s c := by
  unfold f143_1 f239_1
  simp only [zn_a]
  by_cases s0 : s = 0
  · rw [if_pos s0, if_pos s0]
  rw [if_neg s0, if_neg s0, w64_id (x := 1000 * P) (by omega)]
  by_cases p0 : P < 0
  · have b := ediv_b (a := 1000 * -P) (b := s) (A := 12000000000) (by omega) (by omega) (by omega)
    rw [if_pos p0, show 1000 * P = -(1000 * -P) by omega, Int.neg_tdiv, tdiv_nn (by omega), w64_id (by omega)]
  · have b := ediv_b (a := 1000 * P) (b := s) (A := 12000000000) (by omega) (by omega) (by omega)
    rw [if_neg p0, tdiv_nn (by omega), w64_id (by omega)]
theorem quad_T (P Q : Int) (c : zM) : f51_1 P Q c = f221_1 P Q c := by
  unfold f51_1 f221_1
  simp only [zn_a]
/-- all that one column tells -/
theorem tell_T {c : zM} {a b P Q V I R6 R7 : Int} (k : Int) (hk : (if a = -1 then 3 else a) = k) (h0 : c 0 22 (0 + k) = P) (h4 : c 0 22 (4 + k) = Q) (h8 : c 0 22 (8 + k) = V) (h12 : c 0 22 (12 + k) = I) (h6 : f142_1 0 2 a c = R6) (h7 : f142_1 0 3 a c = R7) (hP : -12000000 ≤ P ∧ P ≤ 12000000) (hQ : -12000000 ≤ Q ∧ Q ≤ 12000000) (hb : 0 ≤ b ∧ b ≤ 8) :
    f141_1 0 a b c = if b = 0 then P else if b = 1 then Q else if b = 2 then V else if b = 3 then I else if b = 4 then f214_1 (P * P + Q * Q) c else if b = 5 then f221_1 P Q c else if b = 6 then R6 else if b = 7 then R7 else if b = 8 then f239_1 P (f214_1 (P * P + Q * Q) c) c else -10000000000 := by
  have ha := app_T h0 h4 hP hQ
  have hs : 0 ≤ f214_1 (P * P + Q * Q) c := (root_b c hP hQ).2.1
  have hf := fac_T (c := c) hP hs
  unfold f141_1
  simp only [zn_a]
  rw [hk, h0, h4, h6, h7, ha, quad_T, hf]
  have hc : b = 0 ∨ b = 1 ∨ b = 2 ∨ b = 3 ∨ b = 4 ∨ b = 5 ∨ b = 6 ∨ b = 7 ∨ b = 8 := by omega
  rcases hc with e | e | e | e | e | e | e | e | e <;> subst e <;> simp only [Int.reduceEq, Int.reduceLT, Int.reduceMul, ↓reduceIte]
  · exact h0
  · exact h4
  · exact h8
  · exact h12
theorem one_loop {c : zM} {q a : Int} {K : Int → Int} (ha : 0 ≤ a) (h1 : a < c 0 19 3) : ∀ (n : Nat) (v y : Int), 0 ≤ y → y ≤ c 0 19 3 → c 0 19 3 - y < n → fl142_5_1 K 0 q a c n v y = K (if y ≤ a then max v (c 0 22 (q * 4 + a)) else v)
  | 0, v, y, h0, h2, h3 => by omega
  | n + 1, v, y, h0, h2, h3 => by
    show fl142_5_1_b (fl142_5_1 K 0 q a c n) K 0 q a c v y = _
    unfold fl142_5_1_b
    by_cases h : c 0 19 3 ≤ y
    · rw [if_pos h, if_neg (show ¬ y ≤ a by omega)]
    · rw [if_neg h, if_neg (show ¬ a = -1 by omega), zn_a]
      by_cases e : a = y
      · subst e
        rw [if_pos rfl, one_loop ha h1 n _ (a + 1) (by omega) (by omega) (by omega), if_neg (show ¬ a + 1 ≤ a by omega), if_pos (Int.le_refl a)]
      · rw [if_neg e, one_loop ha h1 n _ (y + 1) (by omega) (by omega) (by omega)]
        by_cases x : y ≤ a
        · rw [if_pos x, if_pos (show y + 1 ≤ a by omega)]
        · rw [if_neg x, if_neg (show ¬ y + 1 ≤ a by omega)]
theorem mean_one {c : zM} {q a S : Int} (ha : 0 ≤ a) (h1 : a < c 0 19 3) (h3 : c 0 19 3 ≤ 3) (h4 : c 0 19 4 = c 4 45 2) (hN : 4 ≤ c 4 45 2) (hS : c 0 22 (q * 4 + a) = S) (hb : 0 ≤ S ∧ S ≤ 4000000) : f142_1 0 q a c = f214_1 (S / c 4 45 2) c := by
  have b := ediv_b (a := S) (b := c 4 45 2) (A := 4000000) hb.1 hb.2 (by omega)
  unfold f142_1
  rw [one_loop ha h1 (zfu 4) 0 0 (by omega) (by omega) (by rw [zfu_eq]; omega), if_pos ha, hS, show max 0 S = S by omega, show max 1 (c 0 19 4) = c 4 45 2 by omega]
  simp only [zn_a]
  exact rt_eq c c (by omega)
theorem all_loop {c : zM} {q b : Int} (hw : WB (c 4 45)) (h3 : c 0 19 3 = c 4 45 1) (h4 : c 0 19 4 = c 4 45 2) (hb : b = 95 ∨ b = 143) (hS : ∀ f : Nat, (f : Int) < c 4 45 1 → c 0 22 (q * 4 + f) = SQ (c 4 45) b f) :
    ∀ (n n2 j : Nat) (v u : Int), (j : Int) ≤ c 4 45 1 → c 4 45 1 - j < n → c 4 45 1 - j < n2 → 0 ≤ v → v ≤ 4000000 → isRoot (v / c 4 45 2) u →
      fl142_5_1 (fun y501 => zn ((y501 / (max 1 (c 0 19 4)))) fun z507 => zn (f24_1 z507 c) fun v510 => v510) 0 q (-1) c n v j = fl238_5_1 (fun y501 => y501) b c n2 u j
  | 0, n2, j, v, u, h0, h1, h2, _, _, _ => by omega
  | n + 1, 0, j, v, u, h0, h1, h2, _, _, _ => by omega
  | n + 1, n2 + 1, j, v, u, h0, h1, h2, v0, v1, hr => by
    have hN := hw.2.2.1
    have hm : max 1 (c 0 19 4) = c 4 45 2 := by omega
    show fl142_5_1_b (fl142_5_1 (fun y501 => zn ((y501 / (max 1 (c 0 19 4)))) fun z507 => zn (f24_1 z507 c) fun v510 => v510) 0 q (-1) c n) (fun y501 => zn ((y501 / (max 1 (c 0 19 4)))) fun z507 => zn (f24_1 z507 c) fun v510 => v510) 0 q (-1) c v j = fl238_5_1_b (fl238_5_1 (fun y501 => y501) b c n2) (fun y501 => y501) b c u j
    unfold fl142_5_1_b fl238_5_1_b
    by_cases h : c 4 45 1 ≤ (j : Int)
    · have bb := ediv_b (a := v) (b := c 4 45 2) (A := 4000000) v0 v1 (by omega)
      rw [if_pos (show c 0 19 3 ≤ (j : Int) by omega), if_pos h, hm]
      simp only [zn_a]
      exact (rt_cls c (by omega)).uni hr
    · have hP := hw.2.1
      have sb := SQ_b hw hb (f := (j : Int)) (by omega) (by omega)
      have bS := ediv_b (a := SQ (c 4 45) b j) (b := c 4 45 2) (A := 4000000) sb.1 sb.2 (by omega)
      have rS := rt_ref (v := SQ (c 4 45) b j / c 4 45 2) c (by omega)
      rw [if_neg (show ¬ c 0 19 3 ≤ (j : Int) by omega), if_neg h, if_pos (show (-1 : Int) = -1 from rfl), hS j (by omega)]
      simp only [zn_a]
      rw [sq_r hw b j]
      refine all_loop hw h3 h4 hb hS n n2 (j + 1) _ _ (by omega) (by omega) (by omega) (by omega) (by omega) ?_
      by_cases x : SQ (c 4 45) b j ≤ v
      · have m := rS.mono hr (Int.ediv_le_ediv (by omega) x)
        rw [show max v (SQ (c 4 45) b j) = v by omega, if_pos m]
        exact hr
      · have m := hr.mono rS (Int.ediv_le_ediv (by omega) (show v ≤ SQ (c 4 45) b j by omega))
        rw [show max v (SQ (c 4 45) b j) = SQ (c 4 45) b j by omega]
        by_cases y : f214_1 (SQ (c 4 45) b j / c 4 45 2) c ≤ u
        · rw [if_pos y, show u = f214_1 (SQ (c 4 45) b j / c 4 45 2) c by omega]
          exact rS
        · rw [if_neg y]
          exact rS
theorem mean_all {c : zM} {q b : Int} (hw : WB (c 4 45)) (h3 : c 0 19 3 = c 4 45 1) (h4 : c 0 19 4 = c 4 45 2) (hb : b = 95 ∨ b = 143) (hS : ∀ f : Nat, (f : Int) < c 4 45 1 → c 0 22 (q * 4 + f) = SQ (c 4 45) b f) : f142_1 0 q (-1) c = f238_1 b c := by
  have hP := hw.2.1
  have hN := hw.2.2.1
  exact all_loop hw h3 h4 hb hS (zfu 4) (zfu 4) 0 0 0 (by have := hw.1; omega) (by rw [zfu_eq]; omega) (by rw [zfu_eq]; omega) (by omega) (by omega) ⟨by omega, by rw [Int.zero_ediv]; omega, by rw [Int.zero_ediv]; omega⟩
theorem an_period {c : zM} {B a b : Int} (_hc : OM B c) (hB : B ≤ 700000000) (h : Rel3 B c c) : f140_1 a b c = f237_1 a b c := by
  have hwv := h.2.1.1.2.1
  obtain ⟨p1, p2, ⟨w0, w3, w7, w11, w15, -⟩, -, hw⟩ := id hwv
  have hP := hw.2.1
  have hP1 := hw.1
  have hN := hw.2.2.1
  unfold f140_1 f237_1
  by_cases b8 : 0 ≤ b ∧ b ≤ 8
  case neg =>
    have ite_e : ∀ {p : Prop} [Decidable p] {x y z : Int}, (p → x = z) → (¬ p → y = z) → (if p then x else y) = z := fun {p} _ {x y z} h1 h2 => by
      by_cases hp : p
      · rw [if_pos hp]
        exact h1 hp
      · rw [if_neg hp]
        exact h2 hp
    have e1 : (if a < -1 then -10000000000 else if c 0 19 3 ≤ a then -10000000000 else if b < 0 then -10000000000 else if b ≤ 8 then zn (f141_1 0 a b c) fun v508 => v508 else (-10000000000 : Int)) = -10000000000 := by
      repeat' (refine ite_e (fun _ => ?_) (fun _ => ?_))
      all_goals first | (exfalso; omega) | rfl
    rw [e1]
    symm
    simp only [zn_a]
    repeat' (refine ite_e (fun _ => ?_) (fun _ => ?_))
    all_goals first | (exfalso; omega) | rfl
  by_cases a0 : a = -1
  · subst a0
    have t := tell_T (c := c) (a := -1) (b := b) 3 (by rw [if_pos rfl]) (P := f209_1 0 c) (Q := f209_1 1 c) (V := f209_1 2 c) (I := f209_1 3 c) (R6 := f238_1 95 c) (R7 := f238_1 143 c) (by rw [tg_r hw]; exact w3) (by rw [tg_r hw]; exact w7) (by rw [tg_r hw]; exact w11) (by rw [tg_r hw]; exact w15)
      (mean_all hw p1 p2 (.inl rfl) (fun f hf => (w0 f hf).2.2.1)) (mean_all hw p1 p2 (.inr rfl) (fun f hf => (w0 f hf).2.2.2)) (by rw [tg_r hw]; exact TG_b hw 0) (by rw [tg_r hw]; exact TG_b hw 1) b8
    rw [if_neg (show ¬ (-1 : Int) < -1 by decide), if_neg (show ¬ c 0 19 3 ≤ -1 by omega), if_neg (show ¬ b < 0 by omega), if_pos b8.2, if_pos (show (-1 : Int) = -1 from rfl)]
    simp only [zn_a]
    exact t
  rw [if_neg a0]
  by_cases a1 : a < 0
  · rw [if_pos (show a < -1 by omega), if_pos a1]
  by_cases a2 : c 0 19 3 ≤ a
  · rw [if_neg (show ¬ a < -1 by omega), if_pos a2, if_neg a1, if_neg (show ¬ a ≤ c 4 45 1 - 1 by omega)]
  obtain ⟨x0, x1, x2, x3⟩ := w0 a.toNat (by omega)
  rw [show ((a.toNat : Nat) : Int) = a by omega] at x0 x1 x2 x3
  have bA := AC_b hw (f := a) (by omega) (by omega)
  have bR := RE_b hw (f := a) (by omega) (by omega)
  have t := tell_T (c := c) (a := a) (b := b) a (by rw [if_neg a0]) (P := f210_1 a c) (Q := f212_1 a c) (V := f213_1 95 a c) (I := f213_1 143 a c) (R6 := f214_1 (f213_1 95 a c / c 4 45 2) c) (R7 := f214_1 (f213_1 143 a c / c 4 45 2) c)
    (by rw [ac_r hw, Int.zero_add]; exact x0) (by rw [re_r hw]; exact x1) (by rw [sq_r hw]; exact x2) (by rw [sq_r hw]; exact x3)
    (mean_one (by omega) (by omega) (by omega) p2 hN (by rw [sq_r hw]; exact x2) (by rw [sq_r hw]; exact SQ_b hw (.inl rfl) (by omega) (by omega))) (mean_one (by omega) (by omega) (by omega) p2 hN (by rw [sq_r hw]; exact x3) (by rw [sq_r hw]; exact SQ_b hw (.inr rfl) (by omega) (by omega))) (by rw [ac_r hw]; omega) (by rw [re_r hw]; omega) b8
  rw [if_neg (show ¬ a < -1 by omega), if_neg a2, if_neg (show ¬ b < 0 by omega), if_pos b8.2, if_neg a1, if_pos (show a ≤ c 4 45 1 - 1 by omega)]
  simp only [zn_a]
  exact t
end
section
/-! What look answers. -/
theorem ite_e {p : Prop} [Decidable p] {x y z : Int} (h1 : p → x = z) (h2 : ¬ p → y = z) : (if p then x else y) = z := by
  by_cases hp : p
  · rw [if_pos hp]
    exact h1 hp
  · rw [if_neg hp]
    exact h2 hp
theorem look_n {c : zM} {a : Int} (ha : a < 0 ∨ 57 < a) : f196_1 a c = f315_1 a c := by
  have e1 : f196_1 a c = -10000000000 := by
    unfold f196_1 f197_1 f198_1 f199_1 f200_1
    simp only [zn_a]
    by_cases h0 : a < 0
    · rw [if_neg (show ¬ 0 ≤ a by omega)]
    · rw [if_pos (show 0 ≤ a by omega), if_pos (show 7 < a by omega), if_pos (show 15 < a by omega), if_neg (show ¬ a < 40 by omega), if_pos (show 43 < a by omega), if_neg (show ¬ a < 53 by omega), if_neg (show ¬ a = 53 by omega), if_neg (show ¬ a = 54 by omega), if_neg (show ¬ a = 55 by omega), if_neg (show ¬ a = 56 by omega), if_neg (show ¬ a = 57 by omega)]
  have e2 : f315_1 a c = -10000000000 := by
    unfold f315_1
    simp only [zn_a]
    repeat' (refine ite_e (fun _ => ?_) (fun _ => ?_))
    all_goals first | (exfalso; omega) | rfl
  rw [e1, e2]
theorem an_look {c : zM} {B a : Int} (hc : OM B c) (hB : B ≤ 700000000) (h : Rel3 B c c) : f196_1 a c = f315_1 a c := by
  have h2 := h.1
  have hg := h.2.1.1
  have hmv := hg.1
  obtain ⟨n13, n14, n15⟩ := hmv.n
  obtain ⟨o10, o11, o12⟩ := hmv.o
  have p11 := r8_11 hc.2.o 0
  have p12 := r8_12 hc.2.o 0
  obtain ⟨k1, k2, -⟩ := hmv.k
  have k8 : c 0 33 3 = f231_1 c := by rw [on_r k1]; exact k2
  have l16 := hmv.l.1
  have l17 := hmv.ld.1
  have b18 := h.2.1.2.2.1.1
  obtain ⟨w1, w2, w3⟩ := h2.1.2.1
  have cr := h2.1.2.2.2
  have tf : f27_1 0 (c 0 8 9) c = f217_1 (c 4 45 0) c := by
    rw [← h2.1.1]
    exact tf_eq cr (CB.of hc.2 0) (hc.t 0).1
  have sp : c 0 11 7 = f249_1 c := by
    rw [sps_eq]
    exact cr.2.2.2.2.2.symm
  obtain ⟨s0, s1, s2, s3, s4, s5, s6, s7, s8, s9, -⟩ := hg.2.1.2.2.2.1
  obtain ⟨e0, -, e2, e4, e3, -, -⟩ := h2.1.2.2.1
  have q39 := r39_0 hc.2.o 0
  have sn := cr.2.1.1
  have lk : f118_1 0 (c 0 8 9) c = f278_1 c := by
    unfold f118_1 f278_1
    rw [zn_a, e4, h2.1.1]
    split <;> omega
  have tl := h2.2.2.2.1.1
  by_cases hn : a < 0 ∨ 57 < a
  · exact look_n hn
  by_cases x0 : a = 0
  · rw [x0]
    simp only [zn_a, f196_1, f197_1, f198_1, f199_1, f200_1, f168_1, f76_1, f315_1, Int.reduceLE, Int.reduceLT, Int.reduceEq, Int.reduceAdd, Int.reduceSub, Int.reduceNeg, ↓reduceIte]
    exact h2.1.1
  by_cases x1 : a = 1
  · rw [x1]
    simp only [zn_a, f196_1, f197_1, f198_1, f199_1, f200_1, f168_1, f76_1, f315_1, Int.reduceLE, Int.reduceLT, Int.reduceEq, Int.reduceAdd, Int.reduceSub, Int.reduceNeg, ↓reduceIte]
    exact tf
  by_cases x2 : a = 2
  · rw [x2]
    simp only [zn_a, f196_1, f197_1, f198_1, f199_1, f200_1, f168_1, f76_1, f315_1, Int.reduceLE, Int.reduceLT, Int.reduceEq, Int.reduceAdd, Int.reduceSub, Int.reduceNeg, ↓reduceIte]
    exact o10.symm
  by_cases x3 : a = 3
  · rw [x3]
    simp only [zn_a, f196_1, f197_1, f198_1, f199_1, f200_1, f168_1, f76_1, f315_1, Int.reduceLE, Int.reduceLT, Int.reduceEq, Int.reduceAdd, Int.reduceSub, Int.reduceNeg, ↓reduceIte]
    rw [o11]
    split <;> omega
  by_cases x4 : a = 4
  · rw [x4]
    simp only [zn_a, f196_1, f197_1, f198_1, f199_1, f200_1, f168_1, f76_1, f315_1, Int.reduceLE, Int.reduceLT, Int.reduceEq, Int.reduceAdd, Int.reduceSub, Int.reduceNeg, ↓reduceIte]
    rw [o12]
    split <;> omega
  by_cases x5 : a = 5
  · rw [x5]
    simp only [zn_a, f196_1, f197_1, f198_1, f199_1, f200_1, f168_1, f76_1, f315_1, Int.reduceLE, Int.reduceLT, Int.reduceEq, Int.reduceAdd, Int.reduceSub, Int.reduceNeg, ↓reduceIte]
    exact n13.symm
  by_cases x6 : a = 6
  · rw [x6]
    simp only [zn_a, f196_1, f197_1, f198_1, f199_1, f200_1, f168_1, f76_1, f315_1, Int.reduceLE, Int.reduceLT, Int.reduceEq, Int.reduceAdd, Int.reduceSub, Int.reduceNeg, ↓reduceIte]
    exact n14.symm
  by_cases x7 : a = 7
  · rw [x7]
    simp only [zn_a, f196_1, f197_1, f198_1, f199_1, f200_1, f168_1, f76_1, f315_1, Int.reduceLE, Int.reduceLT, Int.reduceEq, Int.reduceAdd, Int.reduceSub, Int.reduceNeg, ↓reduceIte]
    exact n15.symm
  by_cases x8 : a = 8
  · rw [x8]
    simp only [zn_a, f196_1, f197_1, f198_1, f199_1, f200_1, f168_1, f76_1, f315_1, Int.reduceLE, Int.reduceLT, Int.reduceEq, Int.reduceAdd, Int.reduceSub, Int.reduceNeg, ↓reduceIte]
    exact k8
  by_cases x9 : a = 9
  · rw [x9]
    simp only [zn_a, f196_1, f197_1, f198_1, f199_1, f200_1, f168_1, f76_1, f315_1, Int.reduceLE, Int.reduceLT, Int.reduceEq, Int.reduceAdd, Int.reduceSub, Int.reduceNeg, ↓reduceIte]
    exact l16
  by_cases x10 : a = 10
  · rw [x10]
    simp only [zn_a, f196_1, f197_1, f198_1, f199_1, f200_1, f168_1, f76_1, f315_1, Int.reduceLE, Int.reduceLT, Int.reduceEq, Int.reduceAdd, Int.reduceSub, Int.reduceNeg, ↓reduceIte]
    exact l17
  by_cases x11 : a = 11
  · rw [x11]
    simp only [zn_a, f196_1, f197_1, f198_1, f199_1, f200_1, f168_1, f76_1, f315_1, Int.reduceLE, Int.reduceLT, Int.reduceEq, Int.reduceAdd, Int.reduceSub, Int.reduceNeg, ↓reduceIte]
    exact b18
  by_cases x12 : a = 12
  · rw [x12]
    simp only [zn_a, f196_1, f197_1, f198_1, f199_1, f200_1, f168_1, f76_1, f315_1, Int.reduceLE, Int.reduceLT, Int.reduceEq, Int.reduceAdd, Int.reduceSub, Int.reduceNeg, ↓reduceIte]
    exact w1
  by_cases x13 : a = 13
  · rw [x13]
    simp only [zn_a, f196_1, f197_1, f198_1, f199_1, f200_1, f168_1, f76_1, f315_1, Int.reduceLE, Int.reduceLT, Int.reduceEq, Int.reduceAdd, Int.reduceSub, Int.reduceNeg, ↓reduceIte]
    exact w2
  by_cases x14 : a = 14
  · rw [x14]
    simp only [zn_a, f196_1, f197_1, f198_1, f199_1, f200_1, f168_1, f76_1, f315_1, Int.reduceLE, Int.reduceLT, Int.reduceEq, Int.reduceAdd, Int.reduceSub, Int.reduceNeg, ↓reduceIte]
    exact w3
  by_cases x15 : a = 15
  · rw [x15]
    simp only [zn_a, f196_1, f197_1, f198_1, f199_1, f200_1, f168_1, f76_1, f315_1, Int.reduceLE, Int.reduceLT, Int.reduceEq, Int.reduceAdd, Int.reduceSub, Int.reduceNeg, ↓reduceIte]
    exact sp
  by_cases x16 : a = 16
  · rw [x16]
    simp only [zn_a, f196_1, f197_1, f198_1, f199_1, f200_1, f168_1, f76_1, f315_1, Int.reduceLE, Int.reduceLT, Int.reduceEq, Int.reduceAdd, Int.reduceSub, Int.reduceNeg, ↓reduceIte]
  by_cases x17 : a = 17
  · rw [x17]
    simp only [zn_a, f196_1, f197_1, f198_1, f199_1, f200_1, f168_1, f76_1, f315_1, Int.reduceLE, Int.reduceLT, Int.reduceEq, Int.reduceAdd, Int.reduceSub, Int.reduceNeg, ↓reduceIte]
  by_cases x18 : a = 18
  · rw [x18]
    simp only [zn_a, f196_1, f197_1, f198_1, f199_1, f200_1, f168_1, f76_1, f315_1, Int.reduceLE, Int.reduceLT, Int.reduceEq, Int.reduceAdd, Int.reduceSub, Int.reduceNeg, ↓reduceIte]
  by_cases x19 : a = 19
  · rw [x19]
    simp only [zn_a, f196_1, f197_1, f198_1, f199_1, f200_1, f168_1, f76_1, f315_1, Int.reduceLE, Int.reduceLT, Int.reduceEq, Int.reduceAdd, Int.reduceSub, Int.reduceNeg, ↓reduceIte]
  by_cases x20 : a = 20
  · rw [x20]
    simp only [zn_a, f196_1, f197_1, f198_1, f199_1, f200_1, f168_1, f76_1, f315_1, Int.reduceLE, Int.reduceLT, Int.reduceEq, Int.reduceAdd, Int.reduceSub, Int.reduceNeg, ↓reduceIte]
    exact s0
  by_cases x21 : a = 21
  · rw [x21]
    simp only [zn_a, f196_1, f197_1, f198_1, f199_1, f200_1, f168_1, f76_1, f315_1, Int.reduceLE, Int.reduceLT, Int.reduceEq, Int.reduceAdd, Int.reduceSub, Int.reduceNeg, ↓reduceIte]
    exact s1
  by_cases x22 : a = 22
  · rw [x22]
    simp only [zn_a, f196_1, f197_1, f198_1, f199_1, f200_1, f168_1, f76_1, f315_1, Int.reduceLE, Int.reduceLT, Int.reduceEq, Int.reduceAdd, Int.reduceSub, Int.reduceNeg, ↓reduceIte]
    exact s2
  by_cases x23 : a = 23
  · rw [x23]
    simp only [zn_a, f196_1, f197_1, f198_1, f199_1, f200_1, f168_1, f76_1, f315_1, Int.reduceLE, Int.reduceLT, Int.reduceEq, Int.reduceAdd, Int.reduceSub, Int.reduceNeg, ↓reduceIte]
    exact s3
  by_cases x24 : a = 24
  · rw [x24]
    simp only [zn_a, f196_1, f197_1, f198_1, f199_1, f200_1, f168_1, f76_1, f315_1, Int.reduceLE, Int.reduceLT, Int.reduceEq, Int.reduceAdd, Int.reduceSub, Int.reduceNeg, ↓reduceIte]
    exact s4
  by_cases x25 : a = 25
  · rw [x25]
    simp only [zn_a, f196_1, f197_1, f198_1, f199_1, f200_1, f168_1, f76_1, f315_1, Int.reduceLE, Int.reduceLT, Int.reduceEq, Int.reduceAdd, Int.reduceSub, Int.reduceNeg, ↓reduceIte]
    exact s5
  by_cases x26 : a = 26
  · rw [x26]
    simp only [zn_a, f196_1, f197_1, f198_1, f199_1, f200_1, f168_1, f76_1, f315_1, Int.reduceLE, Int.reduceLT, Int.reduceEq, Int.reduceAdd, Int.reduceSub, Int.reduceNeg, ↓reduceIte]
  by_cases x27 : a = 27
  · rw [x27]
    simp only [zn_a, f196_1, f197_1, f198_1, f199_1, f200_1, f168_1, f76_1, f315_1, Int.reduceLE, Int.reduceLT, Int.reduceEq, Int.reduceAdd, Int.reduceSub, Int.reduceNeg, ↓reduceIte]
  by_cases x28 : a = 28
  · rw [x28]
    simp only [zn_a, f196_1, f197_1, f198_1, f199_1, f200_1, f168_1, f76_1, f315_1, Int.reduceLE, Int.reduceLT, Int.reduceEq, Int.reduceAdd, Int.reduceSub, Int.reduceNeg, ↓reduceIte]
  by_cases x29 : a = 29
  · rw [x29]
    simp only [zn_a, f196_1, f197_1, f198_1, f199_1, f200_1, f168_1, f76_1, f315_1, Int.reduceLE, Int.reduceLT, Int.reduceEq, Int.reduceAdd, Int.reduceSub, Int.reduceNeg, ↓reduceIte]
  by_cases x30 : a = 30
  · rw [x30]
    simp only [zn_a, f196_1, f197_1, f198_1, f199_1, f200_1, f168_1, f76_1, f315_1, Int.reduceLE, Int.reduceLT, Int.reduceEq, Int.reduceAdd, Int.reduceSub, Int.reduceNeg, ↓reduceIte]
    exact s6 0 (by omega) (by omega)
  by_cases x31 : a = 31
  · rw [x31]
    simp only [zn_a, f196_1, f197_1, f198_1, f199_1, f200_1, f168_1, f76_1, f315_1, Int.reduceLE, Int.reduceLT, Int.reduceEq, Int.reduceAdd, Int.reduceSub, Int.reduceNeg, ↓reduceIte]
    exact s6 1 (by omega) (by omega)
  by_cases x32 : a = 32
  · rw [x32]
    simp only [zn_a, f196_1, f197_1, f198_1, f199_1, f200_1, f168_1, f76_1, f315_1, Int.reduceLE, Int.reduceLT, Int.reduceEq, Int.reduceAdd, Int.reduceSub, Int.reduceNeg, ↓reduceIte]
    exact s6 2 (by omega) (by omega)
  by_cases x33 : a = 33
  · rw [x33]
    simp only [zn_a, f196_1, f197_1, f198_1, f199_1, f200_1, f168_1, f76_1, f315_1, Int.reduceLE, Int.reduceLT, Int.reduceEq, Int.reduceAdd, Int.reduceSub, Int.reduceNeg, ↓reduceIte]
    exact s6 3 (by omega) (by omega)
  by_cases x34 : a = 34
  · rw [x34]
    simp only [zn_a, f196_1, f197_1, f198_1, f199_1, f200_1, f168_1, f76_1, f315_1, Int.reduceLE, Int.reduceLT, Int.reduceEq, Int.reduceAdd, Int.reduceSub, Int.reduceNeg, ↓reduceIte]
  by_cases x35 : a = 35
  · rw [x35]
    simp only [zn_a, f196_1, f197_1, f198_1, f199_1, f200_1, f168_1, f76_1, f315_1, Int.reduceLE, Int.reduceLT, Int.reduceEq, Int.reduceAdd, Int.reduceSub, Int.reduceNeg, ↓reduceIte]
  by_cases x36 : a = 36
  · rw [x36]
    simp only [zn_a, f196_1, f197_1, f198_1, f199_1, f200_1, f168_1, f76_1, f315_1, Int.reduceLE, Int.reduceLT, Int.reduceEq, Int.reduceAdd, Int.reduceSub, Int.reduceNeg, ↓reduceIte]
  by_cases x37 : a = 37
  · rw [x37]
    simp only [zn_a, f196_1, f197_1, f198_1, f199_1, f200_1, f168_1, f76_1, f315_1, Int.reduceLE, Int.reduceLT, Int.reduceEq, Int.reduceAdd, Int.reduceSub, Int.reduceNeg, ↓reduceIte]
  by_cases x38 : a = 38
  · rw [x38]
    simp only [zn_a, f196_1, f197_1, f198_1, f199_1, f200_1, f168_1, f76_1, f315_1, Int.reduceLE, Int.reduceLT, Int.reduceEq, Int.reduceAdd, Int.reduceSub, Int.reduceNeg, ↓reduceIte]
  by_cases x39 : a = 39
  · rw [x39]
    simp only [zn_a, f196_1, f197_1, f198_1, f199_1, f200_1, f168_1, f76_1, f315_1, Int.reduceLE, Int.reduceLT, Int.reduceEq, Int.reduceAdd, Int.reduceSub, Int.reduceNeg, ↓reduceIte]
  by_cases x40 : a = 40
  · rw [x40]
    simp only [zn_a, f196_1, f197_1, f198_1, f199_1, f200_1, f168_1, f76_1, f315_1, Int.reduceLE, Int.reduceLT, Int.reduceEq, Int.reduceAdd, Int.reduceSub, Int.reduceNeg, ↓reduceIte]
    exact sn 0 (by omega) (by omega)
  by_cases x41 : a = 41
  · rw [x41]
    simp only [zn_a, f196_1, f197_1, f198_1, f199_1, f200_1, f168_1, f76_1, f315_1, Int.reduceLE, Int.reduceLT, Int.reduceEq, Int.reduceAdd, Int.reduceSub, Int.reduceNeg, ↓reduceIte]
    exact sn 1 (by omega) (by omega)
  by_cases x42 : a = 42
  · rw [x42]
    simp only [zn_a, f196_1, f197_1, f198_1, f199_1, f200_1, f168_1, f76_1, f315_1, Int.reduceLE, Int.reduceLT, Int.reduceEq, Int.reduceAdd, Int.reduceSub, Int.reduceNeg, ↓reduceIte]
    exact sn 2 (by omega) (by omega)
  by_cases x43 : a = 43
  · rw [x43]
    simp only [zn_a, f196_1, f197_1, f198_1, f199_1, f200_1, f168_1, f76_1, f315_1, Int.reduceLE, Int.reduceLT, Int.reduceEq, Int.reduceAdd, Int.reduceSub, Int.reduceNeg, ↓reduceIte]
    exact sn 3 (by omega) (by omega)
  by_cases x44 : a = 44
  · rw [x44]
    simp only [zn_a, f196_1, f197_1, f198_1, f199_1, f200_1, f168_1, f76_1, f315_1, Int.reduceLE, Int.reduceLT, Int.reduceEq, Int.reduceAdd, Int.reduceSub, Int.reduceNeg, ↓reduceIte]
  by_cases x45 : a = 45
  · rw [x45]
    simp only [zn_a, f196_1, f197_1, f198_1, f199_1, f200_1, f168_1, f76_1, f315_1, Int.reduceLE, Int.reduceLT, Int.reduceEq, Int.reduceAdd, Int.reduceSub, Int.reduceNeg, ↓reduceIte]
  by_cases x46 : a = 46
  · rw [x46]
    simp only [zn_a, f196_1, f197_1, f198_1, f199_1, f200_1, f168_1, f76_1, f315_1, Int.reduceLE, Int.reduceLT, Int.reduceEq, Int.reduceAdd, Int.reduceSub, Int.reduceNeg, ↓reduceIte]
  by_cases x47 : a = 47
  · rw [x47]
    simp only [zn_a, f196_1, f197_1, f198_1, f199_1, f200_1, f168_1, f76_1, f315_1, Int.reduceLE, Int.reduceLT, Int.reduceEq, Int.reduceAdd, Int.reduceSub, Int.reduceNeg, ↓reduceIte]
  by_cases x48 : a = 48
  · rw [x48]
    simp only [zn_a, f196_1, f197_1, f198_1, f199_1, f200_1, f168_1, f76_1, f315_1, Int.reduceLE, Int.reduceLT, Int.reduceEq, Int.reduceAdd, Int.reduceSub, Int.reduceNeg, ↓reduceIte]
  by_cases x49 : a = 49
  · rw [x49]
    simp only [zn_a, f196_1, f197_1, f198_1, f199_1, f200_1, f168_1, f76_1, f315_1, Int.reduceLE, Int.reduceLT, Int.reduceEq, Int.reduceAdd, Int.reduceSub, Int.reduceNeg, ↓reduceIte]
  by_cases x50 : a = 50
  · rw [x50]
    simp only [zn_a, f196_1, f197_1, f198_1, f199_1, f200_1, f168_1, f76_1, f315_1, Int.reduceLE, Int.reduceLT, Int.reduceEq, Int.reduceAdd, Int.reduceSub, Int.reduceNeg, ↓reduceIte]
    exact s7
  by_cases x51 : a = 51
  · rw [x51]
    simp only [zn_a, f196_1, f197_1, f198_1, f199_1, f200_1, f168_1, f76_1, f315_1, Int.reduceLE, Int.reduceLT, Int.reduceEq, Int.reduceAdd, Int.reduceSub, Int.reduceNeg, ↓reduceIte]
    exact s8
  by_cases x52 : a = 52
  · rw [x52]
    simp only [zn_a, f196_1, f197_1, f198_1, f199_1, f200_1, f168_1, f76_1, f315_1, Int.reduceLE, Int.reduceLT, Int.reduceEq, Int.reduceAdd, Int.reduceSub, Int.reduceNeg, ↓reduceIte]
    exact s9
  by_cases x53 : a = 53
  · rw [x53]
    simp only [zn_a, f196_1, f197_1, f198_1, f199_1, f200_1, f168_1, f76_1, f315_1, Int.reduceLE, Int.reduceLT, Int.reduceEq, Int.reduceAdd, Int.reduceSub, Int.reduceNeg, ↓reduceIte]
    rw [← e0]
    split <;> omega
  by_cases x54 : a = 54
  · rw [x54]
    simp only [zn_a, f196_1, f197_1, f198_1, f199_1, f200_1, f168_1, f76_1, f315_1, Int.reduceLE, Int.reduceLT, Int.reduceEq, Int.reduceAdd, Int.reduceSub, Int.reduceNeg, ↓reduceIte]
    exact e2
  by_cases x55 : a = 55
  · rw [x55]
    simp only [zn_a, f196_1, f197_1, f198_1, f199_1, f200_1, f168_1, f76_1, f315_1, Int.reduceLE, Int.reduceLT, Int.reduceEq, Int.reduceAdd, Int.reduceSub, Int.reduceNeg, ↓reduceIte]
    exact lk
  by_cases x56 : a = 56
  · rw [x56]
    simp only [zn_a, f196_1, f197_1, f198_1, f199_1, f200_1, f168_1, f76_1, f315_1, Int.reduceLE, Int.reduceLT, Int.reduceEq, Int.reduceAdd, Int.reduceSub, Int.reduceNeg, ↓reduceIte]
    exact e3
  by_cases x57 : a = 57
  · rw [x57]
    simp only [zn_a, f196_1, f197_1, f198_1, f199_1, f200_1, f168_1, f76_1, f315_1, Int.reduceLE, Int.reduceLT, Int.reduceEq, Int.reduceAdd, Int.reduceSub, Int.reduceNeg, ↓reduceIte]
    exact tl
  exfalso
  omega
end
section
/-! How both sides hang together on a new object. -/
def kRel (m : zM) : Bool := decide (m 0 8 9 = m 4 45 0) && (decide (m 0 19 3 = m 4 45 1) && (decide (m 0 19 4 = m 4 45 2) && (decide (m 0 19 5 = m 4 45 3) &&
  (decide (m 0 39 0 = m 4 45 1614) && (decide (m 0 39 1 = m 4 45 1615) && (decide (m 0 39 2 = m 4 45 1616) && (decide (m 0 39 4 = m 4 45 1617) && (decide (m 0 39 3 = m 4 45 1618) && (decide (m 0 39 3 = 0) &&
  (((List.range 8).all fun t => decide (m 0 12 t = 0) && decide (m 4 45 (287 + t) = 0)) && (((List.range 4).all fun s => decide (m 0 15 s = m 4 45 (391 + s))) && (((List.range 28).all fun d => decide (m 0 16 d = m 4 45 (395 + d))) &&
  (decide (m 0 11 7 = 0) && (((List.range 365).all fun d => decide (m 4 45 (423 + d) = -1)) &&
  (decide (m 4 40 4 = m 4 44 3) && (decide (m 4 44 3 = 0) && (decide (m 4 41 3 = m 4 44 5) && (decide (m 4 41 3 = 0) && (decide (m 4 41 4 = m 4 44 6) && decide (m 4 41 5 = m 4 44 7))))))))))))))))))))
theorem spN_zero {w : Int → Int} : ∀ n : Nat, (∀ d : Int, 0 ≤ d → d < n → w (423 + d) = -1) → spN w n = 0
  | 0, _ => rfl
  | n + 1, h => by
    unfold spN
    rw [spN_zero n (fun d h0 h1 => h d h0 (by omega)), h n (by omega) (by omega)]
    rfl
theorem rng_all {n : Nat} {p : Nat → Bool} (h : (List.range n).all p = true) (i : Int) (h0 : 0 ≤ i) (h1 : i < n) : ∃ k : Nat, (k : Int) = i ∧ p k = true := ⟨i.toNat, by omega, List.all_eq_true.mp h i.toNat (List.mem_range.mpr (by omega))⟩
theorem kRel_ok {m : zM} (h : kRel m = true) : Rel2 0 m m := by
  unfold kRel at h
  simp only [Bool.and_eq_true, decide_eq_true_eq] at h
  obtain ⟨a1, a2, a3, a4, a5, a6, a7, a8, a9, a10, a11, a12, a13, a14, a15, a16, a17, a18, a19, a20, a21⟩ := h
  have e11 : ∀ t : Int, 0 ≤ t → t < 8 → m 0 12 t = 0 ∧ m 4 45 (287 + t) = 0 := fun t h0 h1 => by
    obtain ⟨k, rfl, hk⟩ := rng_all a11 t h0 h1
    simpa only [Bool.and_eq_true, decide_eq_true_eq] using hk
  have e15 : ∀ d : Int, 0 ≤ d → d < 365 → m 4 45 (423 + d) = -1 := fun t h0 h1 => by
    obtain ⟨k, rfl, hk⟩ := rng_all a15 t h0 h1
    exact of_decide_eq_true hk
  refine ⟨⟨a1, ⟨a2, a3, a4⟩, ⟨a5, a6, a7, a8, a9, by omega, by omega⟩, ⟨fun t h0 h1 => by rw [(e11 t h0 h1).1, (e11 t h0 h1).2], fun t k h0 h1 h2 h3 => ?_, fun t k h0 h1 h2 h3 => ?_⟩, ⟨fun s h0 h1 => ?_, fun d h0 h1 => ?_⟩, fun k h0 h1 => ?_, fun j k h0 h1 h2 => ?_, fun d h0 h1 h2 => ?_, ?_⟩, a16, fun e => ?_, ⟨a18, fun i h0 h1 => ?_⟩, a20, a21⟩
  · rw [(e11 t h0 h1).1] at h3
    omega
  · rw [(e11 t h0 h1).1] at h3
    omega
  · obtain ⟨k, rfl, hk⟩ := rng_all a12 s h0 h1
    exact of_decide_eq_true hk
  · obtain ⟨k, rfl, hk⟩ := rng_all a13 d h0 h1
    exact of_decide_eq_true hk
  · omega
  · omega
  · exact absurd (e15 d h0 h1) h2
  · rw [a14]
    exact spN_zero 365 e15
  · omega
  · omega
end
section
/-! How both sides hang together on a new object: all of it. -/
def kEv (n : Nat) (p : Int → Bool) : Bool := (List.range n).all fun k => p (k : Int)
theorem kEv_at {n : Nat} {p : Int → Bool} (h : kEv n p = true) (i : Int) (h0 : 0 ≤ i) (h1 : i < n) : p i = true := by
  obtain ⟨k, rfl, hk⟩ := rng_all (p := fun k => p (k : Int)) h i h0 h1
  exact hk
theorem sumN_z {f : Nat → Int} : ∀ n : Nat, (∀ k, k < n → f k = 0) → sumN f n = 0
  | 0, _ => rfl
  | n + 1, h => by
    have e := sumN_z n (fun k hk => h k (by omega))
    show sumN f n + f n = 0
    rw [e, h n (by omega)]
    rfl
def kW (w : Int → Int) : Bool := decide (w 1 = 1) && (decide (w 2 = 8) && (decide (w 8 = 900) && (kEv 9 (fun i => decide (w (10 + i) = 0)) && (kEv 7 (fun i => decide (w (21 + i) = 0)) && (kEv 20 (fun i => decide (w (40 + i) = 0)) && (kEv 35 (fun i => decide (w (60 + i) = 0)) && (kEv 192 (fun i => decide (w (95 + i) = 0)) && decide (w 3 = 0))))))))
def kC (c : Nat → Int → Int) (w : Int → Int) : Bool := kEv 6 (fun i => decide (c 10 i = w (4 + i))) && (kEv 4 (fun i => decide (c 10 (6 + i) = w (28 + i))) && (kEv 3 (fun i => decide (c 10 (10 + i) = w (1611 + i))) && (decide (c 30 2 = w 19) && (decide (c 30 3 = w 20) && (kEv 4 (fun i => decide (c 31 i = w (32 + i))) && (kEv 4 (fun i => decide (c 32 i = w (36 + i))) && (kEv 4 (fun i => decide (c 29 i = w (1607 + i))) && (decide (c 19 3 = w 1) && (decide (c 19 4 = w 2) && decide (w 0 = c 8 9))))))))))
def kZ (c : Nat → Int → Int) : Bool := kEv 6 (fun i => decide (c 8 (10 + i) = 0)) && (kEv 28 (fun i => decide (c 24 i = 0)) && (kEv 28 (fun i => decide (c 25 i = 0)) && (kEv 16 (fun i => decide (c 22 i = 0)) && (decide (c 19 6 = 0) && (decide (c 33 3 = 0) && (kEv 5 (fun i => decide (c 34 i = 0)) && (kEv 5 (fun i => decide (c 35 i = 0)) && (kEv 5 (fun i => decide (c 36 i = 0)) && (decide (c 37 1 = 0) && (kEv 384 (fun i => decide (c 28 i = 0)) && (kEv 8 (fun i => decide (c 27 (2 + i) = 0)) && (decide (c 23 3 = 0) && (kEv 198 (fun i => decide (c 26 i = 0)) && kEv 4 (fun i => decide (c 31 i = -1)))))))))))))))
theorem kMY_ok {c : Nat → Int → Int} {w : Int → Int} (hcr : CR c w) (h1 : kW w = true) (h2 : kC c w = true) (h3 : kZ c = true) : MY 0 c w := by
  unfold kW at h1
  unfold kC at h2
  unfold kZ at h3
  simp only [Bool.and_eq_true, decide_eq_true_eq] at h1 h2 h3
  obtain ⟨w1, w2, w8, x10, x21, x40, x60, x95, w3⟩ := h1
  obtain ⟨y4, y28, y11, y19, y20, y31, y32, y29, p1, p2, t0⟩ := h2
  obtain ⟨z8, z24, z25, z22, z19, z33, z34, z35, z36, z37, z28, z27, z23, z26, z31⟩ := h3
  have W10 : ∀ i, 10 ≤ i → i ≤ 18 → w i = 0 := fun i i0 i1 => by
    have := of_decide_eq_true (kEv_at x10 (i - 10) (by omega) (by omega))
    rw [show 10 + (i - 10) = i by omega] at this
    exact this
  have W21 : ∀ i, 21 ≤ i → i ≤ 27 → w i = 0 := fun i i0 i1 => by
    have := of_decide_eq_true (kEv_at x21 (i - 21) (by omega) (by omega))
    rw [show 21 + (i - 21) = i by omega] at this
    exact this
  have W40 : ∀ i, 40 ≤ i → i ≤ 59 → w i = 0 := fun i i0 i1 => by
    have := of_decide_eq_true (kEv_at x40 (i - 40) (by omega) (by omega))
    rw [show 40 + (i - 40) = i by omega] at this
    exact this
  have W60 : ∀ i, 60 ≤ i → i ≤ 94 → w i = 0 := fun i i0 i1 => by
    have := of_decide_eq_true (kEv_at x60 (i - 60) (by omega) (by omega))
    rw [show 60 + (i - 60) = i by omega] at this
    exact this
  have W95 : ∀ i, 95 ≤ i → i ≤ 286 → w i = 0 := fun i i0 i1 => by
    have := of_decide_eq_true (kEv_at x95 (i - 95) (by omega) (by omega))
    rw [show 95 + (i - 95) = i by omega] at this
    exact this
  have Z8 : ∀ i, 10 ≤ i → i ≤ 15 → c 8 i = 0 := fun i i0 i1 => by
    have := of_decide_eq_true (kEv_at z8 (i - 10) (by omega) (by omega))
    rw [show 10 + (i - 10) = i by omega] at this
    exact this
  have Z27 : ∀ i, 2 ≤ i → i ≤ 9 → c 27 i = 0 := fun i i0 i1 => by
    have := of_decide_eq_true (kEv_at z27 (i - 2) (by omega) (by omega))
    rw [show 2 + (i - 2) = i by omega] at this
    exact this
  have Z24 : ∀ i, 0 ≤ i → i < 28 → c 24 i = 0 := fun i i0 i1 => of_decide_eq_true (kEv_at z24 i i0 (by omega))
  have Z25 : ∀ i, 0 ≤ i → i < 28 → c 25 i = 0 := fun i i0 i1 => of_decide_eq_true (kEv_at z25 i i0 (by omega))
  have Z22 : ∀ i, 0 ≤ i → i < 16 → c 22 i = 0 := fun i i0 i1 => of_decide_eq_true (kEv_at z22 i i0 (by omega))
  have Z34 : ∀ i, 0 ≤ i → i < 5 → c 34 i = 0 := fun i i0 i1 => of_decide_eq_true (kEv_at z34 i i0 (by omega))
  have Z35 : ∀ i, 0 ≤ i → i < 5 → c 35 i = 0 := fun i i0 i1 => of_decide_eq_true (kEv_at z35 i i0 (by omega))
  have Z36 : ∀ i, 0 ≤ i → i < 5 → c 36 i = 0 := fun i i0 i1 => of_decide_eq_true (kEv_at z36 i i0 (by omega))
  have Z28 : ∀ i, 0 ≤ i → i < 384 → c 28 i = 0 := fun i i0 i1 => of_decide_eq_true (kEv_at z28 i i0 (by omega))
  have Y4 : ∀ i, 0 ≤ i → i < 6 → c 10 i = w (4 + i) := fun i i0 i1 => of_decide_eq_true (kEv_at y4 i i0 (by omega))
  have Y28 : ∀ i, 0 ≤ i → i < 4 → c 10 (6 + i) = w (28 + i) := fun i i0 i1 => of_decide_eq_true (kEv_at y28 i i0 (by omega))
  have Y11 : ∀ i, 0 ≤ i → i < 3 → c 10 (10 + i) = w (1611 + i) := fun i i0 i1 => of_decide_eq_true (kEv_at y11 i i0 (by omega))
  have Y31 : ∀ i, 0 ≤ i → i < 4 → c 31 i = w (32 + i) := fun i i0 i1 => of_decide_eq_true (kEv_at y31 i i0 (by omega))
  have Y32 : ∀ i, 0 ≤ i → i < 4 → c 32 i = w (36 + i) := fun i i0 i1 => of_decide_eq_true (kEv_at y32 i i0 (by omega))
  have Y29 : ∀ i, 0 ≤ i → i < 4 → c 29 i = w (1607 + i) := fun i i0 i1 => of_decide_eq_true (kEv_at y29 i i0 (by omega))
  have w16 := W10 16 (by omega) (by omega)
  have w17 := W10 17 (by omega) (by omega)
  have w18 := W10 18 (by omega) (by omega)
  -- sums of samples that are none
  have sT : ∀ f : Int, 0 ≤ f → f < 1 → AC w f = 0 ∧ RE w f = 0 ∧ SQ w 95 f = 0 ∧ SQ w 143 f = 0 := fun f f0 f1 => by
    have hn : (w 2).toNat = 8 := by rw [w2]; rfl
    refine ⟨sumN_z _ (fun k hk => ?_), sumN_z _ (fun k hk => ?_), sumN_z _ (fun k hk => ?_), sumN_z _ (fun k hk => ?_)⟩
    · unfold tA
      rw [W95 _ (by omega) (by omega), Int.zero_mul]
    · unfold tR
      rw [W95 _ (by omega) (by omega), Int.zero_mul]
    · unfold tS
      rw [W95 _ (by omega) (by omega), Int.zero_mul]
    · unfold tS
      rw [W95 _ (by omega) (by omega), Int.zero_mul]
  have tT : ∀ i : Int, sumN (TG w i) (w 1).toNat = 0 := fun i => sumN_z _ (fun k hk => by
    have hn : (w 1).toNat = 1 := by rw [w1]; rfl
    obtain ⟨a1, a2, a3, a4⟩ := sT (k : Int) (by omega) (by omega)
    unfold TG
    repeat' split
    all_goals assumption)
  have hws : WS c w := by
    refine ⟨fun f hf => ?_, ?_, ?_, ?_, ?_, ?_⟩
    · obtain ⟨a1, a2, a3, a4⟩ := sT (f : Int) (by omega) (by omega)
      rw [a1, a2, a3, a4]
      exact ⟨Z22 _ (by omega) (by omega), Z22 _ (by omega) (by omega), Z22 _ (by omega) (by omega), Z22 _ (by omega) (by omega)⟩
    · rw [tT]
      exact Z22 3 (by omega) (by omega)
    · rw [tT]
      exact Z22 7 (by omega) (by omega)
    · rw [tT]
      exact Z22 11 (by omega) (by omega)
    · rw [tT]
      exact Z22 15 (by omega) (by omega)
    · rw [Z22 3 (by omega) (by omega), Z22 7 (by omega) (by omega), z19]
      exact ⟨by omega, by omega, by omega⟩
  have hwb : WB w := ⟨by omega, by omega, by omega, by omega, by omega, by omega, fun i i0 i1 => by have := W95 i i0 i1; omega⟩
  have hst : ST c w := ⟨Y4 0 (by omega) (by omega), Y4 1 (by omega) (by omega), Y4 2 (by omega) (by omega), Y4 3 (by omega) (by omega), Y4 4 (by omega) (by omega), Y4 5 (by omega) (by omega), Y28, Y11 0 (by omega) (by omega), Y11 1 (by omega) (by omega), Y11 2 (by omega) (by omega), by omega⟩
  have v40 := W40 40 (by omega) (by omega)
  have v41 := W40 41 (by omega) (by omega)
  have v42 := W40 42 (by omega) (by omega)
  have v43 := W40 43 (by omega) (by omega)
  have v44 := W40 44 (by omega) (by omega)
  have g13 := Z8 13 (by omega) (by omega)
  have g14 := Z8 14 (by omega) (by omega)
  have g15 := Z8 15 (by omega) (by omega)
  have g10 := Z8 10 (by omega) (by omega)
  have g11 := Z8 11 (by omega) (by omega)
  have g12 := Z8 12 (by omega) (by omega)
  have hld : LD c w := by
    refine ⟨by rw [Z27 2 (by omega) (by omega)]; exact w17.symm, by omega, ⟨fun i i0 i1 => by omega, fun j j0 j1 k k0 k1 => Z28 _ (by omega) (by omega)⟩, Y29, ?_⟩
    refine ⟨?_, ?_, ?_, ?_, ?_, ?_, by have := W21 25 (by omega) (by omega); omega, by have := W21 25 (by omega) (by omega); omega, by have := W21 26 (by omega) (by omega); omega, by have := W21 26 (by omega) (by omega); omega, by have := W21 27 (by omega) (by omega); omega, by have := W21 27 (by omega) (by omega); omega⟩
    · rw [Z27 3 (by omega) (by omega), W21 22 (by omega) (by omega)]
    · rw [Z27 4 (by omega) (by omega), W21 23 (by omega) (by omega)]
    · rw [Z27 5 (by omega) (by omega), W21 24 (by omega) (by omega)]
    · rw [Z27 6 (by omega) (by omega), W21 25 (by omega) (by omega)]
    · rw [Z27 7 (by omega) (by omega), W21 26 (by omega) (by omega)]
    · rw [Z27 8 (by omega) (by omega), W21 27 (by omega) (by omega)]
  have hod : OD c w := by
    unfold OD
    rw [Z27 9 (by omega) (by omega), W21 21 (by omega) (by omega), w8, if_pos (show (0 : Int) % 900 = 0 from rfl)]
  have hk : MK c w := by
    refine ⟨fun m m0 m1 => .inl (W40 _ (by omega) (by omega)), ?_, fun m m0 m1 => ?_, fun m m0 m1 => ?_, fun m m0 m1 => ?_⟩
    · unfold onV
      rw [v40, v41, v42, v43, v44, z33]
      rfl
    · rw [Z34 m m0 m1, W40 _ (by omega) (by omega)]
    · rw [Z35 m m0 m1, W40 _ (by omega) (by omega)]
    · rw [Z36 m m0 m1, W40 _ (by omega) (by omega)]
  have hl : LG c w := ⟨by rw [z37]; exact w16.symm, by omega, fun i i0 i1 => by omega⟩
  have hmv : MV c w := MV.of t0 ⟨by rw [g13]; exact W10 13 (by omega) (by omega), by rw [g14]; exact W10 14 (by omega) (by omega), by rw [g15]; exact W10 15 (by omega) (by omega)⟩ ⟨by rw [g10]; exact W10 10 (by omega) (by omega), by rw [g11]; exact W10 11 (by omega) (by omega), by rw [g12]; exact W10 12 (by omega) (by omega)⟩
    ⟨fun q t q0 q1 t0 t1 => by rw [W60 _ (by omega) (by omega), Z24 _ (by omega) (by omega)], fun q q0 q1 => by rw [W60 _ (by omega) (by omega), W60 _ (by omega) (by omega), W60 _ (by omega) (by omega), W60 _ (by omega) (by omega), W60 _ (by omega) (by omega)]; rfl⟩ hk hl ⟨y19, y20, Y31, Y32⟩ hld hod
  have hcb : CBD 0 0 c := by
    refine ⟨by omega, fun i i0 i1 => by have := Z24 i i0 i1; omega, fun i i0 i1 => by have := Z27 i (by omega) (by omega); omega, by have := Z27 6 (by omega) (by omega); omega, by omega, fun m m0 m1 => ?_, by omega, by have := Z27 7 (by omega) (by omega); omega, by omega, by have := Z27 8 (by omega) (by omega); omega⟩
    have q4 := Z34 m m0 m1
    have q5 := Z35 m m0 m1
    have q6 := Z36 m m0 m1
    omega
  have hsh : c 8 12 = shO (c 8 11) (c 8 10) := by
    rw [g12, g11, g10]
    rfl
  refine ⟨⟨hmv, ⟨p1, p2, hws, hst, hwb⟩, hcr, hcb, hsh, .inl g11⟩, ⟨by rw [w3, w1, w2]; decide, fun k k0 k1 => by omega⟩, ⟨by rw [z23]; exact w18.symm, by omega, fun q t q0 q1 t0 t1 => ?_, fun i i0 i1 => by omega, fun e q e0 e1 => by omega, fun e q t e0 e1 => by omega⟩, by omega, by omega, ?_⟩
  · rw [if_pos w18]
    exact Z25 _ (by omega) (by omega)
  · refine ⟨fun j j0 j1 => by rw [Z28 _ (by omega) (by omega)]; omega, fun t t0 t1 => by rw [of_decide_eq_true (kEv_at z31 t t0 (by omega))]; omega, fun i i0 i1 => by rw [Z25 i i0 i1, Z24 i i0 i1]; omega, fun j i j0 j1 i0 i1 => ?_, fun j k j0 j1 k0 k1 => ?_⟩
    · rw [of_decide_eq_true (kEv_at z26 (j * 33 + i) (by omega) (by omega))]
      omega
    · rw [of_decide_eq_true (kEv_at z26 (j * 33 + (28 + k)) (by omega) (by omega))]
      omega
def kRel3 (m : zM) : Bool := kRel m && (kW (m 4 45) && (kC (m 0) (m 4 45) && (kZ (m 0) && decide (m 4 44 3 = 0))))
theorem kRel3_ok {m : zM} (h : kRel3 m = true) : Rel3 0 m m := by
  unfold kRel3 at h
  simp only [Bool.and_eq_true, decide_eq_true_eq] at h
  obtain ⟨h1, h2, h3, h4, h5⟩ := h
  have r := kRel_ok h1
  exact ⟨r, kMY_ok r.1.2.2.2 h2 h3 h4, fun e => by omega⟩
end
