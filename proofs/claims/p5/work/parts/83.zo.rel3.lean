/-! All that hangs together. -/
theorem WV.st {c c' : Nat → Int → Int} {w w' : Int → Int} (h : WV c w) (h2 : FE 2 c c') (k2 : FW 2 w w') (st : ST c' w') : WV c' w' := by
  have e : ∀ i, (1 ≤ i ∧ i ≤ 3) ∨ (95 ≤ i ∧ i ≤ 286) → w' i = w i := fun i hi => by
    rcases hi with hi | hi
    · exact k2 i (by omega) (by omega) (ja45_1 hi)
    · exact k2 i (by omega) (by omega) (ja45_95 hi)
  obtain ⟨a1, a2, a3, a4, a5⟩ := h
  exact ⟨by rw [h2.p19_3 3 (by omega) (by omega), e 1 (by omega)]; exact a1, by rw [h2.p19_3 4 (by omega) (by omega), e 2 (by omega)]; exact a2, a3.fe a5 h2 k2, st, a5.pt e⟩
theorem CBD.z7 {A Z : Int} {c c' : Nat → Int → Int} (h : CBD A Z c) (h9 : FE 9 c c') (h10 : FE 10 c c') (h12 : FE 12 c c') (h13 : FE 13 c c') (hz : ∀ i, 3 ≤ i → i ≤ 8 → c' 27 i = 0 ∨ c' 27 i = c 27 i) : CBD A Z c' := by
  obtain ⟨b1, b2, b3, b4, b5, b6, b7, b8, b9, b10⟩ := h
  have e13 := h13.p8_13 13 (by omega) (by omega)
  have e15 := h13.p8_13 15 (by omega) (by omega)
  unfold CBD
  rw [e13, h13.p8_13 14 (by omega) (by omega), e15, h12.p8_10 10 (by omega) (by omega)]
  refine ⟨b1, fun i i0 i1 => ?_, fun i i0 i1 => ?_, ?_, b5, fun m m0 m1 => ?_, b7, ?_, b9, ?_⟩
  · rw [h10.p24_0 i i0 (by omega)]
    exact b2 i i0 i1
  · have := b3 i i0 i1
    rcases hz i i0 (by omega) with e | e <;> omega
  · rcases hz 6 (by omega) (by omega) with e | e <;> omega
  · rw [h9.p34_0 m m0 (by omega), h9.p35_0 m m0 (by omega), h9.p36_0 m m0 (by omega)]
    exact b6 m m0 m1
  · rcases hz 7 (by omega) (by omega) with e | e <;> omega
  · rcases hz 8 (by omega) (by omega) with e | e <;> omega
theorem CBD.cred {A Z : Int} {c c' : Nat → Int → Int} (h : CBD A Z c) (h7 : FE 7 c c') (h9 : FE 9 c c') (h10 : FE 10 c c') (h13 : FE 13 c c') (lo : c 8 10 ≤ c' 8 10) (hi : c' 8 10 ≤ 5000000000000) : CBD A Z c' := by
  obtain ⟨b1, b2, b3, b4, b5, b6, b7, b8, b9, b10⟩ := h
  unfold CBD
  rw [h13.p8_13 13 (by omega) (by omega), h13.p8_13 14 (by omega) (by omega), h13.p8_13 15 (by omega) (by omega), h7.p27_2 6 (by omega) (by omega), h7.p27_2 7 (by omega) (by omega), h7.p27_2 8 (by omega) (by omega)]
  refine ⟨b1, fun i i0 i1 => ?_, fun i i0 i1 => ?_, b4, b5, fun m m0 m1 => ?_, by omega, b8, b9, b10⟩
  · rw [h10.p24_0 i i0 (by omega)]
    exact b2 i i0 i1
  · rw [h7.p27_2 i (by omega) (by omega)]
    exact b3 i i0 i1
  · rw [h9.p34_0 m m0 (by omega), h9.p35_0 m m0 (by omega), h9.p36_0 m m0 (by omega)]
    exact b6 m m0 m1
theorem CBD.marks {A Z : Int} {c c' : Nat → Int → Int} (h : CBD A Z c) (h7 : FE 7 c c') (h10 : FE 10 c c') (h12 : FE 12 c c') (h13 : FE 13 c c') (hm : ∀ m, 0 ≤ m → m < 5 → (0 ≤ c' 34 m ∧ c' 34 m ≤ Z + 1 + c 8 13) ∧ c' 35 m = c 35 m ∧ c' 36 m = c 36 m) : CBD A (Z + 1) c' := by
  obtain ⟨b1, b2, b3, b4, b5, b6, b7, b8, b9, b10⟩ := h
  unfold CBD
  rw [h13.p8_13 13 (by omega) (by omega), h13.p8_13 14 (by omega) (by omega), h13.p8_13 15 (by omega) (by omega), h12.p8_10 10 (by omega) (by omega), h7.p27_2 6 (by omega) (by omega), h7.p27_2 7 (by omega) (by omega), h7.p27_2 8 (by omega) (by omega)]
  refine ⟨b1, fun i i0 i1 => ?_, fun i i0 i1 => ?_, b4, b5, fun m m0 m1 => ?_, b7, b8, b9, b10⟩
  · rw [h10.p24_0 i i0 (by omega)]
    exact b2 i i0 i1
  · rw [h7.p27_2 i (by omega) (by omega)]
    exact b3 i i0 i1
  · obtain ⟨x1, x2, x3⟩ := hm m m0 m1
    obtain ⟨y1, y2, y3⟩ := b6 m m0 m1
    rw [x2, x3]
    exact ⟨x1, y2, y3⟩
def MY (B : Int) (c : Nat → Int → Int) (w : Int → Int) : Prop := MG (B / 244) (B / 2) c w ∧ WN c w ∧ BI c w ∧ 2 * c 8 15 ≤ B ∧ c 8 10 ≤ 4600 * B ∧ XI c
theorem MY.up {B B' : Int} {c : Nat → Int → Int} {w : Int → Int} (h : MY B c w) (hb : B ≤ B') : MY B' c w := by
  obtain ⟨h1, h2, h3, h4, h5, h6⟩ := h
  exact ⟨h1.up (by omega) (by omega), h2, h3, by omega, by omega, h6⟩
theorem MY.all {B : Int} {c c' : Nat → Int → Int} {w w' : Int → Int} (h : MY B c w) (hb : CB c) (h1 : ∀ n, FE n c c') (h2 : ∀ i, 0 ≤ i → i ≤ 1618 → w' i = w i) : MY B c' w' := by
  obtain ⟨g1, g2, g3, g4, g5, g6⟩ := h
  refine ⟨g1.fe hb (fun n _ _ => h1 n) (fun n _ _ => FW.all h2 n), g2.fe g1.2.1.2.2.2.2 (h1 2) (FW.all h2 2), g3.fe (h1 5) (FW.all h2 5), ?_, ?_, g6.fe (h1 5) (h1 7) (h1 8) (h1 10)⟩
  · rw [(h1 13).p8_13 15 (by omega) (by omega)]
    exact g4
  · rw [(h1 12).p8_10 10 (by omega) (by omega)]
    exact g5
def Rel3 (B : Int) (c r : zM) : Prop := Rel2 B c r ∧ MY B (c 0) (r 4 45) ∧ (r 4 44 3 = 1 → MY B (c 1) (r 4 47))
theorem Rel3.up {B B' : Int} {c r : zM} (h : Rel3 B c r) (hb : B ≤ B') : Rel3 B' c r := ⟨h.1.up hb, h.2.1.up hb, fun e => (h.2.2 e).up hb⟩
/-- the image is as it was, on both sides, behind both calls -/
theorem Rel3.img {L L' G : List Nat} {B B1 B2 B3 : Int} {m m1 m2 : zM} (h : Rel3 B m m) (k2 : J (zQ L G) m B1 m1) (k4 : J (zQ L' [4]) m1 B2 m2) (hb : B ≤ B3) (g1 : G.contains 1 = false) (a47 : ((jp 47).all fun x => !L.contains x.2.2.1.toNat) = true) (a44 : ((jp 44).all fun x => !L.contains x.2.2.1.toNat) = true) (a0 : L.contains 0 = false) (b47 : ((jp 47).all fun x => !L'.contains x.2.2.1.toNat) = true) (b34 : L'.contains 34 = false) (b0 : L'.contains 0 = false) : m2 4 44 3 = 1 → MY B3 (m2 1) (m2 4 47) := fun e => by
  have e1 : m2 4 44 3 = m 4 44 3 := by rw [jx k4 34 ja44_3 b34, k2.row 44 a44 a0 4]
  rw [jy k4 (g := 1) rfl, jy k2 g1, k4.row 47 b47 b0 4, k2.row 47 a47 a0 4]
  exact (h.2.2 (by rw [← e1]; exact e)).up hb
