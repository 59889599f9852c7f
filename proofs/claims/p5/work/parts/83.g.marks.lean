/-! The marks on both sides. -/
def onV (w : Int → Int) : Int := w 40 + 2 * w 41 + 4 * w 42 + 8 * w 43 + 16 * w 44
def b01 (w : Int → Int) : Prop := ∀ m, 0 ≤ m → m < 5 → w (40 + m) = 0 ∨ w (40 + m) = 1
theorem tab_bit : ∀ n : Fin 32, ∀ m : Fin 5, zand (zshr (n.val : Int) (m.val : Int)) 1 = ((n.val / 2 ^ m.val % 2 : Nat) : Int) := by decide +kernel
theorem tab_on : ∀ n : Fin 32, ∀ m : Fin 5, n.val / 2 ^ m.val % 2 = 0 → zor (n.val : Int) (zshl 1 (m.val : Int)) = ((n.val + 2 ^ m.val : Nat) : Int) := by decide +kernel
theorem tab_off : ∀ n : Fin 32, ∀ m : Fin 5, n.val / 2 ^ m.val % 2 = 1 → zand (n.val : Int) (zxor (zshl 1 (m.val : Int)) (-1)) = ((n.val - 2 ^ m.val : Nat) : Int) := by decide +kernel
theorem tab_all : ∀ b0 b1 b2 b3 b4 : Fin 2, zorL (zorL (zorL (zorL (zorL 0 (zshlL (b0.val : Int) 0)) (zshlL (b1.val : Int) 1)) (zshlL (b2.val : Int) 2)) (zshlL (b3.val : Int) 3)) (zshlL (b4.val : Int) 4) = (b0.val : Int) + 2 * (b1.val : Int) + 4 * (b2.val : Int) + 8 * (b3.val : Int) + 16 * (b4.val : Int) := by decide +kernel
theorem b01.at {w : Int → Int} (h : b01 w) : (w 40 = 0 ∨ w 40 = 1) ∧ (w 41 = 0 ∨ w 41 = 1) ∧ (w 42 = 0 ∨ w 42 = 1) ∧ (w 43 = 0 ∨ w 43 = 1) ∧ (w 44 = 0 ∨ w 44 = 1) := ⟨h 0 (by omega) (by omega), h 1 (by omega) (by omega), h 2 (by omega) (by omega), h 3 (by omega) (by omega), h 4 (by omega) (by omega)⟩
theorem onV_r {w : Int → Int} (h : b01 w) : 0 ≤ onV w ∧ onV w < 32 := by
  have := h.at
  unfold onV
  omega
/-- the bit of a mark -/
theorem onV_bit {w : Int → Int} (h : b01 w) {m : Int} (h0 : 0 ≤ m) (h1 : m < 5) : zand (zshr (onV w) m) 1 = w (40 + m) := by
  obtain ⟨r0, r1⟩ := onV_r h
  have t := tab_bit ⟨(onV w).toNat, by omega⟩ ⟨m.toNat, by omega⟩
  try dsimp only at t
  rw [show ((onV w).toNat : Int) = onV w by omega, show (m.toNat : Int) = m by omega] at t
  rw [t]
  have := h.at
  unfold onV
  rcases (show m = 0 ∨ m = 1 ∨ m = 2 ∨ m = 3 ∨ m = 4 by omega) with rfl | rfl | rfl | rfl | rfl
  · show (((w 40 + 2 * w 41 + 4 * w 42 + 8 * w 43 + 16 * w 44).toNat / 1 % 2 : Nat) : Int) = w 40
    omega
  · show (((w 40 + 2 * w 41 + 4 * w 42 + 8 * w 43 + 16 * w 44).toNat / 2 % 2 : Nat) : Int) = w 41
    omega
  · show (((w 40 + 2 * w 41 + 4 * w 42 + 8 * w 43 + 16 * w 44).toNat / 4 % 2 : Nat) : Int) = w 42
    omega
  · show (((w 40 + 2 * w 41 + 4 * w 42 + 8 * w 43 + 16 * w 44).toNat / 8 % 2 : Nat) : Int) = w 43
    omega
  · show (((w 40 + 2 * w 41 + 4 * w 42 + 8 * w 43 + 16 * w 44).toNat / 16 % 2 : Nat) : Int) = w 44
    omega
theorem onV_fu {w : Int → Int} {m x : Int} (h0 : 0 ≤ m) (h1 : m < 5) : onV (fu w (40 + m) x) = onV w + (x - w (40 + m)) * (2 ^ m.toNat : Nat) := by
  unfold onV
  rcases (show m = 0 ∨ m = 1 ∨ m = 2 ∨ m = 3 ∨ m = 4 by omega) with rfl | rfl | rfl | rfl | rfl
  · show fu w 40 x 40 + 2 * fu w 40 x 41 + 4 * fu w 40 x 42 + 8 * fu w 40 x 43 + 16 * fu w 40 x 44 = _ + (x - w 40) * 1
    rw [fu_s, fu_i _ _ (by decide), fu_i _ _ (by decide), fu_i _ _ (by decide), fu_i _ _ (by decide)]
    omega
  · show fu w 41 x 40 + 2 * fu w 41 x 41 + 4 * fu w 41 x 42 + 8 * fu w 41 x 43 + 16 * fu w 41 x 44 = _ + (x - w 41) * 2
    rw [fu_s, fu_i _ _ (by decide), fu_i _ _ (by decide), fu_i _ _ (by decide), fu_i _ _ (by decide)]
    omega
  · show fu w 42 x 40 + 2 * fu w 42 x 41 + 4 * fu w 42 x 42 + 8 * fu w 42 x 43 + 16 * fu w 42 x 44 = _ + (x - w 42) * 4
    rw [fu_s, fu_i _ _ (by decide), fu_i _ _ (by decide), fu_i _ _ (by decide), fu_i _ _ (by decide)]
    omega
  · show fu w 43 x 40 + 2 * fu w 43 x 41 + 4 * fu w 43 x 42 + 8 * fu w 43 x 43 + 16 * fu w 43 x 44 = _ + (x - w 43) * 8
    rw [fu_s, fu_i _ _ (by decide), fu_i _ _ (by decide), fu_i _ _ (by decide), fu_i _ _ (by decide)]
    omega
  · show fu w 44 x 40 + 2 * fu w 44 x 41 + 4 * fu w 44 x 42 + 8 * fu w 44 x 43 + 16 * fu w 44 x 44 = _ + (x - w 44) * 16
    rw [fu_s, fu_i _ _ (by decide), fu_i _ _ (by decide), fu_i _ _ (by decide), fu_i _ _ (by decide)]
    omega
theorem b01.fu {w : Int → Int} (h : b01 w) {m x : Int} (hx : x = 0 ∨ x = 1) : b01 (fu w (40 + m) x) := fun k h0 h1 => by
  by_cases e : k = m
  · rw [e, fu_s]
    exact hx
  · rw [fu_i _ _ (by omega)]
    exact h k h0 h1
theorem bitN {w : Int → Int} (h : b01 w) {m : Int} (h0 : 0 ≤ m) (h1 : m < 5) : (onV w).toNat / 2 ^ m.toNat % 2 = (w (40 + m)).toNat := by
  obtain ⟨r0, r1⟩ := onV_r h
  have t := tab_bit ⟨(onV w).toNat, by omega⟩ ⟨m.toNat, by omega⟩
  try dsimp only at t
  rw [show ((onV w).toNat : Int) = onV w by omega, show (m.toNat : Int) = m by omega, onV_bit h h0 h1] at t
  omega
/-- a mark comes -/
theorem onV_on {w : Int → Int} (h : b01 w) {m : Int} (h0 : 0 ≤ m) (h1 : m < 5) (hz : w (40 + m) = 0) : zor (onV w) (zshl 1 m) = onV (fu w (40 + m) 1) := by
  obtain ⟨r0, r1⟩ := onV_r h
  have hb := bitN h h0 h1
  have t := tab_on ⟨(onV w).toNat, by omega⟩ ⟨m.toNat, by omega⟩ (by dsimp only; rw [hb, hz]; rfl)
  try dsimp only at t
  rw [show ((onV w).toNat : Int) = onV w by omega, show (m.toNat : Int) = m by omega] at t
  rw [t, onV_fu h0 h1, hz]
  omega
theorem onV_off {w : Int → Int} (h : b01 w) {m : Int} (h0 : 0 ≤ m) (h1 : m < 5) (hz : w (40 + m) = 1) : zand (onV w) (zxor (zshl 1 m) (-1)) = onV (fu w (40 + m) 0) := by
  obtain ⟨r0, r1⟩ := onV_r h
  have hb := bitN h h0 h1
  have t := tab_off ⟨(onV w).toNat, by omega⟩ ⟨m.toNat, by omega⟩ (by dsimp only; rw [hb, hz]; rfl)
  try dsimp only at t
  rw [show ((onV w).toNat : Int) = onV w by omega, show (m.toNat : Int) = m by omega] at t
  have := h.at
  have e : (2 ^ m.toNat : Nat) ≤ (onV w).toNat := by
    unfold onV
    rcases (show m = 0 ∨ m = 1 ∨ m = 2 ∨ m = 3 ∨ m = 4 by omega) with rfl | rfl | rfl | rfl | rfl
    · have hz : w 40 = 1 := hz
      show 1 ≤ _
      omega
    · have hz : w 41 = 1 := hz
      show 2 ≤ _
      omega
    · have hz : w 42 = 1 := hz
      show 4 ≤ _
      omega
    · have hz : w 43 = 1 := hz
      show 8 ≤ _
      omega
    · have hz : w 44 = 1 := hz
      show 16 ≤ _
      omega
  rw [t, onV_fu h0 h1, hz]
  omega
/-- all marks, as the reference puts them together -/
theorem on_r {m : zM} (h : b01 (m 4 45)) : f231_1 m = onV (m 4 45) := by
  have h9 := h.at
  have e : f231_1 m = zorL (zorL (zorL (zorL (zorL 0 (zshlL (m 4 45 40) 0)) (zshlL (m 4 45 41) 1)) (zshlL (m 4 45 42) 2)) (zshlL (m 4 45 43) 3)) (zshlL (m 4 45 44) 4) := by
    unfold f231_1
    rw [zfu_eq]
    rfl
  rw [e]
  have t := tab_all ⟨(m 4 45 40).toNat, by omega⟩ ⟨(m 4 45 41).toNat, by omega⟩ ⟨(m 4 45 42).toNat, by omega⟩ ⟨(m 4 45 43).toNat, by omega⟩ ⟨(m 4 45 44).toNat, by omega⟩
  try dsimp only at t
  rw [show ((m 4 45 40).toNat : Int) = m 4 45 40 by omega, show ((m 4 45 41).toNat : Int) = m 4 45 41 by omega, show ((m 4 45 42).toNat : Int) = m 4 45 42 by omega, show ((m 4 45 43).toNat : Int) = m 4 45 43 by omega, show ((m 4 45 44).toNat : Int) = m 4 45 44 by omega] at t
  exact t
def MK (c : Nat → Int → Int) (w : Int → Int) : Prop := b01 w ∧ c 33 3 = onV w ∧ (∀ m, 0 ≤ m → m < 5 → c 34 m = w (45 + m)) ∧ (∀ m, 0 ≤ m → m < 5 → c 35 m = w (50 + m)) ∧ (∀ m, 0 ≤ m → m < 5 → c 36 m = w (55 + m))
theorem b01.of {w w' : Int → Int} (h : b01 w) (e : ∀ i, 40 ≤ i → i ≤ 44 → w' i = w i) : b01 w' := fun m h0 h1 => by
  rw [e _ (by omega) (by omega)]
  exact h m h0 h1
theorem onV_of {w w' : Int → Int} (e : ∀ i, 40 ≤ i → i ≤ 44 → w' i = w i) : onV w' = onV w := by
  unfold onV
  rw [e 40 (by omega) (by omega), e 41 (by omega) (by omega), e 42 (by omega) (by omega), e 43 (by omega) (by omega), e 44 (by omega) (by omega)]
theorem MK.fe {c c' : Nat → Int → Int} {w w' : Int → Int} (h : MK c w) (h1 : FE 9 c c') (h2 : FW 9 w w') : MK c' w' := by
  obtain ⟨a1, a2, a3, a4, a5⟩ := h
  have ew : ∀ i, 40 ≤ i → i ≤ 59 → w' i = w i := fun i i0 i1 => h2 i (by omega) (by omega) (ja45_40 ⟨i0, i1⟩)
  refine ⟨a1.of (fun i i0 i1 => ew i i0 (by omega)), by rw [h1.p33_3, onV_of (fun i i0 i1 => ew i i0 (by omega))]; exact a2, fun m m0 m1 => ?_, fun m m0 m1 => ?_, fun m m0 m1 => ?_⟩
  · rw [h1.p34_0 m m0 (by omega), ew _ (by omega) (by omega)]
    exact a3 m m0 m1
  · rw [h1.p35_0 m m0 (by omega), ew _ (by omega) (by omega)]
    exact a4 m m0 m1
  · rw [h1.p36_0 m m0 (by omega), ew _ (by omega) (by omega)]
    exact a5 m m0 m1
/-- the class: one mark, asked -/
theorem isOn_c {m : zM} {g : Nat} {w : Int → Int} {y : Int} (hb : b01 w) (ho : m g 33 3 = onV w) (h0 : 0 ≤ y) (h1 : y < 5) : f40_1 g y m = w (40 + y) := by
  unfold f40_1
  simp only [zn_a]
  rw [ho, onV_bit hb h0 h1]
  have := hb y h0 h1
  split <;> omega
