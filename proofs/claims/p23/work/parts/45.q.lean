/-! What the contracts say of the functions alone. -/
def JB (B : Int) (m : zM) : Prop := ∀ g k i, jq (fun _ => False, fun _ => False, False, False) m g k i → jl k i ≤ m g k i ∧ m g k i ≤ jh B k i
/-- of the parts L, of the groups G anything may have changed -/
def zQ (L G : List Nat) : zS := (fun f => f ∉ L, fun g => g ∉ G, False, False)
theorem JB.j {L G : List Nat} {B : Int} {m : zM} (h : JB B m) : J (zQ L G) m B m := J.rf h
theorem J.jb {L G : List Nat} {B : Int} {m0 m : zM} (h : J (zQ L G) m0 B m) : JB B m := h.1
theorem JB.up {B B' : Int} {m : zM} (h : JB B m) (hb : B ≤ B') : JB B' m := fun g k i hq => ⟨(h g k i hq).1, Int.le_trans (h g k i hq).2 (jh_mono hb k i)⟩
theorem zQ_n {L G : List Nat} {f : Nat} (h : L.contains f = true) : ¬ (zQ L G).1 f := fun h9 => h9 (List.contains_iff_mem.mp h)
theorem zQ_g {L G : List Nat} {g : Nat} (h : g ∈ G) : ¬ (zQ L G).2.1 g := fun h9 => h9 h
theorem zv8 {g : Nat} (h : g < 3) : z_ok lL (zr g 8) := by
  rcases (show g = 0 ∨ g = 1 ∨ g = 2 by omega) with rfl | rfl | rfl
  · exact .inr (by unfold z_val; decide +kernel)
  · exact .inr (by unfold z_val; decide +kernel)
  · exact .inr (by unfold z_val; decide +kernel)
theorem zv9 {g : Nat} (h : g < 3) : z_ok lL (zr g 9) := by
  rcases (show g = 0 ∨ g = 1 ∨ g = 2 by omega) with rfl | rfl | rfl
  · exact .inr (by unfold z_val; decide +kernel)
  · exact .inr (by unfold z_val; decide +kernel)
  · exact .inr (by unfold z_val; decide +kernel)
theorem zv11 {g : Nat} (h : g < 4) : z_ok lL (zr g 11) := by
  rcases (show g = 0 ∨ g = 1 ∨ g = 2 ∨ g = 3 by omega) with rfl | rfl | rfl | rfl
  · exact .inr (by unfold z_val; decide +kernel)
  · exact .inr (by unfold z_val; decide +kernel)
  · exact .inr (by unfold z_val; decide +kernel)
  · exact .inr (by unfold z_val; decide +kernel)
theorem zv12 {g : Nat} (h : g < 4) : z_ok lL (zr g 12) := by
  rcases (show g = 0 ∨ g = 1 ∨ g = 2 ∨ g = 3 by omega) with rfl | rfl | rfl | rfl
  · exact .inr (by unfold z_val; decide +kernel)
  · exact .inr (by unfold z_val; decide +kernel)
  · exact .inr (by unfold z_val; decide +kernel)
  · exact .inr (by unfold z_val; decide +kernel)
theorem zv15 {g : Nat} (h : g < 4) : z_ok lL (zr g 15) := by
  rcases (show g = 0 ∨ g = 1 ∨ g = 2 ∨ g = 3 by omega) with rfl | rfl | rfl | rfl
  · exact .inr (by unfold z_val; decide +kernel)
  · exact .inr (by unfold z_val; decide +kernel)
  · exact .inr (by unfold z_val; decide +kernel)
  · exact .inr (by unfold z_val; decide +kernel)
theorem zv16 {g : Nat} (h : g < 4) : z_ok lL (zr g 16) := by
  rcases (show g = 0 ∨ g = 1 ∨ g = 2 ∨ g = 3 by omega) with rfl | rfl | rfl | rfl
  · exact .inr (by unfold z_val; decide +kernel)
  · exact .inr (by unfold z_val; decide +kernel)
  · exact .inr (by unfold z_val; decide +kernel)
  · exact .inr (by unfold z_val; decide +kernel)
theorem zv19 {g : Nat} (h : g < 3) : z_ok lL (zr g 19) := by
  rcases (show g = 0 ∨ g = 1 ∨ g = 2 by omega) with rfl | rfl | rfl
  · exact .inr (by unfold z_val; decide +kernel)
  · exact .inr (by unfold z_val; decide +kernel)
  · exact .inr (by unfold z_val; decide +kernel)
theorem zv22 {g : Nat} (h : g < 3) : z_ok lL (zr g 22) := by
  rcases (show g = 0 ∨ g = 1 ∨ g = 2 by omega) with rfl | rfl | rfl
  · exact .inr (by unfold z_val; decide +kernel)
  · exact .inr (by unfold z_val; decide +kernel)
  · exact .inr (by unfold z_val; decide +kernel)
theorem zv23 {g : Nat} (h : g < 3) : z_ok lL (zr g 23) := by
  rcases (show g = 0 ∨ g = 1 ∨ g = 2 by omega) with rfl | rfl | rfl
  · exact .inr (by unfold z_val; decide +kernel)
  · exact .inr (by unfold z_val; decide +kernel)
  · exact .inr (by unfold z_val; decide +kernel)
theorem zv24 {g : Nat} (h : g < 3) : z_ok lL (zr g 24) := by
  rcases (show g = 0 ∨ g = 1 ∨ g = 2 by omega) with rfl | rfl | rfl
  · exact .inr (by unfold z_val; decide +kernel)
  · exact .inr (by unfold z_val; decide +kernel)
  · exact .inr (by unfold z_val; decide +kernel)
theorem zv26 {g : Nat} (h : g < 3) : z_ok lL (zr g 26) := by
  rcases (show g = 0 ∨ g = 1 ∨ g = 2 by omega) with rfl | rfl | rfl
  · exact .inr (by unfold z_val; decide +kernel)
  · exact .inr (by unfold z_val; decide +kernel)
  · exact .inr (by unfold z_val; decide +kernel)
theorem zv27 {g : Nat} (h : g < 3) : z_ok lL (zr g 27) := by
  rcases (show g = 0 ∨ g = 1 ∨ g = 2 by omega) with rfl | rfl | rfl
  · exact .inr (by unfold z_val; decide +kernel)
  · exact .inr (by unfold z_val; decide +kernel)
  · exact .inr (by unfold z_val; decide +kernel)
theorem zv30 {g : Nat} (h : g < 3) : z_ok lL (zr g 30) := by
  rcases (show g = 0 ∨ g = 1 ∨ g = 2 by omega) with rfl | rfl | rfl
  · exact .inr (by unfold z_val; decide +kernel)
  · exact .inr (by unfold z_val; decide +kernel)
  · exact .inr (by unfold z_val; decide +kernel)
theorem zv31 {g : Nat} (h : g < 3) : z_ok lL (zr g 31) := by
  rcases (show g = 0 ∨ g = 1 ∨ g = 2 by omega) with rfl | rfl | rfl
  · exact .inr (by unfold z_val; decide +kernel)
  · exact .inr (by unfold z_val; decide +kernel)
  · exact .inr (by unfold z_val; decide +kernel)
theorem zv32 {g : Nat} (h : g < 3) : z_ok lL (zr g 32) := by
  rcases (show g = 0 ∨ g = 1 ∨ g = 2 by omega) with rfl | rfl | rfl
  · exact .inr (by unfold z_val; decide +kernel)
  · exact .inr (by unfold z_val; decide +kernel)
  · exact .inr (by unfold z_val; decide +kernel)
theorem zv33 {g : Nat} (h : g < 3) : z_ok lL (zr g 33) := by
  rcases (show g = 0 ∨ g = 1 ∨ g = 2 by omega) with rfl | rfl | rfl
  · exact .inr (by unfold z_val; decide +kernel)
  · exact .inr (by unfold z_val; decide +kernel)
  · exact .inr (by unfold z_val; decide +kernel)
theorem zv37 {g : Nat} (h : g < 3) : z_ok lL (zr g 37) := by
  rcases (show g = 0 ∨ g = 1 ∨ g = 2 by omega) with rfl | rfl | rfl
  · exact .inr (by unfold z_val; decide +kernel)
  · exact .inr (by unfold z_val; decide +kernel)
  · exact .inr (by unfold z_val; decide +kernel)
theorem zv39 {g : Nat} (h : g < 3) : z_ok lL (zr g 39) := by
  rcases (show g = 0 ∨ g = 1 ∨ g = 2 by omega) with rfl | rfl | rfl
  · exact .inr (by unfold z_val; decide +kernel)
  · exact .inr (by unfold z_val; decide +kernel)
  · exact .inr (by unfold z_val; decide +kernel)
theorem zv40 : z_ok lL (zr 4 40) := .inr (by unfold z_val; decide +kernel)
theorem zv41 : z_ok lL (zr 4 41) := .inr (by unfold z_val; decide +kernel)
theorem zv42 : z_ok lL (zr 4 42) := .inr (by unfold z_val; decide +kernel)
theorem zv43 : z_ok lL (zr 4 43) := .inr (by unfold z_val; decide +kernel)
theorem zv44 : z_ok lL (zr 4 44) := .inr (by unfold z_val; decide +kernel)
theorem zv45 : z_ok lL (zr 4 45) := .inr (by unfold z_val; decide +kernel)
theorem zv46 : z_ok lL (zr 4 46) := .inr (by unfold z_val; decide +kernel)
theorem zv47 : z_ok lL (zr 4 47) := .inr (by unfold z_val; decide +kernel)
theorem zv48 : z_ok lL (zr 4 48) := .inr (by unfold z_val; decide +kernel)
theorem zv49 : z_ok lL (zr 4 49) := .inr (by unfold z_val; decide +kernel)
theorem zv50 : z_ok lL (zr 4 50) := .inr (by unfold z_val; decide +kernel)
theorem q17_1 {m : zM} {B : Int} (g0 : Nat) (hk : z_mok lL m) (hJ : JB B m) (hB : B + 0 ≤ 1000000000) (hg0 : g0 < 3) : z_mok lL (f17_1 g0 m).2 ∧ J (zQ [4] [g0]) m (B) (f17_1 g0 m).2 ∧ (0 ≤ (f17_1 g0 m).1 ∧ (f17_1 g0 m).1 ≤ 1) := by
  obtain ⟨_, r, m1, _, h2, hk1, h⟩ := c17_1 (s := (0, fun _ => 0)) (S := zQ [4] [g0]) (m0 := m) (B := B) (d := 13) (Q := fun r m' => ∃ v, f17_1 g0 m = (v, m') ∧ J (zQ [4] [g0]) m (B) m' ∧ (0 ≤ v ∧ v ≤ 1)) g0 (Nat.le_refl _) hJ.j hB (zQ_n rfl) (zQ_g (by simp)) (fun v m' hb hF hJ' => ⟨v, hF, hJ', hb⟩) (fun q hq => by
    simp only [List.mem_cons, List.not_mem_nil, or_false] at hq
    subst hq
    · exact zv39 hg0) (fun _ h => absurd h List.not_mem_nil) hk
  obtain ⟨v, hF, hJ1, h⟩ := h
  rw [hF]
  exact ⟨hk1, hJ1, h⟩
theorem q11_1 {m : zM} {B : Int} (g0 : Nat) (a1 : Int) (hk : z_mok lL m) (hJ : JB B m) (hB : B + 0 ≤ 1000000000) (hg0 : g0 < 3) (ha1 : 0 ≤ a1 ∧ a1 ≤ 0) : z_mok lL (f11_1 g0 a1 m) ∧ J (zQ [2] [g0]) m (B) (f11_1 g0 a1 m) := by
  obtain ⟨_, r, m1, _, h2, hk1, h⟩ := c11_1 (s := (0, fun _ => 0)) (S := zQ [2] [g0]) (m0 := m) (B := B) (d := 13) (Q := fun r m' => f11_1 g0 a1 m = m' ∧ J (zQ [2] [g0]) m (B) m') g0 a1 (Nat.le_refl _) hJ.j hB ha1 (zQ_n rfl) (zQ_g (by simp)) (fun m' hF hJ' => ⟨hF, hJ'⟩) (fun q hq => by
    simp only [List.mem_cons, List.not_mem_nil, or_false] at hq
    rcases hq with rfl | rfl
    · exact zv22 hg0
    · exact (show -9223372036854775808 ≤ a1 ∧ a1 ≤ 9223372036854775807 by omega)) (fun _ h => absurd h List.not_mem_nil) hk
  obtain ⟨hF, hJ1⟩ := h
  rw [hF]
  exact ⟨hk1, hJ1⟩
theorem q18_1 {m : zM} {B : Int} (g0 : Nat) (a1 a2 : Int) (hk : z_mok lL m) (hJ : JB B m) (hB : B + 0 ≤ 1000000000) (hg0 : g0 < 3) (ha1 : (-2147483648) ≤ a1 ∧ a1 ≤ 2147483647) (ha2 : (-2147483648) ≤ a2 ∧ a2 ≤ 2147483647) : z_mok lL (f18_1 g0 a1 a2 m).2 ∧ J (zQ [2] [g0]) m (B) (f18_1 g0 a1 a2 m).2 ∧ (0 ≤ (f18_1 g0 a1 a2 m).1 ∧ (f18_1 g0 a1 a2 m).1 ≤ 1) := by
  obtain ⟨_, r, m1, _, h2, hk1, h⟩ := c18_1 (s := (0, fun _ => 0)) (S := zQ [2] [g0]) (m0 := m) (B := B) (d := 14) (Q := fun r m' => ∃ v, f18_1 g0 a1 a2 m = (v, m') ∧ J (zQ [2] [g0]) m (B) m' ∧ (0 ≤ v ∧ v ≤ 1)) g0 a1 a2 (Nat.le_refl _) hJ.j hB ha1 ha2 (zQ_n rfl) (zQ_g (by simp)) (fun v m' hb hF hJ' => ⟨v, hF, hJ', hb⟩) (fun q hq => by
    simp only [List.mem_cons, List.not_mem_nil, or_false] at hq
    rcases hq with rfl | rfl | rfl
    · exact zv19 hg0
    · exact (show -2147483648 ≤ a1 ∧ a1 ≤ 2147483647 by omega)
    · exact (show -2147483648 ≤ a2 ∧ a2 ≤ 2147483647 by omega)) (fun _ h => absurd h List.not_mem_nil) hk
  obtain ⟨v, hF, hJ1, h⟩ := h
  rw [hF]
  exact ⟨hk1, hJ1, h⟩
theorem q16_1 {m : zM} {B : Int} (a1 a2 : Int) (hk : z_mok lL m) (hJ : JB B m) (hB : B + 0 ≤ 1000000000) (ha1 : (-2147483648) ≤ a1 ∧ a1 ≤ 2147483647) (ha2 : (-2147483648) ≤ a2 ∧ a2 ≤ 2147483647) : z_mok lL (f16_1 a1 a2 m).2 ∧ J (zQ [2, 4] [0]) m (B) (f16_1 a1 a2 m).2 ∧ (0 ≤ (f16_1 a1 a2 m).1 ∧ (f16_1 a1 a2 m).1 ≤ 1) := by
  obtain ⟨_, r, m1, _, h2, hk1, h⟩ := c16_1 (s := (0, fun _ => 0)) (S := zQ [2, 4] [0]) (m0 := m) (B := B) (d := 15) (Q := fun r m' => ∃ v, f16_1 a1 a2 m = (v, m') ∧ J (zQ [2, 4] [0]) m (B) m' ∧ (0 ≤ v ∧ v ≤ 1)) a1 a2 (Nat.le_refl _) hJ.j hB ha1 ha2 (zQ_n rfl) (zQ_n rfl) (zQ_g (by simp)) (fun v m' hb hF hJ' => ⟨v, hF, hJ', hb⟩) (fun q hq => by
    simp only [List.mem_cons, List.not_mem_nil, or_false] at hq
    rcases hq with rfl | rfl | rfl
    · exact zv40
    · exact (show -2147483648 ≤ a1 ∧ a1 ≤ 2147483647 by omega)
    · exact (show -2147483648 ≤ a2 ∧ a2 ≤ 2147483647 by omega)) (fun _ h => absurd h List.not_mem_nil) hk
  obtain ⟨v, hF, hJ1, h⟩ := h
  rw [hF]
  exact ⟨hk1, hJ1, h⟩
theorem q203_1 {m : zM} {B : Int} (hk : z_mok lL m) (hJ : JB B m) (hB : B + 0 ≤ 1000000000) : z_mok lL (f203_1 m).2 ∧ J (zQ [24] [4]) m (B) (f203_1 m).2 ∧ (0 ≤ (f203_1 m).1 ∧ (f203_1 m).1 ≤ 1) := by
  obtain ⟨_, r, m1, _, h2, hk1, h⟩ := c203_1 (s := (0, fun _ => 0)) (S := zQ [24] [4]) (m0 := m) (B := B) (d := 13) (Q := fun r m' => ∃ v, f203_1 m = (v, m') ∧ J (zQ [24] [4]) m (B) m' ∧ (0 ≤ v ∧ v ≤ 1))  (Nat.le_refl _) hJ.j hB (zQ_n rfl) (zQ_g (by simp)) (fun v m' hb hF hJ' => ⟨v, hF, hJ', hb⟩) (fun q hq => by
    simp only [List.mem_cons, List.not_mem_nil, or_false] at hq
    subst hq
    · exact zv44) (fun _ h => absurd h List.not_mem_nil) hk
  obtain ⟨v, hF, hJ1, h⟩ := h
  rw [hF]
  exact ⟨hk1, hJ1, h⟩
theorem q202_1 {m : zM} {B : Int} (a1 a2 : Int) (hk : z_mok lL m) (hJ : JB B m) (hB : B + 0 ≤ 1000000000) (ha1 : (-2147483648) ≤ a1 ∧ a1 ≤ 2147483647) (ha2 : (-2147483648) ≤ a2 ∧ a2 ≤ 2147483647) : z_mok lL (f202_1 a1 a2 m).2 ∧ J (zQ [22, 24] [4]) m (B) (f202_1 a1 a2 m).2 ∧ (0 ≤ (f202_1 a1 a2 m).1 ∧ (f202_1 a1 a2 m).1 ≤ 1) := by
  obtain ⟨_, r, m1, _, h2, hk1, h⟩ := c202_1 (s := (0, fun _ => 0)) (S := zQ [22, 24] [4]) (m0 := m) (B := B) (d := 14) (Q := fun r m' => ∃ v, f202_1 a1 a2 m = (v, m') ∧ J (zQ [22, 24] [4]) m (B) m' ∧ (0 ≤ v ∧ v ≤ 1)) a1 a2 (Nat.le_refl _) hJ.j hB ha1 ha2 (zQ_n rfl) (zQ_n rfl) (zQ_g (by simp)) (fun v m' hb hF hJ' => ⟨v, hF, hJ', hb⟩) (fun q hq => by
    simp only [List.mem_cons, List.not_mem_nil, or_false] at hq
    rcases hq with rfl | rfl | rfl
    · exact zv44
    · exact (show -2147483648 ≤ a1 ∧ a1 ≤ 2147483647 by omega)
    · exact (show -2147483648 ≤ a2 ∧ a2 ≤ 2147483647 by omega)) (fun _ h => absurd h List.not_mem_nil) hk
  obtain ⟨v, hF, hJ1, h⟩ := h
  rw [hF]
  exact ⟨hk1, hJ1, h⟩
theorem q22_1 {m : zM} {B : Int} (g0 : Nat) (a1 a2 a3 : Int) (hk : z_mok lL m) (hJ : JB B m) (hB : B + 0 ≤ 1000000000) (hg0 : g0 < 3) (ha1 : 0 ≤ a1 ∧ a1 ≤ 0) (ha2 : 0 ≤ a2 ∧ a2 ≤ 2) (ha3 : (-250000) ≤ a3 ∧ a3 ≤ 250000) : z_mok lL (f22_1 g0 a1 a2 a3 m) ∧ J (zQ [2] [g0]) m (B) (f22_1 g0 a1 a2 a3 m) := by
  obtain ⟨_, r, m1, _, h2, hk1, h⟩ := c22_1 (s := (0, fun _ => 0)) (S := zQ [2] [g0]) (m0 := m) (B := B) (d := 13) (Q := fun r m' => f22_1 g0 a1 a2 a3 m = m' ∧ J (zQ [2] [g0]) m (B) m') g0 a1 a2 a3 (Nat.le_refl _) hJ.j hB ha1 ha2 ha3 (zQ_n rfl) (zQ_g (by simp)) (fun m' hF hJ' => ⟨hF, hJ'⟩) (fun q hq => by
    simp only [List.mem_cons, List.not_mem_nil, or_false] at hq
    rcases hq with rfl | rfl | rfl | rfl
    · exact zv19 hg0
    · exact (show -2147483648 ≤ a1 ∧ a1 ≤ 2147483647 by omega)
    · exact (show -2147483648 ≤ a2 ∧ a2 ≤ 2147483647 by omega)
    · exact (show -2147483648 ≤ a3 ∧ a3 ≤ 2147483647 by omega)) (fun _ h => absurd h List.not_mem_nil) hk
  obtain ⟨hF, hJ1⟩ := h
  rw [hF]
  exact ⟨hk1, hJ1⟩
theorem q22_2 {m : zM} {B : Int} (g0 : Nat) (a1 a2 a3 : Int) (hk : z_mok lL m) (hJ : JB B m) (hB : B + 0 ≤ 1000000000) (hg0 : g0 < 3) (ha1 : 1 ≤ a1 ∧ a1 ≤ 1) (ha2 : 0 ≤ a2 ∧ a2 ≤ 2) (ha3 : (-250000) ≤ a3 ∧ a3 ≤ 250000) : z_mok lL (f22_1 g0 a1 a2 a3 m) ∧ J (zQ [2] [g0]) m (B) (f22_1 g0 a1 a2 a3 m) := by
  obtain ⟨_, r, m1, _, h2, hk1, h⟩ := c22_2 (s := (0, fun _ => 0)) (S := zQ [2] [g0]) (m0 := m) (B := B) (d := 13) (Q := fun r m' => f22_1 g0 a1 a2 a3 m = m' ∧ J (zQ [2] [g0]) m (B) m') g0 a1 a2 a3 (Nat.le_refl _) hJ.j hB ha1 ha2 ha3 (zQ_n rfl) (zQ_g (by simp)) (fun m' hF hJ' => ⟨hF, hJ'⟩) (fun q hq => by
    simp only [List.mem_cons, List.not_mem_nil, or_false] at hq
    rcases hq with rfl | rfl | rfl | rfl
    · exact zv19 hg0
    · exact (show -2147483648 ≤ a1 ∧ a1 ≤ 2147483647 by omega)
    · exact (show -2147483648 ≤ a2 ∧ a2 ≤ 2147483647 by omega)
    · exact (show -2147483648 ≤ a3 ∧ a3 ≤ 2147483647 by omega)) (fun _ h => absurd h List.not_mem_nil) hk
  obtain ⟨hF, hJ1⟩ := h
  rw [hF]
  exact ⟨hk1, hJ1⟩
theorem q22_3 {m : zM} {B : Int} (g0 : Nat) (a1 a2 a3 : Int) (hk : z_mok lL m) (hJ : JB B m) (hB : B + 0 ≤ 1000000000) (hg0 : g0 < 3) (ha1 : 2 ≤ a1 ∧ a1 ≤ 2) (ha2 : 0 ≤ a2 ∧ a2 ≤ 2) (ha3 : 0 ≤ a3 ∧ a3 ≤ 250000) : z_mok lL (f22_1 g0 a1 a2 a3 m) ∧ J (zQ [2] [g0]) m (B) (f22_1 g0 a1 a2 a3 m) := by
  obtain ⟨_, r, m1, _, h2, hk1, h⟩ := c22_3 (s := (0, fun _ => 0)) (S := zQ [2] [g0]) (m0 := m) (B := B) (d := 13) (Q := fun r m' => f22_1 g0 a1 a2 a3 m = m' ∧ J (zQ [2] [g0]) m (B) m') g0 a1 a2 a3 (Nat.le_refl _) hJ.j hB ha1 ha2 ha3 (zQ_n rfl) (zQ_g (by simp)) (fun m' hF hJ' => ⟨hF, hJ'⟩) (fun q hq => by
    simp only [List.mem_cons, List.not_mem_nil, or_false] at hq
    rcases hq with rfl | rfl | rfl | rfl
    · exact zv19 hg0
    · exact (show -2147483648 ≤ a1 ∧ a1 ≤ 2147483647 by omega)
    · exact (show -2147483648 ≤ a2 ∧ a2 ≤ 2147483647 by omega)
    · exact (show -2147483648 ≤ a3 ∧ a3 ≤ 2147483647 by omega)) (fun _ h => absurd h List.not_mem_nil) hk
  obtain ⟨hF, hJ1⟩ := h
  rw [hF]
  exact ⟨hk1, hJ1⟩
theorem q22_4 {m : zM} {B : Int} (g0 : Nat) (a1 a2 a3 : Int) (hk : z_mok lL m) (hJ : JB B m) (hB : B + 0 ≤ 1000000000) (hg0 : g0 < 3) (ha1 : 3 ≤ a1 ∧ a1 ≤ 3) (ha2 : 0 ≤ a2 ∧ a2 ≤ 2) (ha3 : 0 ≤ a3 ∧ a3 ≤ 250000) : z_mok lL (f22_1 g0 a1 a2 a3 m) ∧ J (zQ [2] [g0]) m (B) (f22_1 g0 a1 a2 a3 m) := by
  obtain ⟨_, r, m1, _, h2, hk1, h⟩ := c22_4 (s := (0, fun _ => 0)) (S := zQ [2] [g0]) (m0 := m) (B := B) (d := 13) (Q := fun r m' => f22_1 g0 a1 a2 a3 m = m' ∧ J (zQ [2] [g0]) m (B) m') g0 a1 a2 a3 (Nat.le_refl _) hJ.j hB ha1 ha2 ha3 (zQ_n rfl) (zQ_g (by simp)) (fun m' hF hJ' => ⟨hF, hJ'⟩) (fun q hq => by
    simp only [List.mem_cons, List.not_mem_nil, or_false] at hq
    rcases hq with rfl | rfl | rfl | rfl
    · exact zv19 hg0
    · exact (show -2147483648 ≤ a1 ∧ a1 ≤ 2147483647 by omega)
    · exact (show -2147483648 ≤ a2 ∧ a2 ≤ 2147483647 by omega)
    · exact (show -2147483648 ≤ a3 ∧ a3 ≤ 2147483647 by omega)) (fun _ h => absurd h List.not_mem_nil) hk
  obtain ⟨hF, hJ1⟩ := h
  rw [hF]
  exact ⟨hk1, hJ1⟩
theorem q24_1 {m : zM} {B : Int} (a0 : Int) (hk : z_mok lL m) (hJ : JB B m) (hB : B + 0 ≤ 1000000000) (ha0 : -9223372036854775808 ≤ a0 ∧ a0 ≤ 9223372036854775807) : (-9223372036854775808 ≤ (f24_1 a0 m) ∧ (f24_1 a0 m) ≤ 9223372036854775807) := by
  obtain ⟨_, r, m1, _, h2, hk1, h⟩ := c24_1 (s := (0, fun _ => 0)) (S := zQ [] []) (m0 := m) (B := B) (d := 13) (Q := fun r m' => ∃ v, r = some (zl v) ∧ f24_1 a0 m = v ∧ (True)) a0 (Nat.le_refl _) hJ.j hB  (fun v hb hF => ⟨v, rfl, hF, hb⟩) (fun q hq => by
    simp only [List.mem_cons, List.not_mem_nil, or_false] at hq
    subst hq
    · exact (show -9223372036854775808 ≤ a0 ∧ a0 ≤ 9223372036854775807 by omega)) (fun _ h => absurd h List.not_mem_nil) hk
  obtain ⟨v, hr, hF, h⟩ := h
  rw [hF]
  exact h2 _ hr
theorem q23_1 {m : zM} {B : Int} (g0 : Nat) (a1 : Int) (hk : z_mok lL m) (hJ : JB B m) (hB : B + 0 ≤ 1000000000) (hg0 : g0 < 3) (ha1 : 3 ≤ a1 ∧ a1 ≤ 3) : (-9223372036854775808 ≤ (f23_1 g0 a1 m) ∧ (f23_1 g0 a1 m) ≤ 9223372036854775807) := by
  obtain ⟨_, r, m1, _, h2, hk1, h⟩ := c23_1 (s := (0, fun _ => 0)) (S := zQ [] []) (m0 := m) (B := B) (d := 14) (Q := fun r m' => ∃ v, r = some (zl v) ∧ f23_1 g0 a1 m = v ∧ (True)) g0 a1 (Nat.le_refl _) hJ.j hB ha1 (fun v hb hF => ⟨v, rfl, hF, hb⟩) (fun q hq => by
    simp only [List.mem_cons, List.not_mem_nil, or_false] at hq
    rcases hq with rfl | rfl
    · exact zv19 hg0
    · exact (show -2147483648 ≤ a1 ∧ a1 ≤ 2147483647 by omega)) (fun _ h => absurd h List.not_mem_nil) hk
  obtain ⟨v, hr, hF, h⟩ := h
  rw [hF]
  exact h2 _ hr
theorem q23_2 {m : zM} {B : Int} (g0 : Nat) (a1 : Int) (hk : z_mok lL m) (hJ : JB B m) (hB : B + 0 ≤ 1000000000) (hg0 : g0 < 3) (ha1 : 0 ≤ a1 ∧ a1 ≤ 3) : (-9223372036854775808 ≤ (f23_1 g0 a1 m) ∧ (f23_1 g0 a1 m) ≤ 9223372036854775807) := by
  obtain ⟨_, r, m1, _, h2, hk1, h⟩ := c23_2 (s := (0, fun _ => 0)) (S := zQ [] []) (m0 := m) (B := B) (d := 14) (Q := fun r m' => ∃ v, r = some (zl v) ∧ f23_1 g0 a1 m = v ∧ (True)) g0 a1 (Nat.le_refl _) hJ.j hB ha1 (fun v hb hF => ⟨v, rfl, hF, hb⟩) (fun q hq => by
    simp only [List.mem_cons, List.not_mem_nil, or_false] at hq
    rcases hq with rfl | rfl
    · exact zv19 hg0
    · exact (show -2147483648 ≤ a1 ∧ a1 ≤ 2147483647 by omega)) (fun _ h => absurd h List.not_mem_nil) hk
  obtain ⟨v, hr, hF, h⟩ := h
  rw [hF]
  exact h2 _ hr
theorem q21_1 {m : zM} {B : Int} (g0 : Nat) (hk : z_mok lL m) (hJ : JB B m) (hB : B + 0 ≤ 1000000000) (hg0 : g0 < 3) : z_mok lL (f21_1 g0 m) ∧ J (zQ [2] [g0]) m (B) (f21_1 g0 m) := by
  obtain ⟨_, r, m1, _, h2, hk1, h⟩ := c21_1 (s := (0, fun _ => 0)) (S := zQ [2] [g0]) (m0 := m) (B := B) (d := 15) (Q := fun r m' => f21_1 g0 m = m' ∧ J (zQ [2] [g0]) m (B) m') g0 (Nat.le_refl _) hJ.j hB (zQ_n rfl) (zQ_g (by simp)) (fun m' hF hJ' => ⟨hF, hJ'⟩) (fun q hq => by
    simp only [List.mem_cons, List.not_mem_nil, or_false] at hq
    subst hq
    · exact zv19 hg0) (fun _ h => absurd h List.not_mem_nil) hk
  obtain ⟨hF, hJ1⟩ := h
  rw [hF]
  exact ⟨hk1, hJ1⟩
theorem q20_1 {m : zM} {B : Int} (g0 : Nat) (a1 a2 : Int) (hk : z_mok lL m) (hJ : JB B m) (hB : B + 0 ≤ 1000000000) (hg0 : g0 < 3) (ha1 : (-500) ≤ a1 ∧ a1 ≤ 500) (ha2 : (-500) ≤ a2 ∧ a2 ≤ 500) : z_mok lL (f20_1 g0 a1 a2 m).2 ∧ J (zQ [2] [g0]) m (B) (f20_1 g0 a1 a2 m).2 ∧ (0 ≤ (f20_1 g0 a1 a2 m).1 ∧ (f20_1 g0 a1 a2 m).1 ≤ 1) := by
  obtain ⟨_, r, m1, _, h2, hk1, h⟩ := c20_1 (s := (0, fun _ => 0)) (S := zQ [2] [g0]) (m0 := m) (B := B) (d := 16) (Q := fun r m' => ∃ v, f20_1 g0 a1 a2 m = (v, m') ∧ J (zQ [2] [g0]) m (B) m' ∧ (0 ≤ v ∧ v ≤ 1)) g0 a1 a2 (Nat.le_refl _) hJ.j hB ha1 ha2 (zQ_n rfl) (zQ_g (by simp)) (fun v m' hb hF hJ' => ⟨v, hF, hJ', hb⟩) (fun q hq => by
    simp only [List.mem_cons, List.not_mem_nil, or_false] at hq
    rcases hq with rfl | rfl | rfl
    · exact zv19 hg0
    · exact (show -2147483648 ≤ a1 ∧ a1 ≤ 2147483647 by omega)
    · exact (show -2147483648 ≤ a2 ∧ a2 ≤ 2147483647 by omega)) (fun _ h => absurd h List.not_mem_nil) hk
  obtain ⟨v, hF, hJ1, h⟩ := h
  rw [hF]
  exact ⟨hk1, hJ1, h⟩
theorem q29_1 {m : zM} {B : Int} (g0 : Nat) (a1 : Int) (hk : z_mok lL m) (hJ : JB B m) (hB : B + 0 ≤ 1000000000) (hg0 : g0 < 4) (ha1 : 0 ≤ a1 ∧ a1 ≤ 364) : ((-1) ≤ (f29_1 g0 a1 m) ∧ (f29_1 g0 a1 m) ≤ 15) ∧ ((f29_1 g0 a1 m) < m g0 11 7) := by
  obtain ⟨_, r, m1, _, h2, hk1, h⟩ := c29_1 (s := (0, fun _ => 0)) (S := zQ [] []) (m0 := m) (B := B) (d := 13) (Q := fun r m' => ∃ v, r = some (zi v) ∧ f29_1 g0 a1 m = v ∧ ((-1) ≤ v ∧ v ≤ 15) ∧ (v < m g0 11 7)) g0 a1 (Nat.le_refl _) hJ.j hB ha1 (fun v hb hF p0 => ⟨v, rfl, hF, hb, p0⟩) (fun q hq => by
    simp only [List.mem_cons, List.not_mem_nil, or_false] at hq
    rcases hq with rfl | rfl
    · exact zv11 hg0
    · exact (show -2147483648 ≤ a1 ∧ a1 ≤ 2147483647 by omega)) (fun _ h => absurd h List.not_mem_nil) hk
  obtain ⟨v, hr, hF, h⟩ := h
  rw [hF]
  exact h
theorem q30_1 {m : zM} {B : Int} (g0 : Nat) (a1 : Int) (hk : z_mok lL m) (hJ : JB B m) (hB : B + 0 ≤ 1000000000) (hg0 : g0 < 4) (ha1 : 0 ≤ a1 ∧ a1 ≤ 364) : (0 ≤ (f30_1 g0 a1 m) ∧ (f30_1 g0 a1 m) ≤ 3) := by
  obtain ⟨_, r, m1, _, h2, hk1, h⟩ := c30_1 (s := (0, fun _ => 0)) (S := zQ [] []) (m0 := m) (B := B) (d := 13) (Q := fun r m' => ∃ v, r = some (zi v) ∧ f30_1 g0 a1 m = v ∧ (0 ≤ v ∧ v ≤ 3)) g0 a1 (Nat.le_refl _) hJ.j hB ha1 (fun v hb hF => ⟨v, rfl, hF, hb⟩) (fun q hq => by
    simp only [List.mem_cons, List.not_mem_nil, or_false] at hq
    rcases hq with rfl | rfl
    · exact zv11 hg0
    · exact (show -2147483648 ≤ a1 ∧ a1 ≤ 2147483647 by omega)) (fun _ h => absurd h List.not_mem_nil) hk
  obtain ⟨v, hr, hF, h⟩ := h
  rw [hF]
  exact h
theorem q28_1 {m : zM} {B : Int} (g0 : Nat) (a1 : Int) (hk : z_mok lL m) (hJ : JB B m) (hB : B + 0 ≤ 1000000000) (hg0 : g0 < 4) (ha1 : 0 ≤ a1 ∧ a1 ≤ 23150) : (0 ≤ (f28_1 g0 a1 m) ∧ (f28_1 g0 a1 m) ≤ 7) := by
  obtain ⟨_, r, m1, _, h2, hk1, h⟩ := c28_1 (s := (0, fun _ => 0)) (S := zQ [] []) (m0 := m) (B := B) (d := 14) (Q := fun r m' => ∃ v, r = some (zi v) ∧ f28_1 g0 a1 m = v ∧ (0 ≤ v ∧ v ≤ 7)) g0 a1 (Nat.le_refl _) hJ.j hB ha1 (fun v hb hF => ⟨v, rfl, hF, hb⟩) (fun q hq => by
    simp only [List.mem_cons, List.not_mem_nil, or_false] at hq
    rcases hq with rfl | rfl
    · exact zv11 hg0
    · exact (show -2147483648 ≤ a1 ∧ a1 ≤ 2147483647 by omega)) (fun _ h => absurd h List.not_mem_nil) hk
  obtain ⟨v, hr, hF, h⟩ := h
  rw [hF]
  exact h
theorem q32_1 {m : zM} {B : Int} (g0 : Nat) (a1 a2 : Int) (hk : z_mok lL m) (hJ : JB B m) (hB : B + 0 ≤ 1000000000) (hg0 : g0 < 4) (ha1 : 0 ≤ a1 ∧ a1 ≤ 7) (ha2 : (-2147483648) ≤ a2 ∧ a2 ≤ 2147483647) : (0 ≤ (f32_1 g0 a1 a2 m) ∧ (f32_1 g0 a1 a2 m) ≤ 6) ∧ ((f32_1 g0 a1 a2 m) ≤ m g0 12 a1) ∧ ((f32_1 g0 a1 a2 m) < m g0 12 a1 → a2 ≤ m g0 13 (a1 * 6 + (f32_1 g0 a1 a2 m))) := by
  obtain ⟨_, r, m1, _, h2, hk1, h⟩ := c32_1 (s := (0, fun _ => 0)) (S := zQ [] []) (m0 := m) (B := B) (d := 13) (Q := fun r m' => ∃ v, r = some (zi v) ∧ f32_1 g0 a1 a2 m = v ∧ (0 ≤ v ∧ v ≤ 6) ∧ (v ≤ m g0 12 a1) ∧ (v < m g0 12 a1 → a2 ≤ m g0 13 (a1 * 6 + v))) g0 a1 a2 (Nat.le_refl _) hJ.j hB ha1 ha2 (fun v hb hF p0 p1 => ⟨v, rfl, hF, hb, p0, p1⟩) (fun q hq => by
    simp only [List.mem_cons, List.not_mem_nil, or_false] at hq
    rcases hq with rfl | rfl | rfl
    · exact zv11 hg0
    · exact (show -2147483648 ≤ a1 ∧ a1 ≤ 2147483647 by omega)
    · exact (show -2147483648 ≤ a2 ∧ a2 ≤ 2147483647 by omega)) (fun _ h => absurd h List.not_mem_nil) hk
  obtain ⟨v, hr, hF, h⟩ := h
  rw [hF]
  exact h
theorem q31_1 {m : zM} {B : Int} (g0 : Nat) (a1 a2 : Int) (hk : z_mok lL m) (hJ : JB B m) (hB : B + 0 ≤ 1000000000) (hg0 : g0 < 4) (ha1 : 0 ≤ a1 ∧ a1 ≤ 7) (ha2 : 0 ≤ a2 ∧ a2 ≤ 86399) : (0 ≤ (f31_1 g0 a1 a2 m) ∧ (f31_1 g0 a1 a2 m) ≤ 3) := by
  obtain ⟨_, r, m1, _, h2, hk1, h⟩ := c31_1 (s := (0, fun _ => 0)) (S := zQ [] []) (m0 := m) (B := B) (d := 14) (Q := fun r m' => ∃ v, r = some (zi v) ∧ f31_1 g0 a1 a2 m = v ∧ (0 ≤ v ∧ v ≤ 3)) g0 a1 a2 (Nat.le_refl _) hJ.j hB ha1 ha2 (fun v hb hF => ⟨v, rfl, hF, hb⟩) (fun q hq => by
    simp only [List.mem_cons, List.not_mem_nil, or_false] at hq
    rcases hq with rfl | rfl | rfl
    · exact zv11 hg0
    · exact (show -2147483648 ≤ a1 ∧ a1 ≤ 2147483647 by omega)
    · exact (show -2147483648 ≤ a2 ∧ a2 ≤ 2147483647 by omega)) (fun _ h => absurd h List.not_mem_nil) hk
  obtain ⟨v, hr, hF, h⟩ := h
  rw [hF]
  exact h
theorem q27_1 {m : zM} {B : Int} (g0 : Nat) (a1 : Int) (hk : z_mok lL m) (hJ : JB B m) (hB : B + 0 ≤ 1000000000) (hg0 : g0 < 4) (ha1 : 0 ≤ a1 ∧ a1 ≤ 2000185600) : (0 ≤ (f27_1 g0 a1 m) ∧ (f27_1 g0 a1 m) ≤ 3) := by
  obtain ⟨_, r, m1, _, h2, hk1, h⟩ := c27_1 (s := (0, fun _ => 0)) (S := zQ [] []) (m0 := m) (B := B) (d := 15) (Q := fun r m' => ∃ v, r = some (zi v) ∧ f27_1 g0 a1 m = v ∧ (0 ≤ v ∧ v ≤ 3)) g0 a1 (Nat.le_refl _) hJ.j hB ha1 (fun v hb hF => ⟨v, rfl, hF, hb⟩) (fun q hq => by
    simp only [List.mem_cons, List.not_mem_nil, or_false] at hq
    rcases hq with rfl | rfl
    · exact zv11 hg0
    · exact (show -2147483648 ≤ a1 ∧ a1 ≤ 2147483647 by omega)) (fun _ h => absurd h List.not_mem_nil) hk
  obtain ⟨v, hr, hF, h⟩ := h
  rw [hF]
  exact h
theorem q27_2 {m : zM} {B : Int} (g0 : Nat) (a1 : Int) (hk : z_mok lL m) (hJ : JB B m) (hB : B + 0 ≤ 1000000000) (hg0 : g0 < 4) (ha1 : 0 ≤ a1 ∧ a1 ≤ 2000185600) : (0 ≤ (f27_1 g0 a1 m) ∧ (f27_1 g0 a1 m) ≤ 3) := by
  obtain ⟨_, r, m1, _, h2, hk1, h⟩ := c27_2 (s := (0, fun _ => 0)) (S := zQ [] []) (m0 := m) (B := B) (d := 15) (Q := fun r m' => ∃ v, r = some (zi v) ∧ f27_1 g0 a1 m = v ∧ (0 ≤ v ∧ v ≤ 3)) g0 a1 (Nat.le_refl _) hJ.j hB ha1 (fun v hb hF => ⟨v, rfl, hF, hb⟩) (fun q hq => by
    simp only [List.mem_cons, List.not_mem_nil, or_false] at hq
    rcases hq with rfl | rfl
    · exact zv11 hg0
    · exact (show -2147483648 ≤ a1 ∧ a1 ≤ 2147483647 by omega)) (fun _ h => absurd h List.not_mem_nil) hk
  obtain ⟨v, hr, hF, h⟩ := h
  rw [hF]
  exact h
theorem q27_3 {m : zM} {B : Int} (g0 : Nat) (a1 : Int) (hk : z_mok lL m) (hJ : JB B m) (hB : B + 0 ≤ 1000000000) (hg0 : g0 < 4) (ha1 : 0 ≤ a1 ∧ a1 ≤ 2000185600) : (0 ≤ (f27_1 g0 a1 m) ∧ (f27_1 g0 a1 m) ≤ 3) := by
  obtain ⟨_, r, m1, _, h2, hk1, h⟩ := c27_3 (s := (0, fun _ => 0)) (S := zQ [] []) (m0 := m) (B := B) (d := 15) (Q := fun r m' => ∃ v, r = some (zi v) ∧ f27_1 g0 a1 m = v ∧ (0 ≤ v ∧ v ≤ 3)) g0 a1 (Nat.le_refl _) hJ.j hB ha1 (fun v hb hF => ⟨v, rfl, hF, hb⟩) (fun q hq => by
    simp only [List.mem_cons, List.not_mem_nil, or_false] at hq
    rcases hq with rfl | rfl
    · exact zv11 hg0
    · exact (show -2147483648 ≤ a1 ∧ a1 ≤ 2147483647 by omega)) (fun _ h => absurd h List.not_mem_nil) hk
  obtain ⟨v, hr, hF, h⟩ := h
  rw [hF]
  exact h
theorem q34_1 {m : zM} {B : Int} (g0 : Nat) (a1 : Int) (hk : z_mok lL m) (hJ : JB B m) (hB : B + 0 ≤ 1000000000) (hg0 : g0 < 3) (ha1 : 0 ≤ a1 ∧ a1 ≤ 1000000) : ((-2147483648) ≤ (f34_1 g0 a1 m) ∧ (f34_1 g0 a1 m) ≤ 2147483647) := by
  obtain ⟨_, r, m1, _, h2, hk1, h⟩ := c34_1 (s := (0, fun _ => 0)) (S := zQ [] []) (m0 := m) (B := B) (d := 13) (Q := fun r m' => ∃ v, r = some (zi v) ∧ f34_1 g0 a1 m = v ∧ ((-2147483648) ≤ v ∧ v ≤ 2147483647)) g0 a1 (Nat.le_refl _) hJ.j hB ha1 (fun v hb hF => ⟨v, rfl, hF, hb⟩) (fun q hq => by
    simp only [List.mem_cons, List.not_mem_nil, or_false] at hq
    rcases hq with rfl | rfl
    · exact zv19 hg0
    · exact (show -2147483648 ≤ a1 ∧ a1 ≤ 2147483647 by omega)) (fun _ h => absurd h List.not_mem_nil) hk
  obtain ⟨v, hr, hF, h⟩ := h
  rw [hF]
  exact h
theorem q37_1 {m : zM} {B : Int} (g0 : Nat) (a1 : Int) (hk : z_mok lL m) (hJ : JB B m) (hB : B + 0 ≤ 1000000000) (hg0 : g0 < 4) (ha1 : 0 ≤ a1 ∧ a1 ≤ 2000185600) : (0 ≤ (f37_1 g0 a1 m) ∧ (f37_1 g0 a1 m) ≤ 2000246400) ∧ (a1 < (f37_1 g0 a1 m)) := by
  obtain ⟨_, r, m1, _, h2, hk1, h⟩ := c37_1 (s := (0, fun _ => 0)) (S := zQ [] []) (m0 := m) (B := B) (d := 15) (Q := fun r m' => ∃ v, r = some (zi v) ∧ f37_1 g0 a1 m = v ∧ (0 ≤ v ∧ v ≤ 2000246400) ∧ (a1 < v)) g0 a1 (Nat.le_refl _) hJ.j hB ha1 (fun v hb hF p0 => ⟨v, rfl, hF, hb, p0⟩) (fun q hq => by
    simp only [List.mem_cons, List.not_mem_nil, or_false] at hq
    rcases hq with rfl | rfl
    · exact zv11 hg0
    · exact (show -2147483648 ≤ a1 ∧ a1 ≤ 2147483647 by omega)) (fun _ h => absurd h List.not_mem_nil) hk
  obtain ⟨v, hr, hF, h⟩ := h
  rw [hF]
  exact h
theorem q40_1 {m : zM} {B : Int} (g0 : Nat) (a1 : Int) (hk : z_mok lL m) (hJ : JB B m) (hB : B + 0 ≤ 1000000000) (hg0 : g0 < 3) (ha1 : 2 ≤ a1 ∧ a1 ≤ 4) : (0 ≤ (f40_1 g0 a1 m) ∧ (f40_1 g0 a1 m) ≤ 1) := by
  obtain ⟨_, r, m1, _, h2, hk1, h⟩ := c40_1 (s := (0, fun _ => 0)) (S := zQ [] []) (m0 := m) (B := B) (d := 13) (Q := fun r m' => ∃ v, r = some (zi v) ∧ f40_1 g0 a1 m = v ∧ (0 ≤ v ∧ v ≤ 1)) g0 a1 (Nat.le_refl _) hJ.j hB ha1 (fun v hb hF => ⟨v, rfl, hF, hb⟩) (fun q hq => by
    simp only [List.mem_cons, List.not_mem_nil, or_false] at hq
    rcases hq with rfl | rfl
    · exact zv33 hg0
    · exact (show -2147483648 ≤ a1 ∧ a1 ≤ 2147483647 by omega)) (fun _ h => absurd h List.not_mem_nil) hk
  obtain ⟨v, hr, hF, h⟩ := h
  rw [hF]
  exact h
theorem q40_2 {m : zM} {B : Int} (g0 : Nat) (a1 : Int) (hk : z_mok lL m) (hJ : JB B m) (hB : B + 0 ≤ 1000000000) (hg0 : g0 < 3) (ha1 : 0 ≤ a1 ∧ a1 ≤ 4) : (0 ≤ (f40_1 g0 a1 m) ∧ (f40_1 g0 a1 m) ≤ 1) := by
  obtain ⟨_, r, m1, _, h2, hk1, h⟩ := c40_2 (s := (0, fun _ => 0)) (S := zQ [] []) (m0 := m) (B := B) (d := 13) (Q := fun r m' => ∃ v, r = some (zi v) ∧ f40_1 g0 a1 m = v ∧ (0 ≤ v ∧ v ≤ 1)) g0 a1 (Nat.le_refl _) hJ.j hB ha1 (fun v hb hF => ⟨v, rfl, hF, hb⟩) (fun q hq => by
    simp only [List.mem_cons, List.not_mem_nil, or_false] at hq
    rcases hq with rfl | rfl
    · exact zv33 hg0
    · exact (show -2147483648 ≤ a1 ∧ a1 ≤ 2147483647 by omega)) (fun _ h => absurd h List.not_mem_nil) hk
  obtain ⟨v, hr, hF, h⟩ := h
  rw [hF]
  exact h
theorem q39_1 {m : zM} {B : Int} (g0 : Nat) (a1 a2 a3 : Int) (hk : z_mok lL m) (hJ : JB B m) (hB : B + 0 ≤ 1000000000) (hg0 : g0 < 3) (ha1 : (-2147483648) ≤ a1 ∧ a1 ≤ 2147483647) (ha2 : 0 ≤ a2 ∧ a2 ≤ 1000000) (ha3 : (-1999999999) ≤ a3 ∧ a3 ≤ 3600) (hp0 : 1 ≤ a3) : ((-1999999999) ≤ (f39_1 g0 a1 a2 a3 m) ∧ (f39_1 g0 a1 a2 a3 m) ≤ 3600) ∧ (1 ≤ (f39_1 g0 a1 a2 a3 m)) ∧ ((f39_1 g0 a1 a2 a3 m) ≤ a3) := by
  obtain ⟨_, r, m1, _, h2, hk1, h⟩ := c39_1 (s := (0, fun _ => 0)) (S := zQ [] []) (m0 := m) (B := B) (d := 14) (Q := fun r m' => ∃ v, r = some (zi v) ∧ f39_1 g0 a1 a2 a3 m = v ∧ ((-1999999999) ≤ v ∧ v ≤ 3600) ∧ (1 ≤ v) ∧ (v ≤ a3)) g0 a1 a2 a3 (Nat.le_refl _) hJ.j hB ha1 ha2 ha3 hp0 (fun v hb hF p0 p1 => ⟨v, rfl, hF, hb, p0, p1⟩) (fun q hq => by
    simp only [List.mem_cons, List.not_mem_nil, or_false] at hq
    rcases hq with rfl | rfl | rfl | rfl
    · exact zv33 hg0
    · exact (show -2147483648 ≤ a1 ∧ a1 ≤ 2147483647 by omega)
    · exact (show -2147483648 ≤ a2 ∧ a2 ≤ 2147483647 by omega)
    · exact (show -2147483648 ≤ a3 ∧ a3 ≤ 2147483647 by omega)) (fun _ h => absurd h List.not_mem_nil) hk
  obtain ⟨v, hr, hF, h⟩ := h
  rw [hF]
  exact h
theorem q44_1 {m : zM} {B : Int} (g0 : Nat) (hk : z_mok lL m) (hJ : JB B m) (hB : B + 0 ≤ 1000000000) (hg0 : g0 < 3) : (0 ≤ (f44_1 g0 m) ∧ (f44_1 g0 m) ≤ 1) := by
  obtain ⟨_, r, m1, _, h2, hk1, h⟩ := c44_1 (s := (0, fun _ => 0)) (S := zQ [] []) (m0 := m) (B := B) (d := 13) (Q := fun r m' => ∃ v, r = some (zi v) ∧ f44_1 g0 m = v ∧ (0 ≤ v ∧ v ≤ 1)) g0 (Nat.le_refl _) hJ.j hB  (fun v hb hF => ⟨v, rfl, hF, hb⟩) (fun q hq => by
    simp only [List.mem_cons, List.not_mem_nil, or_false] at hq
    subst hq
    · exact zv8 hg0) (fun _ h => absurd h List.not_mem_nil) hk
  obtain ⟨v, hr, hF, h⟩ := h
  rw [hF]
  exact h
theorem q41_1 {m : zM} {B : Int} (g0 : Nat) (a1 a2 : Int) (hk : z_mok lL m) (hJ : JB B m) (hB : B + 0 ≤ 1000000000) (hg0 : g0 < 3) (ha1 : 0 ≤ a1 ∧ a1 ≤ 3) (ha2 : 1 ≤ a2 ∧ a2 ≤ 3600) (hp0 : 1 ≤ a2) : (1 ≤ (f41_1 g0 a1 a2 m) ∧ (f41_1 g0 a1 a2 m) ≤ 3600) ∧ (1 ≤ (f41_1 g0 a1 a2 m)) ∧ ((f41_1 g0 a1 a2 m) ≤ a2) := by
  obtain ⟨_, r, m1, _, h2, hk1, h⟩ := c41_1 (s := (0, fun _ => 0)) (S := zQ [] []) (m0 := m) (B := B) (d := 14) (Q := fun r m' => ∃ v, r = some (zi v) ∧ f41_1 g0 a1 a2 m = v ∧ (1 ≤ v ∧ v ≤ 3600) ∧ (1 ≤ v) ∧ (v ≤ a2)) g0 a1 a2 (Nat.le_refl _) hJ.j hB ha1 ha2 hp0 (fun v hb hF p0 p1 => ⟨v, rfl, hF, hb, p0, p1⟩) (fun q hq => by
    simp only [List.mem_cons, List.not_mem_nil, or_false] at hq
    rcases hq with rfl | rfl | rfl
    · exact zv8 hg0
    · exact (show -2147483648 ≤ a1 ∧ a1 ≤ 2147483647 by omega)
    · exact (show -2147483648 ≤ a2 ∧ a2 ≤ 2147483647 by omega)) (fun _ h => absurd h List.not_mem_nil) hk
  obtain ⟨v, hr, hF, h⟩ := h
  rw [hF]
  exact h
theorem q35_1 {m : zM} {B : Int} (g0 : Nat) (a1 a2 a3 : Int) (hk : z_mok lL m) (hJ : JB B m) (hB : B + 0 ≤ 1000000000) (hg0 : g0 < 3) (ha1 : 1 ≤ a1 ∧ a1 ≤ 3600) (ha2 : 0 ≤ a2 ∧ a2 ≤ 3) (ha3 : (-2147483648) ≤ a3 ∧ a3 ≤ 2147483647) (hp0 : 1 ≤ a1) : (1 ≤ (f35_1 g0 a1 a2 a3 m) ∧ (f35_1 g0 a1 a2 a3 m) ≤ 3600) ∧ (1 ≤ (f35_1 g0 a1 a2 a3 m)) ∧ ((f35_1 g0 a1 a2 a3 m) + m g0 8 9 ≤ 2000000001) ∧ ((f35_1 g0 a1 a2 a3 m) ≤ a1) := by
  obtain ⟨_, r, m1, _, h2, hk1, h⟩ := c35_1 (s := (0, fun _ => 0)) (S := zQ [] []) (m0 := m) (B := B) (d := 16) (Q := fun r m' => ∃ v, r = some (zi v) ∧ f35_1 g0 a1 a2 a3 m = v ∧ (1 ≤ v ∧ v ≤ 3600) ∧ (1 ≤ v) ∧ (v + m g0 8 9 ≤ 2000000001) ∧ (v ≤ a1)) g0 a1 a2 a3 (Nat.le_refl _) hJ.j hB ha1 ha2 ha3 hp0 (fun v hb hF p0 p1 p2 => ⟨v, rfl, hF, hb, p0, p1, p2⟩) (fun q hq => by
    simp only [List.mem_cons, List.not_mem_nil, or_false] at hq
    rcases hq with rfl | rfl | rfl | rfl
    · exact zv8 hg0
    · exact (show -2147483648 ≤ a1 ∧ a1 ≤ 2147483647 by omega)
    · exact (show -2147483648 ≤ a2 ∧ a2 ≤ 2147483647 by omega)
    · exact (show -2147483648 ≤ a3 ∧ a3 ≤ 2147483647 by omega)) (fun _ h => absurd h List.not_mem_nil) hk
  obtain ⟨v, hr, hF, h⟩ := h
  rw [hF]
  exact h
theorem q51_1 {m : zM} {B : Int} (a0 a1 : Int) (hk : z_mok lL m) (hJ : JB B m) (hB : B + 0 ≤ 1000000000) (ha0 : -9223372036854775808 ≤ a0 ∧ a0 ≤ 9223372036854775807) (ha1 : -9223372036854775808 ≤ a1 ∧ a1 ≤ 9223372036854775807) : (1 ≤ (f51_1 a0 a1 m) ∧ (f51_1 a0 a1 m) ≤ 4) := by
  obtain ⟨_, r, m1, _, h2, hk1, h⟩ := c51_1 (s := (0, fun _ => 0)) (S := zQ [] []) (m0 := m) (B := B) (d := 13) (Q := fun r m' => ∃ v, r = some (zi v) ∧ f51_1 a0 a1 m = v ∧ (1 ≤ v ∧ v ≤ 4)) a0 a1 (Nat.le_refl _) hJ.j hB  (fun v hb hF => ⟨v, rfl, hF, hb⟩) (fun q hq => by
    simp only [List.mem_cons, List.not_mem_nil, or_false] at hq
    rcases hq with rfl | rfl
    · exact (show -9223372036854775808 ≤ a0 ∧ a0 ≤ 9223372036854775807 by omega)
    · exact (show -9223372036854775808 ≤ a1 ∧ a1 ≤ 9223372036854775807 by omega)) (fun _ h => absurd h List.not_mem_nil) hk
  obtain ⟨v, hr, hF, h⟩ := h
  rw [hF]
  exact h
theorem q51_2 {m : zM} {B : Int} (a0 a1 : Int) (hk : z_mok lL m) (hJ : JB B m) (hB : B + 0 ≤ 1000000000) (ha0 : -9223372036854775808 ≤ a0 ∧ a0 ≤ 9223372036854775807) (ha1 : -9223372036854775808 ≤ a1 ∧ a1 ≤ 9223372036854775807) : (1 ≤ (f51_1 a0 a1 m) ∧ (f51_1 a0 a1 m) ≤ 4) := by
  obtain ⟨_, r, m1, _, h2, hk1, h⟩ := c51_2 (s := (0, fun _ => 0)) (S := zQ [] []) (m0 := m) (B := B) (d := 13) (Q := fun r m' => ∃ v, r = some (zi v) ∧ f51_1 a0 a1 m = v ∧ (1 ≤ v ∧ v ≤ 4)) a0 a1 (Nat.le_refl _) hJ.j hB  (fun v hb hF => ⟨v, rfl, hF, hb⟩) (fun q hq => by
    simp only [List.mem_cons, List.not_mem_nil, or_false] at hq
    rcases hq with rfl | rfl
    · exact (show -9223372036854775808 ≤ a0 ∧ a0 ≤ 9223372036854775807 by omega)
    · exact (show -9223372036854775808 ≤ a1 ∧ a1 ≤ 9223372036854775807 by omega)) (fun _ h => absurd h List.not_mem_nil) hk
  obtain ⟨v, hr, hF, h⟩ := h
  rw [hF]
  exact h
theorem q50_1 {m : zM} {B : Int} (g0 : Nat) (a1 a2 a3 a4 : Int) (hk : z_mok lL m) (hJ : JB B m) (hB : B + 0 ≤ 1000000000) (hg0 : g0 < 3) (ha1 : 0 ≤ a1 ∧ a1 ≤ 3) (ha2 : -9223372036854775808 ≤ a2 ∧ a2 ≤ 9223372036854775807) (ha3 : -9223372036854775808 ≤ a3 ∧ a3 ≤ 9223372036854775807) (ha4 : -9223372036854775808 ≤ a4 ∧ a4 ≤ 9223372036854775807) : z_mok lL (f50_1 g0 a1 a2 a3 a4 m) ∧ J (zQ [10] [g0]) m (B) (f50_1 g0 a1 a2 a3 a4 m) := by
  obtain ⟨_, r, m1, _, h2, hk1, h⟩ := c50_1 (s := (0, fun _ => 0)) (S := zQ [10] [g0]) (m0 := m) (B := B) (d := 14) (Q := fun r m' => f50_1 g0 a1 a2 a3 a4 m = m' ∧ J (zQ [10] [g0]) m (B) m') g0 a1 a2 a3 a4 (Nat.le_refl _) hJ.j hB ha1 (zQ_n rfl) (zQ_g (by simp)) (fun m' hF hJ' => ⟨hF, hJ'⟩) (fun q hq => by
    simp only [List.mem_cons, List.not_mem_nil, or_false] at hq
    rcases hq with rfl | rfl | rfl | rfl | rfl
    · exact zv23 hg0
    · exact (show -2147483648 ≤ a1 ∧ a1 ≤ 2147483647 by omega)
    · exact (show -9223372036854775808 ≤ a2 ∧ a2 ≤ 9223372036854775807 by omega)
    · exact (show -9223372036854775808 ≤ a3 ∧ a3 ≤ 9223372036854775807 by omega)
    · exact (show -9223372036854775808 ≤ a4 ∧ a4 ≤ 9223372036854775807 by omega)) (fun _ h => absurd h List.not_mem_nil) hk
  obtain ⟨hF, hJ1⟩ := h
  rw [hF]
  exact ⟨hk1, hJ1⟩
theorem q52_1 {m : zM} {B : Int} (g0 : Nat) (a1 a2 : Int) (hk : z_mok lL m) (hJ : JB B m) (hB : B + 0 ≤ 1000000000) (hg0 : g0 < 3) (ha1 : -9223372036854775808 ≤ a1 ∧ a1 ≤ 9223372036854775807) (ha2 : -9223372036854775808 ≤ a2 ∧ a2 ≤ 9223372036854775807) : z_mok lL (f52_1 g0 a1 a2 m) ∧ J (zQ [7] [g0]) m (B) (f52_1 g0 a1 a2 m) := by
  obtain ⟨_, r, m1, _, h2, hk1, h⟩ := c52_1 (s := (0, fun _ => 0)) (S := zQ [7] [g0]) (m0 := m) (B := B) (d := 13) (Q := fun r m' => f52_1 g0 a1 a2 m = m' ∧ J (zQ [7] [g0]) m (B) m') g0 a1 a2 (Nat.le_refl _) hJ.j hB (zQ_n rfl) (zQ_g (by simp)) (fun m' hF hJ' => ⟨hF, hJ'⟩) (fun q hq => by
    simp only [List.mem_cons, List.not_mem_nil, or_false] at hq
    rcases hq with rfl | rfl | rfl
    · exact zv27 hg0
    · exact (show -9223372036854775808 ≤ a1 ∧ a1 ≤ 9223372036854775807 by omega)
    · exact (show -9223372036854775808 ≤ a2 ∧ a2 ≤ 9223372036854775807 by omega)) (fun _ h => absurd h List.not_mem_nil) hk
  obtain ⟨hF, hJ1⟩ := h
  rw [hF]
  exact ⟨hk1, hJ1⟩
theorem q49_1 {m : zM} {B : Int} (g0 : Nat) (a1 a2 : Int) (hk : z_mok lL m) (hJ : JB B m) (hB : B + 0 ≤ 1000000000) (hg0 : g0 < 3) (ha1 : 1 ≤ a1 ∧ a1 ≤ 3600) (ha2 : 0 ≤ a2 ∧ a2 ≤ 3) : z_mok lL (f49_1 g0 a1 a2 m) ∧ J (zQ [7, 10, 12, 13] [g0]) m (B) (f49_1 g0 a1 a2 m) := by
  obtain ⟨_, r, m1, _, h2, hk1, h⟩ := c49_1 (s := (0, fun _ => 0)) (S := zQ [7, 10, 12, 13] [g0]) (m0 := m) (B := B) (d := 15) (Q := fun r m' => f49_1 g0 a1 a2 m = m' ∧ J (zQ [7, 10, 12, 13] [g0]) m (B) m') g0 a1 a2 (Nat.le_refl _) hJ.j hB ha1 ha2 (zQ_n rfl) (zQ_n rfl) (zQ_n rfl) (zQ_n rfl) (zQ_g (by simp)) (fun m' hF hJ' => ⟨hF, hJ'⟩) (fun q hq => by
    simp only [List.mem_cons, List.not_mem_nil, or_false] at hq
    rcases hq with rfl | rfl | rfl
    · exact zv8 hg0
    · exact (show -2147483648 ≤ a1 ∧ a1 ≤ 2147483647 by omega)
    · exact (show -2147483648 ≤ a2 ∧ a2 ≤ 2147483647 by omega)) (fun _ h => absurd h List.not_mem_nil) hk
  obtain ⟨hF, hJ1⟩ := h
  rw [hF]
  exact ⟨hk1, hJ1⟩
theorem q55_1 {m : zM} {B : Int} (g0 : Nat) (a1 a2 a3 : Int) (hk : z_mok lL m) (hJ : JB B m) (hB : B + 1 ≤ 1000000000) (hg0 : g0 < 3) (ha1 : (-2147483648) ≤ a1 ∧ a1 ≤ 2147483647) (ha2 : 0 ≤ a2 ∧ a2 ≤ 40) (ha3 : (-2147483648) ≤ a3 ∧ a3 ≤ 2147483647) : z_mok lL (f55_1 g0 a1 a2 a3 m) ∧ J (zQ [6] [g0]) m (B + 1) (f55_1 g0 a1 a2 a3 m) := by
  obtain ⟨_, r, m1, _, h2, hk1, h⟩ := c55_1 (s := (0, fun _ => 0)) (S := zQ [6] [g0]) (m0 := m) (B := B) (d := 13) (Q := fun r m' => f55_1 g0 a1 a2 a3 m = m' ∧ J (zQ [6] [g0]) m (B + 1) m') g0 a1 a2 a3 (Nat.le_refl _) hJ.j hB ha1 ha2 ha3 (zQ_n rfl) (zQ_g (by simp)) (fun m' hF hJ' => ⟨hF, hJ'⟩) (fun q hq => by
    simp only [List.mem_cons, List.not_mem_nil, or_false] at hq
    rcases hq with rfl | rfl | rfl | rfl
    · exact zv37 hg0
    · exact (show -2147483648 ≤ a1 ∧ a1 ≤ 2147483647 by omega)
    · exact (show -2147483648 ≤ a2 ∧ a2 ≤ 2147483647 by omega)
    · exact (show -2147483648 ≤ a3 ∧ a3 ≤ 2147483647 by omega)) (fun _ h => absurd h List.not_mem_nil) hk
  obtain ⟨hF, hJ1⟩ := h
  rw [hF]
  exact ⟨hk1, hJ1⟩
theorem q54_1 {m : zM} {B : Int} (g0 : Nat) (a1 a2 : Int) (hk : z_mok lL m) (hJ : JB B m) (hB : B + 1 ≤ 1000000000) (hg0 : g0 < 3) (ha1 : 22 ≤ a1 ∧ a1 ≤ 23) (ha2 : 0 ≤ a2 ∧ a2 ≤ 0) : z_mok lL (f54_1 g0 a1 a2 m) ∧ J (zQ [6] [g0]) m (B + 1) (f54_1 g0 a1 a2 m) := by
  obtain ⟨_, r, m1, _, h2, hk1, h⟩ := c54_1 (s := (0, fun _ => 0)) (S := zQ [6] [g0]) (m0 := m) (B := B) (d := 14) (Q := fun r m' => f54_1 g0 a1 a2 m = m' ∧ J (zQ [6] [g0]) m (B + 1) m') g0 a1 a2 (Nat.le_refl _) hJ.j hB ha1 ha2 (zQ_n rfl) (zQ_g (by simp)) (fun m' hF hJ' => ⟨hF, hJ'⟩) (fun q hq => by
    simp only [List.mem_cons, List.not_mem_nil, or_false] at hq
    rcases hq with rfl | rfl | rfl
    · exact zv8 hg0
    · exact (show -2147483648 ≤ a1 ∧ a1 ≤ 2147483647 by omega)
    · exact (show -2147483648 ≤ a2 ∧ a2 ≤ 2147483647 by omega)) (fun _ h => absurd h List.not_mem_nil) hk
  obtain ⟨hF, hJ1⟩ := h
  rw [hF]
  exact ⟨hk1, hJ1⟩
theorem q54_2 {m : zM} {B : Int} (g0 : Nat) (a1 a2 : Int) (hk : z_mok lL m) (hJ : JB B m) (hB : B + 1 ≤ 1000000000) (hg0 : g0 < 3) (ha1 : 30 ≤ a1 ∧ a1 ≤ 30) (ha2 : 0 ≤ a2 ∧ a2 ≤ 0) : z_mok lL (f54_1 g0 a1 a2 m) ∧ J (zQ [6] [g0]) m (B + 1) (f54_1 g0 a1 a2 m) := by
  obtain ⟨_, r, m1, _, h2, hk1, h⟩ := c54_2 (s := (0, fun _ => 0)) (S := zQ [6] [g0]) (m0 := m) (B := B) (d := 14) (Q := fun r m' => f54_1 g0 a1 a2 m = m' ∧ J (zQ [6] [g0]) m (B + 1) m') g0 a1 a2 (Nat.le_refl _) hJ.j hB ha1 ha2 (zQ_n rfl) (zQ_g (by simp)) (fun m' hF hJ' => ⟨hF, hJ'⟩) (fun q hq => by
    simp only [List.mem_cons, List.not_mem_nil, or_false] at hq
    rcases hq with rfl | rfl | rfl
    · exact zv8 hg0
    · exact (show -2147483648 ≤ a1 ∧ a1 ≤ 2147483647 by omega)
    · exact (show -2147483648 ≤ a2 ∧ a2 ≤ 2147483647 by omega)) (fun _ h => absurd h List.not_mem_nil) hk
  obtain ⟨hF, hJ1⟩ := h
  rw [hF]
  exact ⟨hk1, hJ1⟩
theorem q54_3 {m : zM} {B : Int} (g0 : Nat) (a1 a2 : Int) (hk : z_mok lL m) (hJ : JB B m) (hB : B + 1 ≤ 1000000000) (hg0 : g0 < 3) (ha1 : 32 ≤ a1 ∧ a1 ≤ 32) (ha2 : 0 ≤ a2 ∧ a2 ≤ 1000000000) : z_mok lL (f54_1 g0 a1 a2 m) ∧ J (zQ [6] [g0]) m (B + 1) (f54_1 g0 a1 a2 m) := by
  obtain ⟨_, r, m1, _, h2, hk1, h⟩ := c54_3 (s := (0, fun _ => 0)) (S := zQ [6] [g0]) (m0 := m) (B := B) (d := 14) (Q := fun r m' => f54_1 g0 a1 a2 m = m' ∧ J (zQ [6] [g0]) m (B + 1) m') g0 a1 a2 (Nat.le_refl _) hJ.j hB ha1 ha2 (zQ_n rfl) (zQ_g (by simp)) (fun m' hF hJ' => ⟨hF, hJ'⟩) (fun q hq => by
    simp only [List.mem_cons, List.not_mem_nil, or_false] at hq
    rcases hq with rfl | rfl | rfl
    · exact zv8 hg0
    · exact (show -2147483648 ≤ a1 ∧ a1 ≤ 2147483647 by omega)
    · exact (show -2147483648 ≤ a2 ∧ a2 ≤ 2147483647 by omega)) (fun _ h => absurd h List.not_mem_nil) hk
  obtain ⟨hF, hJ1⟩ := h
  rw [hF]
  exact ⟨hk1, hJ1⟩
theorem q54_4 {m : zM} {B : Int} (g0 : Nat) (a1 a2 : Int) (hk : z_mok lL m) (hJ : JB B m) (hB : B + 1 ≤ 1000000000) (hg0 : g0 < 3) (ha1 : 33 ≤ a1 ∧ a1 ≤ 33) (ha2 : 0 ≤ a2 ∧ a2 ≤ 0) : z_mok lL (f54_1 g0 a1 a2 m) ∧ J (zQ [6] [g0]) m (B + 1) (f54_1 g0 a1 a2 m) := by
  obtain ⟨_, r, m1, _, h2, hk1, h⟩ := c54_4 (s := (0, fun _ => 0)) (S := zQ [6] [g0]) (m0 := m) (B := B) (d := 14) (Q := fun r m' => f54_1 g0 a1 a2 m = m' ∧ J (zQ [6] [g0]) m (B + 1) m') g0 a1 a2 (Nat.le_refl _) hJ.j hB ha1 ha2 (zQ_n rfl) (zQ_g (by simp)) (fun m' hF hJ' => ⟨hF, hJ'⟩) (fun q hq => by
    simp only [List.mem_cons, List.not_mem_nil, or_false] at hq
    rcases hq with rfl | rfl | rfl
    · exact zv8 hg0
    · exact (show -2147483648 ≤ a1 ∧ a1 ≤ 2147483647 by omega)
    · exact (show -2147483648 ≤ a2 ∧ a2 ≤ 2147483647 by omega)) (fun _ h => absurd h List.not_mem_nil) hk
  obtain ⟨hF, hJ1⟩ := h
  rw [hF]
  exact ⟨hk1, hJ1⟩
theorem q54_5 {m : zM} {B : Int} (g0 : Nat) (a1 a2 : Int) (hk : z_mok lL m) (hJ : JB B m) (hB : B + 1 ≤ 1000000000) (hg0 : g0 < 3) (ha1 : 31 ≤ a1 ∧ a1 ≤ 31) (ha2 : 0 ≤ a2 ∧ a2 ≤ 0) : z_mok lL (f54_1 g0 a1 a2 m) ∧ J (zQ [6] [g0]) m (B + 1) (f54_1 g0 a1 a2 m) := by
  obtain ⟨_, r, m1, _, h2, hk1, h⟩ := c54_5 (s := (0, fun _ => 0)) (S := zQ [6] [g0]) (m0 := m) (B := B) (d := 14) (Q := fun r m' => f54_1 g0 a1 a2 m = m' ∧ J (zQ [6] [g0]) m (B + 1) m') g0 a1 a2 (Nat.le_refl _) hJ.j hB ha1 ha2 (zQ_n rfl) (zQ_g (by simp)) (fun m' hF hJ' => ⟨hF, hJ'⟩) (fun q hq => by
    simp only [List.mem_cons, List.not_mem_nil, or_false] at hq
    rcases hq with rfl | rfl | rfl
    · exact zv8 hg0
    · exact (show -2147483648 ≤ a1 ∧ a1 ≤ 2147483647 by omega)
    · exact (show -2147483648 ≤ a2 ∧ a2 ≤ 2147483647 by omega)) (fun _ h => absurd h List.not_mem_nil) hk
  obtain ⟨hF, hJ1⟩ := h
  rw [hF]
  exact ⟨hk1, hJ1⟩
theorem q54_6 {m : zM} {B : Int} (g0 : Nat) (a1 a2 : Int) (hk : z_mok lL m) (hJ : JB B m) (hB : B + 1 ≤ 1000000000) (hg0 : g0 < 3) (ha1 : 20 ≤ a1 ∧ a1 ≤ 20) (ha2 : 0 ≤ a2 ∧ a2 ≤ 2000000000) : z_mok lL (f54_1 g0 a1 a2 m) ∧ J (zQ [6] [g0]) m (B + 1) (f54_1 g0 a1 a2 m) := by
  obtain ⟨_, r, m1, _, h2, hk1, h⟩ := c54_6 (s := (0, fun _ => 0)) (S := zQ [6] [g0]) (m0 := m) (B := B) (d := 14) (Q := fun r m' => f54_1 g0 a1 a2 m = m' ∧ J (zQ [6] [g0]) m (B + 1) m') g0 a1 a2 (Nat.le_refl _) hJ.j hB ha1 ha2 (zQ_n rfl) (zQ_g (by simp)) (fun m' hF hJ' => ⟨hF, hJ'⟩) (fun q hq => by
    simp only [List.mem_cons, List.not_mem_nil, or_false] at hq
    rcases hq with rfl | rfl | rfl
    · exact zv8 hg0
    · exact (show -2147483648 ≤ a1 ∧ a1 ≤ 2147483647 by omega)
    · exact (show -2147483648 ≤ a2 ∧ a2 ≤ 2147483647 by omega)) (fun _ h => absurd h List.not_mem_nil) hk
  obtain ⟨hF, hJ1⟩ := h
  rw [hF]
  exact ⟨hk1, hJ1⟩
theorem q54_7 {m : zM} {B : Int} (g0 : Nat) (a1 a2 : Int) (hk : z_mok lL m) (hJ : JB B m) (hB : B + 1 ≤ 1000000000) (hg0 : g0 < 3) (ha1 : 21 ≤ a1 ∧ a1 ≤ 21) (ha2 : 1 ≤ a2 ∧ a2 ≤ 100000) : z_mok lL (f54_1 g0 a1 a2 m) ∧ J (zQ [6] [g0]) m (B + 1) (f54_1 g0 a1 a2 m) := by
  obtain ⟨_, r, m1, _, h2, hk1, h⟩ := c54_7 (s := (0, fun _ => 0)) (S := zQ [6] [g0]) (m0 := m) (B := B) (d := 14) (Q := fun r m' => f54_1 g0 a1 a2 m = m' ∧ J (zQ [6] [g0]) m (B + 1) m') g0 a1 a2 (Nat.le_refl _) hJ.j hB ha1 ha2 (zQ_n rfl) (zQ_g (by simp)) (fun m' hF hJ' => ⟨hF, hJ'⟩) (fun q hq => by
    simp only [List.mem_cons, List.not_mem_nil, or_false] at hq
    rcases hq with rfl | rfl | rfl
    · exact zv8 hg0
    · exact (show -2147483648 ≤ a1 ∧ a1 ≤ 2147483647 by omega)
    · exact (show -2147483648 ≤ a2 ∧ a2 ≤ 2147483647 by omega)) (fun _ h => absurd h List.not_mem_nil) hk
  obtain ⟨hF, hJ1⟩ := h
  rw [hF]
  exact ⟨hk1, hJ1⟩
theorem q54_8 {m : zM} {B : Int} (g0 : Nat) (a1 a2 : Int) (hk : z_mok lL m) (hJ : JB B m) (hB : B + 1 ≤ 1000000000) (hg0 : g0 < 3) (ha1 : 24 ≤ a1 ∧ a1 ≤ 24) (ha2 : 0 ≤ a2 ∧ a2 ≤ 0) : z_mok lL (f54_1 g0 a1 a2 m) ∧ J (zQ [6] [g0]) m (B + 1) (f54_1 g0 a1 a2 m) := by
  obtain ⟨_, r, m1, _, h2, hk1, h⟩ := c54_8 (s := (0, fun _ => 0)) (S := zQ [6] [g0]) (m0 := m) (B := B) (d := 14) (Q := fun r m' => f54_1 g0 a1 a2 m = m' ∧ J (zQ [6] [g0]) m (B + 1) m') g0 a1 a2 (Nat.le_refl _) hJ.j hB ha1 ha2 (zQ_n rfl) (zQ_g (by simp)) (fun m' hF hJ' => ⟨hF, hJ'⟩) (fun q hq => by
    simp only [List.mem_cons, List.not_mem_nil, or_false] at hq
    rcases hq with rfl | rfl | rfl
    · exact zv8 hg0
    · exact (show -2147483648 ≤ a1 ∧ a1 ≤ 2147483647 by omega)
    · exact (show -2147483648 ≤ a2 ∧ a2 ≤ 2147483647 by omega)) (fun _ h => absurd h List.not_mem_nil) hk
  obtain ⟨hF, hJ1⟩ := h
  rw [hF]
  exact ⟨hk1, hJ1⟩
theorem q53_1 {m : zM} {B : Int} (g0 : Nat) (hk : z_mok lL m) (hJ : JB B m) (hB : B + 1 ≤ 1000000000) (hg0 : g0 < 3) : z_mok lL (f53_1 g0 m) ∧ J (zQ [6, 12] [g0]) m (B + 1) (f53_1 g0 m) := by
  obtain ⟨_, r, m1, _, h2, hk1, h⟩ := c53_1 (s := (0, fun _ => 0)) (S := zQ [6, 12] [g0]) (m0 := m) (B := B) (d := 15) (Q := fun r m' => f53_1 g0 m = m' ∧ J (zQ [6, 12] [g0]) m (B + 1) m') g0 (Nat.le_refl _) hJ.j hB (zQ_n rfl) (zQ_n rfl) (zQ_g (by simp)) (fun m' hF hJ' => ⟨hF, hJ'⟩) (fun q hq => by
    simp only [List.mem_cons, List.not_mem_nil, or_false] at hq
    subst hq
    · exact zv8 hg0) (fun _ h => absurd h List.not_mem_nil) hk
  obtain ⟨hF, hJ1⟩ := h
  rw [hF]
  exact ⟨hk1, hJ1⟩
theorem q57_1 {m : zM} {B : Int} (g0 g3 : Nat) (a1 a2 a4 : Int) (hk : z_mok lL m) (hJ : JB B m) (hB : B + 1 ≤ 1000000000) (hg0 : g0 < 3) (hg3 : g3 < 3) (ha1 : 0 ≤ a1 ∧ a1 ≤ 4) (ha2 : 0 ≤ a2 ∧ a2 ≤ 1) (ha4 : (-2147483648) ≤ a4 ∧ a4 ≤ 2147483647) : z_mok lL (f57_1 g0 g3 a1 a2 a4 m) ∧ J (zQ [6, 9] [g0, g3]) m (B + 1) (f57_1 g0 g3 a1 a2 a4 m) := by
  obtain ⟨_, r, m1, _, h2, hk1, h⟩ := c57_1 (s := (0, fun _ => 0)) (S := zQ [6, 9] [g0, g3]) (m0 := m) (B := B) (d := 14) (Q := fun r m' => f57_1 g0 g3 a1 a2 a4 m = m' ∧ J (zQ [6, 9] [g0, g3]) m (B + 1) m') g0 g3 a1 a2 a4 (Nat.le_refl _) hJ.j hB ha1 ha2 ha4 (zQ_n rfl) (zQ_n rfl) (zQ_g (by simp)) (zQ_g (by simp)) (fun m' hF hJ' => ⟨hF, hJ'⟩) (fun q hq => by
    simp only [List.mem_cons, List.not_mem_nil, or_false] at hq
    rcases hq with rfl | rfl | rfl | rfl | rfl
    · exact zv33 hg0
    · exact (show -2147483648 ≤ a1 ∧ a1 ≤ 2147483647 by omega)
    · exact (show -2147483648 ≤ a2 ∧ a2 ≤ 2147483647 by omega)
    · exact zv37 hg3
    · exact (show -2147483648 ≤ a4 ∧ a4 ≤ 2147483647 by omega)) (fun _ h => absurd h List.not_mem_nil) hk
  obtain ⟨hF, hJ1⟩ := h
  rw [hF]
  exact ⟨hk1, hJ1⟩
theorem q56_1 {m : zM} {B : Int} (g0 g4 : Nat) (a1 a2 a3 a5 : Int) (hk : z_mok lL m) (hJ : JB B m) (hB : B + 6 ≤ 1000000000) (hg0 : g0 < 3) (hg4 : g4 < 3) (ha1 : 1 ≤ a1 ∧ a1 ≤ 3600) (ha2 : (-2147483648) ≤ a2 ∧ a2 ≤ 2147483647) (ha3 : 0 ≤ a3 ∧ a3 ≤ 1000000) (ha5 : 0 ≤ a5 ∧ a5 ≤ 2000000000) : z_mok lL (f56_1 g0 g4 a1 a2 a3 a5 m) ∧ J (zQ [6, 9] [g0, g4]) m (B + 6) (f56_1 g0 g4 a1 a2 a3 a5 m) := by
  obtain ⟨_, r, m1, _, h2, hk1, h⟩ := c56_1 (s := (0, fun _ => 0)) (S := zQ [6, 9] [g0, g4]) (m0 := m) (B := B) (d := 15) (Q := fun r m' => f56_1 g0 g4 a1 a2 a3 a5 m = m' ∧ J (zQ [6, 9] [g0, g4]) m (B + 6) m') g0 g4 a1 a2 a3 a5 (Nat.le_refl _) hJ.j hB ha1 ha2 ha3 ha5 (zQ_n rfl) (zQ_n rfl) (zQ_g (by simp)) (zQ_g (by simp)) (fun m' hF hJ' => ⟨hF, hJ'⟩) (fun q hq => by
    simp only [List.mem_cons, List.not_mem_nil, or_false] at hq
    rcases hq with rfl | rfl | rfl | rfl | rfl | rfl
    · exact zv33 hg0
    · exact (show -2147483648 ≤ a1 ∧ a1 ≤ 2147483647 by omega)
    · exact (show -2147483648 ≤ a2 ∧ a2 ≤ 2147483647 by omega)
    · exact (show -2147483648 ≤ a3 ∧ a3 ≤ 2147483647 by omega)
    · exact zv37 hg4
    · exact (show -2147483648 ≤ a5 ∧ a5 ≤ 2147483647 by omega)) (fun _ h => absurd h List.not_mem_nil) hk
  obtain ⟨hF, hJ1⟩ := h
  rw [hF]
  exact ⟨hk1, hJ1⟩
theorem q58_1 {m : zM} {B : Int} (g0 : Nat) (a1 a2 : Int) (hk : z_mok lL m) (hJ : JB B m) (hB : B + 0 ≤ 1000000000) (hg0 : g0 < 3) (ha1 : 1 ≤ a1 ∧ a1 ≤ 3600) (ha2 : (-2147483648) ≤ a2 ∧ a2 ≤ 2147483647) : z_mok lL (f58_1 g0 a1 a2 m) ∧ J (zQ [7] [g0]) m (B) (f58_1 g0 a1 a2 m) := by
  obtain ⟨_, r, m1, _, h2, hk1, h⟩ := c58_1 (s := (0, fun _ => 0)) (S := zQ [7] [g0]) (m0 := m) (B := B) (d := 13) (Q := fun r m' => f58_1 g0 a1 a2 m = m' ∧ J (zQ [7] [g0]) m (B) m') g0 a1 a2 (Nat.le_refl _) hJ.j hB ha1 ha2 (zQ_n rfl) (zQ_g (by simp)) (fun m' hF hJ' => ⟨hF, hJ'⟩) (fun q hq => by
    simp only [List.mem_cons, List.not_mem_nil, or_false] at hq
    rcases hq with rfl | rfl | rfl
    · exact zv27 hg0
    · exact (show -2147483648 ≤ a1 ∧ a1 ≤ 2147483647 by omega)
    · exact (show -2147483648 ≤ a2 ∧ a2 ≤ 2147483647 by omega)) (fun _ h => absurd h List.not_mem_nil) hk
  obtain ⟨hF, hJ1⟩ := h
  rw [hF]
  exact ⟨hk1, hJ1⟩
theorem q61_1 {m : zM} {B : Int} (g0 : Nat) (a1 : Int) (hk : z_mok lL m) (hJ : JB B m) (hB : B + 0 ≤ 1000000000) (hg0 : g0 < 3) (ha1 : 1 ≤ a1 ∧ a1 ≤ 1000000) : ((-2147483648) ≤ (f61_1 g0 a1 m) ∧ (f61_1 g0 a1 m) ≤ 2147483647) := by
  obtain ⟨_, r, m1, _, h2, hk1, h⟩ := c61_1 (s := (0, fun _ => 0)) (S := zQ [] []) (m0 := m) (B := B) (d := 13) (Q := fun r m' => ∃ v, r = some (zi v) ∧ f61_1 g0 a1 m = v ∧ ((-2147483648) ≤ v ∧ v ≤ 2147483647)) g0 a1 (Nat.le_refl _) hJ.j hB ha1 (fun v hb hF => ⟨v, rfl, hF, hb⟩) (fun q hq => by
    simp only [List.mem_cons, List.not_mem_nil, or_false] at hq
    rcases hq with rfl | rfl
    · exact zv27 hg0
    · exact (show -2147483648 ≤ a1 ∧ a1 ≤ 2147483647 by omega)) (fun _ h => absurd h List.not_mem_nil) hk
  obtain ⟨v, hr, hF, h⟩ := h
  rw [hF]
  exact h
theorem q62_1 {m : zM} {B : Int} (g0 : Nat) (a1 a2 : Int) (hk : z_mok lL m) (hJ : JB B m) (hB : B + 1 ≤ 1000000000) (hg0 : g0 < 3) (ha1 : 0 ≤ a1 ∧ a1 ≤ 2000000000) (ha2 : (-2147483648) ≤ a2 ∧ a2 ≤ 2147483647) : z_mok lL (f62_1 g0 a1 a2 m) ∧ J (zQ [7] [g0]) m (B + 1) (f62_1 g0 a1 a2 m) := by
  obtain ⟨_, r, m1, _, h2, hk1, h⟩ := c62_1 (s := (0, fun _ => 0)) (S := zQ [7] [g0]) (m0 := m) (B := B) (d := 13) (Q := fun r m' => f62_1 g0 a1 a2 m = m' ∧ J (zQ [7] [g0]) m (B + 1) m') g0 a1 a2 (Nat.le_refl _) hJ.j hB ha1 ha2 (zQ_n rfl) (zQ_g (by simp)) (fun m' hF hJ' => ⟨hF, hJ'⟩) (fun q hq => by
    simp only [List.mem_cons, List.not_mem_nil, or_false] at hq
    rcases hq with rfl | rfl | rfl
    · exact zv27 hg0
    · exact (show -2147483648 ≤ a1 ∧ a1 ≤ 2147483647 by omega)
    · exact (show -2147483648 ≤ a2 ∧ a2 ≤ 2147483647 by omega)) (fun _ h => absurd h List.not_mem_nil) hk
  obtain ⟨hF, hJ1⟩ := h
  rw [hF]
  exact ⟨hk1, hJ1⟩
theorem q60_1 {m : zM} {B : Int} (g0 : Nat) (a1 a2 a3 : Int) (hk : z_mok lL m) (hJ : JB B m) (hB : B + 1 ≤ 1000000000) (hg0 : g0 < 3) (ha1 : 0 ≤ a1 ∧ a1 ≤ 2000000000) (ha2 : 1 ≤ a2 ∧ a2 ≤ 1000000) (ha3 : 0 ≤ a3 ∧ a3 ≤ 64) : z_mok lL (f60_1 g0 a1 a2 a3 m) ∧ J (zQ [7] [g0]) m (B + 1) (f60_1 g0 a1 a2 a3 m) := by
  obtain ⟨_, r, m1, _, h2, hk1, h⟩ := c60_1 (s := (0, fun _ => 0)) (S := zQ [7] [g0]) (m0 := m) (B := B) (d := 14) (Q := fun r m' => f60_1 g0 a1 a2 a3 m = m' ∧ J (zQ [7] [g0]) m (B + 1) m') g0 a1 a2 a3 (Nat.le_refl _) hJ.j hB ha1 ha2 ha3 (zQ_n rfl) (zQ_g (by simp)) (fun m' hF hJ' => ⟨hF, hJ'⟩) (fun q hq => by
    simp only [List.mem_cons, List.not_mem_nil, or_false] at hq
    rcases hq with rfl | rfl | rfl | rfl
    · exact zv27 hg0
    · exact (show -2147483648 ≤ a1 ∧ a1 ≤ 2147483647 by omega)
    · exact (show -2147483648 ≤ a2 ∧ a2 ≤ 2147483647 by omega)
    · exact (show -2147483648 ≤ a3 ∧ a3 ≤ 2147483647 by omega)) (fun _ h => absurd h List.not_mem_nil) hk
  obtain ⟨hF, hJ1⟩ := h
  rw [hF]
  exact ⟨hk1, hJ1⟩
theorem q65_1 {m : zM} {B : Int} (g0 : Nat) (a1 a2 : Int) (hk : z_mok lL m) (hJ : JB B m) (hB : B + 0 ≤ 1000000000) (hg0 : g0 < 3) (ha1 : 1 ≤ a1 ∧ a1 ≤ 6) (ha2 : 1 ≤ a2 ∧ a2 ≤ 1000000) : (0 ≤ (f65_1 g0 a1 a2 m) ∧ (f65_1 g0 a1 a2 m) ≤ 1) ∧ ((f65_1 g0 a1 a2 m) = 1 → a1 ≤ m g0 27 2) := by
  obtain ⟨_, r, m1, _, h2, hk1, h⟩ := c65_1 (s := (0, fun _ => 0)) (S := zQ [] []) (m0 := m) (B := B) (d := 14) (Q := fun r m' => ∃ v, r = some (zi v) ∧ f65_1 g0 a1 a2 m = v ∧ (0 ≤ v ∧ v ≤ 1) ∧ (v = 1 → a1 ≤ m g0 27 2)) g0 a1 a2 (Nat.le_refl _) hJ.j hB ha1 ha2 (fun v hb hF p0 => ⟨v, rfl, hF, hb, p0⟩) (fun q hq => by
    simp only [List.mem_cons, List.not_mem_nil, or_false] at hq
    rcases hq with rfl | rfl | rfl
    · exact zv27 hg0
    · exact (show -2147483648 ≤ a1 ∧ a1 ≤ 2147483647 by omega)
    · exact (show -2147483648 ≤ a2 ∧ a2 ≤ 2147483647 by omega)) (fun _ h => absurd h List.not_mem_nil) hk
  obtain ⟨v, hr, hF, h⟩ := h
  rw [hF]
  exact h
theorem q68_1 {m : zM} {B : Int} (g0 : Nat) (a1 a2 : Int) (hk : z_mok lL m) (hJ : JB B m) (hB : B + 0 ≤ 1000000000) (hg0 : g0 < 3) (ha1 : 0 ≤ a1 ∧ a1 ≤ 63) (ha2 : 1 ≤ a2 ∧ a2 ≤ 64) (hp0 : 0 ≤ a1) (hp1 : a1 + a2 ≤ m g0 27 2) : (-9223372036854775808 ≤ (f68_1 g0 a1 a2 m) ∧ (f68_1 g0 a1 a2 m) ≤ 9223372036854775807) := by
  obtain ⟨_, r, m1, _, h2, hk1, h⟩ := c68_1 (s := (0, fun _ => 0)) (S := zQ [] []) (m0 := m) (B := B) (d := 13) (Q := fun r m' => ∃ v, r = some (zl v) ∧ f68_1 g0 a1 a2 m = v ∧ (True)) g0 a1 a2 (Nat.le_refl _) hJ.j hB ha1 ha2 hp0 hp1 (fun v hb hF => ⟨v, rfl, hF, hb⟩) (fun q hq => by
    simp only [List.mem_cons, List.not_mem_nil, or_false] at hq
    rcases hq with rfl | rfl | rfl
    · exact zv27 hg0
    · exact (show -2147483648 ≤ a1 ∧ a1 ≤ 2147483647 by omega)
    · exact (show -2147483648 ≤ a2 ∧ a2 ≤ 2147483647 by omega)) (fun _ h => absurd h List.not_mem_nil) hk
  obtain ⟨v, hr, hF, h⟩ := h
  rw [hF]
  exact h2 _ hr
theorem q64_1 {m : zM} {B : Int} (g0 g1 : Nat) (a2 a3 a4 : Int) (hk : z_mok lL m) (hJ : JB B m) (hB : B + 0 ≤ 1000000000) (hg0 : g0 < 3) (hg1 : g1 < 3) (ha2 : 1 ≤ a2 ∧ a2 ≤ 6) (ha3 : 1 ≤ a3 ∧ a3 ≤ 1000000) (ha4 : 0 ≤ a4 ∧ a4 ≤ 3) : z_mok lL (f64_1 g0 g1 a2 a3 a4 m) ∧ J (zQ [8] [g0]) m (B) (f64_1 g0 g1 a2 a3 a4 m) := by
  obtain ⟨_, r, m1, _, h2, hk1, h⟩ := c64_1 (s := (0, fun _ => 0)) (S := zQ [8] [g0]) (m0 := m) (B := B) (d := 15) (Q := fun r m' => f64_1 g0 g1 a2 a3 a4 m = m' ∧ J (zQ [8] [g0]) m (B) m') g0 g1 a2 a3 a4 (Nat.le_refl _) hJ.j hB ha2 ha3 ha4 (zQ_n rfl) (zQ_g (by simp)) (fun m' hF hJ' => ⟨hF, hJ'⟩) (fun q hq => by
    simp only [List.mem_cons, List.not_mem_nil, or_false] at hq
    rcases hq with rfl | rfl | rfl | rfl | rfl
    · exact zv30 hg0
    · exact zv27 hg1
    · exact (show -2147483648 ≤ a2 ∧ a2 ≤ 2147483647 by omega)
    · exact (show -2147483648 ≤ a3 ∧ a3 ≤ 2147483647 by omega)
    · exact (show -2147483648 ≤ a4 ∧ a4 ≤ 2147483647 by omega)) (fun _ h => absurd h List.not_mem_nil) hk
  obtain ⟨hF, hJ1⟩ := h
  rw [hF]
  exact ⟨hk1, hJ1⟩
theorem q59_1 {m : zM} {B : Int} (g0 : Nat) (a1 : Int) (hk : z_mok lL m) (hJ : JB B m) (hB : B + 1 ≤ 1000000000) (hg0 : g0 < 3) (ha1 : 0 ≤ a1 ∧ a1 ≤ 3) : z_mok lL (f59_1 g0 a1 m) ∧ J (zQ [7, 8] [g0]) m (B + 1) (f59_1 g0 a1 m) := by
  obtain ⟨_, r, m1, _, h2, hk1, h⟩ := c59_1 (s := (0, fun _ => 0)) (S := zQ [7, 8] [g0]) (m0 := m) (B := B) (d := 16) (Q := fun r m' => f59_1 g0 a1 m = m' ∧ J (zQ [7, 8] [g0]) m (B + 1) m') g0 a1 (Nat.le_refl _) hJ.j hB ha1 (zQ_n rfl) (zQ_n rfl) (zQ_g (by simp)) (fun m' hF hJ' => ⟨hF, hJ'⟩) (fun q hq => by
    simp only [List.mem_cons, List.not_mem_nil, or_false] at hq
    rcases hq with rfl | rfl
    · exact zv8 hg0
    · exact (show -2147483648 ≤ a1 ∧ a1 ≤ 2147483647 by omega)) (fun _ h => absurd h List.not_mem_nil) hk
  obtain ⟨hF, hJ1⟩ := h
  rw [hF]
  exact ⟨hk1, hJ1⟩
theorem q26_1 {m : zM} {B : Int} (g0 : Nat) (a1 : Int) (hk : z_mok lL m) (hJ : JB B m) (hB : B + 8 ≤ 1000000000) (hg0 : g0 < 3) (ha1 : 1 ≤ a1 ∧ a1 ≤ 3600) (hp0 : 1 ≤ a1) : z_mok lL (f26_1 g0 a1 m).2 ∧ J (zQ [6, 7, 8, 9, 10, 11, 12, 13] [g0]) m (B + 8) (f26_1 g0 a1 m).2 ∧ (1 ≤ (f26_1 g0 a1 m).1 ∧ (f26_1 g0 a1 m).1 ≤ 3600) ∧ (1 ≤ (f26_1 g0 a1 m).1) ∧ ((f26_1 g0 a1 m).1 ≤ a1) := by
  obtain ⟨_, r, m1, _, h2, hk1, h⟩ := c26_1 (s := (0, fun _ => 0)) (S := zQ [6, 7, 8, 9, 10, 11, 12, 13] [g0]) (m0 := m) (B := B) (d := 17) (Q := fun r m' => ∃ v, f26_1 g0 a1 m = (v, m') ∧ J (zQ [6, 7, 8, 9, 10, 11, 12, 13] [g0]) m (B + 8) m' ∧ (1 ≤ v ∧ v ≤ 3600) ∧ (1 ≤ v) ∧ (v ≤ a1)) g0 a1 (Nat.le_refl _) hJ.j hB ha1 hp0 (zQ_n rfl) (zQ_n rfl) (zQ_n rfl) (zQ_n rfl) (zQ_n rfl) (zQ_n rfl) (zQ_n rfl) (zQ_n rfl) (zQ_g (by simp)) (fun v m' hb hF hJ' p0 p1 => ⟨v, hF, hJ', hb, p0, p1⟩) (fun q hq => by
    simp only [List.mem_cons, List.not_mem_nil, or_false] at hq
    rcases hq with rfl | rfl
    · exact zv8 hg0
    · exact (show -2147483648 ≤ a1 ∧ a1 ≤ 2147483647 by omega)) (fun _ h => absurd h List.not_mem_nil) hk
  obtain ⟨v, hF, hJ1, h⟩ := h
  rw [hF]
  exact ⟨hk1, hJ1, h⟩
theorem q25_1 {m : zM} {B : Int} (g0 : Nat) (a1 : Int) (hk : z_mok lL m) (hJ : JB B m) (hB : B + 7208 ≤ 1000000000) (hg0 : g0 < 3) (ha1 : 1 ≤ a1 ∧ a1 ≤ 900) : z_mok lL (f25_1 g0 a1 m) ∧ J (zQ [6, 7, 8, 9, 10, 11, 12, 13] [g0]) m (B + 7208) (f25_1 g0 a1 m) := by
  obtain ⟨_, r, m1, _, h2, hk1, h⟩ := c25_1 (s := (0, fun _ => 0)) (S := zQ [6, 7, 8, 9, 10, 11, 12, 13] [g0]) (m0 := m) (B := B) (d := 18) (Q := fun r m' => f25_1 g0 a1 m = m' ∧ J (zQ [6, 7, 8, 9, 10, 11, 12, 13] [g0]) m (B + 7208) m') g0 a1 (Nat.le_refl _) hJ.j hB ha1 (zQ_n rfl) (zQ_n rfl) (zQ_n rfl) (zQ_n rfl) (zQ_n rfl) (zQ_n rfl) (zQ_n rfl) (zQ_n rfl) (zQ_g (by simp)) (fun m' hF hJ' => ⟨hF, hJ'⟩) (fun q hq => by
    simp only [List.mem_cons, List.not_mem_nil, or_false] at hq
    rcases hq with rfl | rfl
    · exact zv8 hg0
    · exact (show -2147483648 ≤ a1 ∧ a1 ≤ 2147483647 by omega)) (fun _ h => absurd h List.not_mem_nil) hk
  obtain ⟨hF, hJ1⟩ := h
  rw [hF]
  exact ⟨hk1, hJ1⟩
theorem q19_1 {m : zM} {B : Int} (a1 a2 : Int) (hk : z_mok lL m) (hJ : JB B m) (hB : B + 7208 ≤ 1000000000) (ha1 : (-2147483648) ≤ a1 ∧ a1 ≤ 2147483647) (ha2 : (-2147483648) ≤ a2 ∧ a2 ≤ 2147483647) : z_mok lL (f19_1 a1 a2 m).2 ∧ J (zQ [2, 6, 7, 8, 9, 10, 11, 12, 13] [0]) m (B + 7208) (f19_1 a1 a2 m).2 ∧ ((-1) ≤ (f19_1 a1 a2 m).1 ∧ (f19_1 a1 a2 m).1 ≤ 47) := by
  obtain ⟨_, r, m1, _, h2, hk1, h⟩ := c19_1 (s := (0, fun _ => 0)) (S := zQ [2, 6, 7, 8, 9, 10, 11, 12, 13] [0]) (m0 := m) (B := B) (d := 19) (Q := fun r m' => ∃ v, f19_1 a1 a2 m = (v, m') ∧ J (zQ [2, 6, 7, 8, 9, 10, 11, 12, 13] [0]) m (B + 7208) m' ∧ ((-1) ≤ v ∧ v ≤ 47)) a1 a2 (Nat.le_refl _) hJ.j hB ha1 ha2 (zQ_n rfl) (zQ_n rfl) (zQ_n rfl) (zQ_n rfl) (zQ_n rfl) (zQ_n rfl) (zQ_n rfl) (zQ_n rfl) (zQ_n rfl) (zQ_g (by simp)) (fun v m' hb hF hJ' => ⟨v, hF, hJ', hb⟩) (fun q hq => by
    simp only [List.mem_cons, List.not_mem_nil, or_false] at hq
    rcases hq with rfl | rfl | rfl
    · exact zv40
    · exact (show -2147483648 ≤ a1 ∧ a1 ≤ 2147483647 by omega)
    · exact (show -2147483648 ≤ a2 ∧ a2 ≤ 2147483647 by omega)) (fun _ h => absurd h List.not_mem_nil) hk
  obtain ⟨v, hF, hJ1, h⟩ := h
  rw [hF]
  exact ⟨hk1, hJ1, h⟩
theorem q213_1 {m : zM} {B : Int} (a1 a2 : Int) (hk : z_mok lL m) (hJ : JB B m) (hB : B + 0 ≤ 1000000000) (ha1 : 95 ≤ a1 ∧ a1 ≤ 143) (ha2 : 0 ≤ a2 ∧ a2 ≤ 2) : (0 ≤ (f213_1 a1 a2 m) ∧ (f213_1 a1 a2 m) ≤ 4000000) := by
  obtain ⟨_, r, m1, _, h2, hk1, h⟩ := c213_1 (s := (0, fun _ => 0)) (S := zQ [] []) (m0 := m) (B := B) (d := 13) (Q := fun r m' => ∃ v, r = some (zl v) ∧ f213_1 a1 a2 m = v ∧ (0 ≤ v ∧ v ≤ 4000000)) a1 a2 (Nat.le_refl _) hJ.j hB ha1 ha2 (fun v hb hF => ⟨v, rfl, hF, hb⟩) (fun q hq => by
    simp only [List.mem_cons, List.not_mem_nil, or_false] at hq
    rcases hq with rfl | rfl | rfl
    · exact zv44
    · exact (show -2147483648 ≤ a1 ∧ a1 ≤ 2147483647 by omega)
    · exact (show -2147483648 ≤ a2 ∧ a2 ≤ 2147483647 by omega)) (fun _ h => absurd h List.not_mem_nil) hk
  obtain ⟨v, hr, hF, h⟩ := h
  rw [hF]
  exact h
theorem q212_1 {m : zM} {B : Int} (a1 : Int) (hk : z_mok lL m) (hJ : JB B m) (hB : B + 0 ≤ 1000000000) (ha1 : 0 ≤ a1 ∧ a1 ≤ 2) : ((-4000000) ≤ (f212_1 a1 m) ∧ (f212_1 a1 m) ≤ 4000000) := by
  obtain ⟨_, r, m1, _, h2, hk1, h⟩ := c212_1 (s := (0, fun _ => 0)) (S := zQ [] []) (m0 := m) (B := B) (d := 13) (Q := fun r m' => ∃ v, r = some (zl v) ∧ f212_1 a1 m = v ∧ ((-4000000) ≤ v ∧ v ≤ 4000000)) a1 (Nat.le_refl _) hJ.j hB ha1 (fun v hb hF => ⟨v, rfl, hF, hb⟩) (fun q hq => by
    simp only [List.mem_cons, List.not_mem_nil, or_false] at hq
    rcases hq with rfl | rfl
    · exact zv44
    · exact (show -2147483648 ≤ a1 ∧ a1 ≤ 2147483647 by omega)) (fun _ h => absurd h List.not_mem_nil) hk
  obtain ⟨v, hr, hF, h⟩ := h
  rw [hF]
  exact h
theorem q210_1 {m : zM} {B : Int} (a1 : Int) (hk : z_mok lL m) (hJ : JB B m) (hB : B + 0 ≤ 1000000000) (ha1 : 0 ≤ a1 ∧ a1 ≤ 2) : ((-4000000) ≤ (f210_1 a1 m) ∧ (f210_1 a1 m) ≤ 4000000) := by
  obtain ⟨_, r, m1, _, h2, hk1, h⟩ := c210_1 (s := (0, fun _ => 0)) (S := zQ [] []) (m0 := m) (B := B) (d := 13) (Q := fun r m' => ∃ v, r = some (zl v) ∧ f210_1 a1 m = v ∧ ((-4000000) ≤ v ∧ v ≤ 4000000)) a1 (Nat.le_refl _) hJ.j hB ha1 (fun v hb hF => ⟨v, rfl, hF, hb⟩) (fun q hq => by
    simp only [List.mem_cons, List.not_mem_nil, or_false] at hq
    rcases hq with rfl | rfl
    · exact zv44
    · exact (show -2147483648 ≤ a1 ∧ a1 ≤ 2147483647 by omega)) (fun _ h => absurd h List.not_mem_nil) hk
  obtain ⟨v, hr, hF, h⟩ := h
  rw [hF]
  exact h
theorem q209_1 {m : zM} {B : Int} (a1 : Int) (hk : z_mok lL m) (hJ : JB B m) (hB : B + 0 ≤ 1000000000) (ha1 : 0 ≤ a1 ∧ a1 ≤ 3) : ((-12000000) ≤ (f209_1 a1 m) ∧ (f209_1 a1 m) ≤ 12000000) := by
  obtain ⟨_, r, m1, _, h2, hk1, h⟩ := c209_1 (s := (0, fun _ => 0)) (S := zQ [] []) (m0 := m) (B := B) (d := 14) (Q := fun r m' => ∃ v, r = some (zl v) ∧ f209_1 a1 m = v ∧ ((-12000000) ≤ v ∧ v ≤ 12000000)) a1 (Nat.le_refl _) hJ.j hB ha1 (fun v hb hF => ⟨v, rfl, hF, hb⟩) (fun q hq => by
    simp only [List.mem_cons, List.not_mem_nil, or_false] at hq
    rcases hq with rfl | rfl
    · exact zv44
    · exact (show -2147483648 ≤ a1 ∧ a1 ≤ 2147483647 by omega)) (fun _ h => absurd h List.not_mem_nil) hk
  obtain ⟨v, hr, hF, h⟩ := h
  rw [hF]
  exact h
theorem q214_1 {m : zM} {B : Int} (a0 : Int) (hk : z_mok lL m) (hJ : JB B m) (hB : B + 0 ≤ 1000000000) (ha0 : 0 ≤ a0 ∧ a0 ≤ 288000000000000) : (0 ≤ (f214_1 a0 m) ∧ (f214_1 a0 m) ≤ 3000000000) := by
  obtain ⟨_, r, m1, _, h2, hk1, h⟩ := c214_1 (s := (0, fun _ => 0)) (S := zQ [] []) (m0 := m) (B := B) (d := 13) (Q := fun r m' => ∃ v, r = some (zl v) ∧ f214_1 a0 m = v ∧ (0 ≤ v ∧ v ≤ 3000000000)) a0 (Nat.le_refl _) hJ.j hB ha0 (fun v hb hF => ⟨v, rfl, hF, hb⟩) (fun q hq => by
    simp only [List.mem_cons, List.not_mem_nil, or_false] at hq
    subst hq
    · exact (show -9223372036854775808 ≤ a0 ∧ a0 ≤ 9223372036854775807 by omega)) (fun _ h => absurd h List.not_mem_nil) hk
  obtain ⟨v, hr, hF, h⟩ := h
  rw [hF]
  exact h
theorem q215_1 {m : zM} {B : Int} (a0 : Int) (hk : z_mok lL m) (hJ : JB B m) (hB : B + 0 ≤ 1000000000) (ha0 : (-12000000) ≤ a0 ∧ a0 ≤ 12000000) : (0 ≤ (f215_1 a0 m) ∧ (f215_1 a0 m) ≤ 12000000) := by
  obtain ⟨_, r, m1, _, h2, hk1, h⟩ := c215_1 (s := (0, fun _ => 0)) (S := zQ [] []) (m0 := m) (B := B) (d := 13) (Q := fun r m' => ∃ v, r = some (zl v) ∧ f215_1 a0 m = v ∧ (0 ≤ v ∧ v ≤ 12000000)) a0 (Nat.le_refl _) hJ.j hB ha0 (fun v hb hF => ⟨v, rfl, hF, hb⟩) (fun q hq => by
    simp only [List.mem_cons, List.not_mem_nil, or_false] at hq
    subst hq
    · exact (show -9223372036854775808 ≤ a0 ∧ a0 ≤ 9223372036854775807 by omega)) (fun _ h => absurd h List.not_mem_nil) hk
  obtain ⟨v, hr, hF, h⟩ := h
  rw [hF]
  exact h
theorem q219_1 {m : zM} {B : Int} (a1 : Int) (hk : z_mok lL m) (hJ : JB B m) (hB : B + 0 ≤ 1000000000) (ha1 : 0 ≤ a1 ∧ a1 ≤ 364) : (0 ≤ (f219_1 a1 m) ∧ (f219_1 a1 m) ≤ 3) := by
  obtain ⟨_, r, m1, _, h2, hk1, h⟩ := c219_1 (s := (0, fun _ => 0)) (S := zQ [] []) (m0 := m) (B := B) (d := 13) (Q := fun r m' => ∃ v, r = some (zi v) ∧ f219_1 a1 m = v ∧ (0 ≤ v ∧ v ≤ 3)) a1 (Nat.le_refl _) hJ.j hB ha1 (fun v hb hF => ⟨v, rfl, hF, hb⟩) (fun q hq => by
    simp only [List.mem_cons, List.not_mem_nil, or_false] at hq
    rcases hq with rfl | rfl
    · exact zv44
    · exact (show -2147483648 ≤ a1 ∧ a1 ≤ 2147483647 by omega)) (fun _ h => absurd h List.not_mem_nil) hk
  obtain ⟨v, hr, hF, h⟩ := h
  rw [hF]
  exact h
theorem q218_1 {m : zM} {B : Int} (a1 : Int) (hk : z_mok lL m) (hJ : JB B m) (hB : B + 0 ≤ 1000000000) (ha1 : 0 ≤ a1 ∧ a1 ≤ 23150) : (0 ≤ (f218_1 a1 m) ∧ (f218_1 a1 m) ≤ 7) := by
  obtain ⟨_, r, m1, _, h2, hk1, h⟩ := c218_1 (s := (0, fun _ => 0)) (S := zQ [] []) (m0 := m) (B := B) (d := 14) (Q := fun r m' => ∃ v, r = some (zi v) ∧ f218_1 a1 m = v ∧ (0 ≤ v ∧ v ≤ 7)) a1 (Nat.le_refl _) hJ.j hB ha1 (fun v hb hF => ⟨v, rfl, hF, hb⟩) (fun q hq => by
    simp only [List.mem_cons, List.not_mem_nil, or_false] at hq
    rcases hq with rfl | rfl
    · exact zv44
    · exact (show -2147483648 ≤ a1 ∧ a1 ≤ 2147483647 by omega)) (fun _ h => absurd h List.not_mem_nil) hk
  obtain ⟨v, hr, hF, h⟩ := h
  rw [hF]
  exact h
theorem q218_2 {m : zM} {B : Int} (a1 : Int) (hk : z_mok lL m) (hJ : JB B m) (hB : B + 0 ≤ 1000000000) (ha1 : 0 ≤ a1 ∧ a1 ≤ 23150) : (0 ≤ (f218_1 a1 m) ∧ (f218_1 a1 m) ≤ 7) := by
  obtain ⟨_, r, m1, _, h2, hk1, h⟩ := c218_2 (s := (0, fun _ => 0)) (S := zQ [] []) (m0 := m) (B := B) (d := 14) (Q := fun r m' => ∃ v, r = some (zi v) ∧ f218_1 a1 m = v ∧ (0 ≤ v ∧ v ≤ 7)) a1 (Nat.le_refl _) hJ.j hB ha1 (fun v hb hF => ⟨v, rfl, hF, hb⟩) (fun q hq => by
    simp only [List.mem_cons, List.not_mem_nil, or_false] at hq
    rcases hq with rfl | rfl
    · exact zv44
    · exact (show -2147483648 ≤ a1 ∧ a1 ≤ 2147483647 by omega)) (fun _ h => absurd h List.not_mem_nil) hk
  obtain ⟨v, hr, hF, h⟩ := h
  rw [hF]
  exact h
theorem q218_3 {m : zM} {B : Int} (a1 : Int) (hk : z_mok lL m) (hJ : JB B m) (hB : B + 0 ≤ 1000000000) (ha1 : 0 ≤ a1 ∧ a1 ≤ 23150) : (0 ≤ (f218_1 a1 m) ∧ (f218_1 a1 m) ≤ 7) := by
  obtain ⟨_, r, m1, _, h2, hk1, h⟩ := c218_3 (s := (0, fun _ => 0)) (S := zQ [] []) (m0 := m) (B := B) (d := 14) (Q := fun r m' => ∃ v, r = some (zi v) ∧ f218_1 a1 m = v ∧ (0 ≤ v ∧ v ≤ 7)) a1 (Nat.le_refl _) hJ.j hB ha1 (fun v hb hF => ⟨v, rfl, hF, hb⟩) (fun q hq => by
    simp only [List.mem_cons, List.not_mem_nil, or_false] at hq
    rcases hq with rfl | rfl
    · exact zv44
    · exact (show -2147483648 ≤ a1 ∧ a1 ≤ 2147483647 by omega)) (fun _ h => absurd h List.not_mem_nil) hk
  obtain ⟨v, hr, hF, h⟩ := h
  rw [hF]
  exact h
theorem q217_1 {m : zM} {B : Int} (a1 : Int) (hk : z_mok lL m) (hJ : JB B m) (hB : B + 0 ≤ 1000000000) (ha1 : (-1) ≤ a1 ∧ a1 ≤ 2000000000) : (0 ≤ (f217_1 a1 m) ∧ (f217_1 a1 m) ≤ 3) := by
  obtain ⟨_, r, m1, _, h2, hk1, h⟩ := c217_1 (s := (0, fun _ => 0)) (S := zQ [] []) (m0 := m) (B := B) (d := 15) (Q := fun r m' => ∃ v, r = some (zi v) ∧ f217_1 a1 m = v ∧ (0 ≤ v ∧ v ≤ 3)) a1 (Nat.le_refl _) hJ.j hB ha1 (fun v hb hF => ⟨v, rfl, hF, hb⟩) (fun q hq => by
    simp only [List.mem_cons, List.not_mem_nil, or_false] at hq
    rcases hq with rfl | rfl
    · exact zv44
    · exact (show -2147483648 ≤ a1 ∧ a1 ≤ 2147483647 by omega)) (fun _ h => absurd h List.not_mem_nil) hk
  obtain ⟨v, hr, hF, h⟩ := h
  rw [hF]
  exact h
theorem q220_1 {m : zM} {B : Int} (a1 a2 a3 : Int) (hk : z_mok lL m) (hJ : JB B m) (hB : B + 0 ≤ 1000000000) (ha1 : 0 ≤ a1 ∧ a1 ≤ 0) (ha2 : 0 ≤ a2 ∧ a2 ≤ 3) (ha3 : 1 ≤ a3 ∧ a3 ≤ 12000000) : z_mok lL (f220_1 a1 a2 a3 m) ∧ J (zQ [30] [4]) m (B) (f220_1 a1 a2 a3 m) := by
  obtain ⟨_, r, m1, _, h2, hk1, h⟩ := c220_1 (s := (0, fun _ => 0)) (S := zQ [30] [4]) (m0 := m) (B := B) (d := 13) (Q := fun r m' => f220_1 a1 a2 a3 m = m' ∧ J (zQ [30] [4]) m (B) m') a1 a2 a3 (Nat.le_refl _) hJ.j hB ha1 ha2 ha3 (zQ_n rfl) (zQ_g (by simp)) (fun m' hF hJ' => ⟨hF, hJ'⟩) (fun q hq => by
    simp only [List.mem_cons, List.not_mem_nil, or_false] at hq
    rcases hq with rfl | rfl | rfl | rfl
    · exact zv44
    · exact (show -2147483648 ≤ a1 ∧ a1 ≤ 2147483647 by omega)
    · exact (show -2147483648 ≤ a2 ∧ a2 ≤ 2147483647 by omega)
    · exact (show -9223372036854775808 ≤ a3 ∧ a3 ≤ 9223372036854775807 by omega)) (fun _ h => absurd h List.not_mem_nil) hk
  obtain ⟨hF, hJ1⟩ := h
  rw [hF]
  exact ⟨hk1, hJ1⟩
theorem q220_2 {m : zM} {B : Int} (a1 a2 a3 : Int) (hk : z_mok lL m) (hJ : JB B m) (hB : B + 0 ≤ 1000000000) (ha1 : 1 ≤ a1 ∧ a1 ≤ 1) (ha2 : 0 ≤ a2 ∧ a2 ≤ 3) (ha3 : 1 ≤ a3 ∧ a3 ≤ 12000000) : z_mok lL (f220_1 a1 a2 a3 m) ∧ J (zQ [30] [4]) m (B) (f220_1 a1 a2 a3 m) := by
  obtain ⟨_, r, m1, _, h2, hk1, h⟩ := c220_2 (s := (0, fun _ => 0)) (S := zQ [30] [4]) (m0 := m) (B := B) (d := 13) (Q := fun r m' => f220_1 a1 a2 a3 m = m' ∧ J (zQ [30] [4]) m (B) m') a1 a2 a3 (Nat.le_refl _) hJ.j hB ha1 ha2 ha3 (zQ_n rfl) (zQ_g (by simp)) (fun m' hF hJ' => ⟨hF, hJ'⟩) (fun q hq => by
    simp only [List.mem_cons, List.not_mem_nil, or_false] at hq
    rcases hq with rfl | rfl | rfl | rfl
    · exact zv44
    · exact (show -2147483648 ≤ a1 ∧ a1 ≤ 2147483647 by omega)
    · exact (show -2147483648 ≤ a2 ∧ a2 ≤ 2147483647 by omega)
    · exact (show -9223372036854775808 ≤ a3 ∧ a3 ≤ 9223372036854775807 by omega)) (fun _ h => absurd h List.not_mem_nil) hk
  obtain ⟨hF, hJ1⟩ := h
  rw [hF]
  exact ⟨hk1, hJ1⟩
theorem q220_3 {m : zM} {B : Int} (a1 a2 a3 : Int) (hk : z_mok lL m) (hJ : JB B m) (hB : B + 0 ≤ 1000000000) (ha1 : 2 ≤ a1 ∧ a1 ≤ 5) (ha2 : 0 ≤ a2 ∧ a2 ≤ 3) (ha3 : 0 ≤ a3 ∧ a3 ≤ 12000000) : z_mok lL (f220_1 a1 a2 a3 m) ∧ J (zQ [30] [4]) m (B) (f220_1 a1 a2 a3 m) := by
  obtain ⟨_, r, m1, _, h2, hk1, h⟩ := c220_3 (s := (0, fun _ => 0)) (S := zQ [30] [4]) (m0 := m) (B := B) (d := 13) (Q := fun r m' => f220_1 a1 a2 a3 m = m' ∧ J (zQ [30] [4]) m (B) m') a1 a2 a3 (Nat.le_refl _) hJ.j hB ha1 ha2 ha3 (zQ_n rfl) (zQ_g (by simp)) (fun m' hF hJ' => ⟨hF, hJ'⟩) (fun q hq => by
    simp only [List.mem_cons, List.not_mem_nil, or_false] at hq
    rcases hq with rfl | rfl | rfl | rfl
    · exact zv44
    · exact (show -2147483648 ≤ a1 ∧ a1 ≤ 2147483647 by omega)
    · exact (show -2147483648 ≤ a2 ∧ a2 ≤ 2147483647 by omega)
    · exact (show -9223372036854775808 ≤ a3 ∧ a3 ≤ 9223372036854775807 by omega)) (fun _ h => absurd h List.not_mem_nil) hk
  obtain ⟨hF, hJ1⟩ := h
  rw [hF]
  exact ⟨hk1, hJ1⟩
theorem q220_4 {m : zM} {B : Int} (a1 a2 a3 : Int) (hk : z_mok lL m) (hJ : JB B m) (hB : B + 0 ≤ 1000000000) (ha1 : 6 ≤ a1 ∧ a1 ≤ 6) (ha2 : 0 ≤ a2 ∧ a2 ≤ 3) (ha3 : 0 ≤ a3 ∧ a3 ≤ 3000000000) : z_mok lL (f220_1 a1 a2 a3 m) ∧ J (zQ [30] [4]) m (B) (f220_1 a1 a2 a3 m) := by
  obtain ⟨_, r, m1, _, h2, hk1, h⟩ := c220_4 (s := (0, fun _ => 0)) (S := zQ [30] [4]) (m0 := m) (B := B) (d := 13) (Q := fun r m' => f220_1 a1 a2 a3 m = m' ∧ J (zQ [30] [4]) m (B) m') a1 a2 a3 (Nat.le_refl _) hJ.j hB ha1 ha2 ha3 (zQ_n rfl) (zQ_g (by simp)) (fun m' hF hJ' => ⟨hF, hJ'⟩) (fun q hq => by
    simp only [List.mem_cons, List.not_mem_nil, or_false] at hq
    rcases hq with rfl | rfl | rfl | rfl
    · exact zv44
    · exact (show -2147483648 ≤ a1 ∧ a1 ≤ 2147483647 by omega)
    · exact (show -2147483648 ≤ a2 ∧ a2 ≤ 2147483647 by omega)
    · exact (show -9223372036854775808 ≤ a3 ∧ a3 ≤ 9223372036854775807 by omega)) (fun _ h => absurd h List.not_mem_nil) hk
  obtain ⟨hF, hJ1⟩ := h
  rw [hF]
  exact ⟨hk1, hJ1⟩
theorem q221_1 {m : zM} {B : Int} (a0 a1 : Int) (hk : z_mok lL m) (hJ : JB B m) (hB : B + 0 ≤ 1000000000) (ha0 : (-12000000) ≤ a0 ∧ a0 ≤ 12000000) (ha1 : (-12000000) ≤ a1 ∧ a1 ≤ 12000000) : (1 ≤ (f221_1 a0 a1 m) ∧ (f221_1 a0 a1 m) ≤ 4) := by
  obtain ⟨_, r, m1, _, h2, hk1, h⟩ := c221_1 (s := (0, fun _ => 0)) (S := zQ [] []) (m0 := m) (B := B) (d := 13) (Q := fun r m' => ∃ v, r = some (zi v) ∧ f221_1 a0 a1 m = v ∧ (1 ≤ v ∧ v ≤ 4)) a0 a1 (Nat.le_refl _) hJ.j hB ha0 ha1 (fun v hb hF => ⟨v, rfl, hF, hb⟩) (fun q hq => by
    simp only [List.mem_cons, List.not_mem_nil, or_false] at hq
    rcases hq with rfl | rfl
    · exact (show -9223372036854775808 ≤ a0 ∧ a0 ≤ 9223372036854775807 by omega)
    · exact (show -9223372036854775808 ≤ a1 ∧ a1 ≤ 9223372036854775807 by omega)) (fun _ h => absurd h List.not_mem_nil) hk
  obtain ⟨v, hr, hF, h⟩ := h
  rw [hF]
  exact h
theorem q216_1 {m : zM} {B : Int} (a1 a2 a3 : Int) (hk : z_mok lL m) (hJ : JB B m) (hB : B + 0 ≤ 1000000000) (ha1 : (-12000000) ≤ a1 ∧ a1 ≤ 12000000) (ha2 : (-12000000) ≤ a2 ∧ a2 ≤ 12000000) (ha3 : 0 ≤ a3 ∧ a3 ≤ 3000000000) : z_mok lL (f216_1 a1 a2 a3 m) ∧ J (zQ [27, 30, 32] [4]) m (B) (f216_1 a1 a2 a3 m) := by
  obtain ⟨_, r, m1, _, h2, hk1, h⟩ := c216_1 (s := (0, fun _ => 0)) (S := zQ [27, 30, 32] [4]) (m0 := m) (B := B) (d := 16) (Q := fun r m' => f216_1 a1 a2 a3 m = m' ∧ J (zQ [27, 30, 32] [4]) m (B) m') a1 a2 a3 (Nat.le_refl _) hJ.j hB ha1 ha2 ha3 (zQ_n rfl) (zQ_n rfl) (zQ_n rfl) (zQ_g (by simp)) (fun m' hF hJ' => ⟨hF, hJ'⟩) (fun q hq => by
    simp only [List.mem_cons, List.not_mem_nil, or_false] at hq
    rcases hq with rfl | rfl | rfl | rfl
    · exact zv44
    · exact (show -9223372036854775808 ≤ a1 ∧ a1 ≤ 9223372036854775807 by omega)
    · exact (show -9223372036854775808 ≤ a2 ∧ a2 ≤ 9223372036854775807 by omega)
    · exact (show -9223372036854775808 ≤ a3 ∧ a3 ≤ 9223372036854775807 by omega)) (fun _ h => absurd h List.not_mem_nil) hk
  obtain ⟨hF, hJ1⟩ := h
  rw [hF]
  exact ⟨hk1, hJ1⟩
theorem q223_1 {m : zM} {B : Int} (a1 a2 : Int) (hk : z_mok lL m) (hJ : JB B m) (hB : B + 1 ≤ 1000000000) (ha1 : 0 ≤ a1 ∧ a1 ≤ 40) (ha2 : -9223372036854775808 ≤ a2 ∧ a2 ≤ 9223372036854775807) : z_mok lL (f223_1 a1 a2 m) ∧ J (zQ [26] [4]) m (B + 1) (f223_1 a1 a2 m) := by
  obtain ⟨_, r, m1, _, h2, hk1, h⟩ := c223_1 (s := (0, fun _ => 0)) (S := zQ [26] [4]) (m0 := m) (B := B) (d := 13) (Q := fun r m' => f223_1 a1 a2 m = m' ∧ J (zQ [26] [4]) m (B + 1) m') a1 a2 (Nat.le_refl _) hJ.j hB ha1 (zQ_n rfl) (zQ_g (by simp)) (fun m' hF hJ' => ⟨hF, hJ'⟩) (fun q hq => by
    simp only [List.mem_cons, List.not_mem_nil, or_false] at hq
    rcases hq with rfl | rfl | rfl
    · exact zv44
    · exact (show -2147483648 ≤ a1 ∧ a1 ≤ 2147483647 by omega)
    · exact (show -9223372036854775808 ≤ a2 ∧ a2 ≤ 9223372036854775807 by omega)) (fun _ h => absurd h List.not_mem_nil) hk
  obtain ⟨hF, hJ1⟩ := h
  rw [hF]
  exact ⟨hk1, hJ1⟩
theorem q222_1 {m : zM} {B : Int} (hk : z_mok lL m) (hJ : JB B m) (hB : B + 1 ≤ 1000000000) : z_mok lL (f222_1 m) ∧ J (zQ [26, 32] [4]) m (B + 1) (f222_1 m) := by
  obtain ⟨_, r, m1, _, h2, hk1, h⟩ := c222_1 (s := (0, fun _ => 0)) (S := zQ [26, 32] [4]) (m0 := m) (B := B) (d := 14) (Q := fun r m' => f222_1 m = m' ∧ J (zQ [26, 32] [4]) m (B + 1) m')  (Nat.le_refl _) hJ.j hB (zQ_n rfl) (zQ_n rfl) (zQ_g (by simp)) (fun m' hF hJ' => ⟨hF, hJ'⟩) (fun q hq => by
    simp only [List.mem_cons, List.not_mem_nil, or_false] at hq
    subst hq
    · exact zv44) (fun _ h => absurd h List.not_mem_nil) hk
  obtain ⟨hF, hJ1⟩ := h
  rw [hF]
  exact ⟨hk1, hJ1⟩
theorem q227_1 {m : zM} {B : Int} (hk : z_mok lL m) (hJ : JB B m) (hB : B + 0 ≤ 1000000000) : (0 ≤ (f227_1 m) ∧ (f227_1 m) ≤ 1) := by
  obtain ⟨_, r, m1, _, h2, hk1, h⟩ := c227_1 (s := (0, fun _ => 0)) (S := zQ [] []) (m0 := m) (B := B) (d := 14) (Q := fun r m' => ∃ v, r = some (zi v) ∧ f227_1 m = v ∧ (0 ≤ v ∧ v ≤ 1))  (Nat.le_refl _) hJ.j hB  (fun v hb hF => ⟨v, rfl, hF, hb⟩) (fun q hq => by
    simp only [List.mem_cons, List.not_mem_nil, or_false] at hq
    subst hq
    · exact zv44) (fun _ h => absurd h List.not_mem_nil) hk
  obtain ⟨v, hr, hF, h⟩ := h
  rw [hF]
  exact h
theorem q226_1 {m : zM} {B : Int} (hk : z_mok lL m) (hJ : JB B m) (hB : B + 0 ≤ 1000000000) : (0 ≤ (f226_1 m) ∧ (f226_1 m) ≤ 1) := by
  obtain ⟨_, r, m1, _, h2, hk1, h⟩ := c226_1 (s := (0, fun _ => 0)) (S := zQ [] []) (m0 := m) (B := B) (d := 14) (Q := fun r m' => ∃ v, r = some (zi v) ∧ f226_1 m = v ∧ (0 ≤ v ∧ v ≤ 1))  (Nat.le_refl _) hJ.j hB  (fun v hb hF => ⟨v, rfl, hF, hb⟩) (fun q hq => by
    simp only [List.mem_cons, List.not_mem_nil, or_false] at hq
    subst hq
    · exact zv44) (fun _ h => absurd h List.not_mem_nil) hk
  obtain ⟨v, hr, hF, h⟩ := h
  rw [hF]
  exact h
theorem q225_1 {m : zM} {B : Int} (hk : z_mok lL m) (hJ : JB B m) (hB : B + 0 ≤ 1000000000) : (0 ≤ (f225_1 m) ∧ (f225_1 m) ≤ 1) := by
  obtain ⟨_, r, m1, _, h2, hk1, h⟩ := c225_1 (s := (0, fun _ => 0)) (S := zQ [] []) (m0 := m) (B := B) (d := 14) (Q := fun r m' => ∃ v, r = some (zi v) ∧ f225_1 m = v ∧ (0 ≤ v ∧ v ≤ 1))  (Nat.le_refl _) hJ.j hB  (fun v hb hF => ⟨v, rfl, hF, hb⟩) (fun q hq => by
    simp only [List.mem_cons, List.not_mem_nil, or_false] at hq
    subst hq
    · exact zv44) (fun _ h => absurd h List.not_mem_nil) hk
  obtain ⟨v, hr, hF, h⟩ := h
  rw [hF]
  exact h
theorem q228_1 {m : zM} {B : Int} (a1 : Int) (hk : z_mok lL m) (hJ : JB B m) (hB : B + 1 ≤ 1000000000) (ha1 : 2 ≤ a1 ∧ a1 ≤ 4) : z_mok lL (f228_1 a1 m) ∧ J (zQ [26, 29] [4]) m (B + 1) (f228_1 a1 m) := by
  obtain ⟨_, r, m1, _, h2, hk1, h⟩ := c228_1 (s := (0, fun _ => 0)) (S := zQ [26, 29] [4]) (m0 := m) (B := B) (d := 14) (Q := fun r m' => f228_1 a1 m = m' ∧ J (zQ [26, 29] [4]) m (B + 1) m') a1 (Nat.le_refl _) hJ.j hB ha1 (zQ_n rfl) (zQ_n rfl) (zQ_g (by simp)) (fun m' hF hJ' => ⟨hF, hJ'⟩) (fun q hq => by
    simp only [List.mem_cons, List.not_mem_nil, or_false] at hq
    rcases hq with rfl | rfl
    · exact zv44
    · exact (show -2147483648 ≤ a1 ∧ a1 ≤ 2147483647 by omega)) (fun _ h => absurd h List.not_mem_nil) hk
  obtain ⟨hF, hJ1⟩ := h
  rw [hF]
  exact ⟨hk1, hJ1⟩
theorem q228_2 {m : zM} {B : Int} (a1 : Int) (hk : z_mok lL m) (hJ : JB B m) (hB : B + 1 ≤ 1000000000) (ha1 : 0 ≤ a1 ∧ a1 ≤ 1) : z_mok lL (f228_1 a1 m) ∧ J (zQ [26, 29] [4]) m (B + 1) (f228_1 a1 m) := by
  obtain ⟨_, r, m1, _, h2, hk1, h⟩ := c228_2 (s := (0, fun _ => 0)) (S := zQ [26, 29] [4]) (m0 := m) (B := B) (d := 14) (Q := fun r m' => f228_1 a1 m = m' ∧ J (zQ [26, 29] [4]) m (B + 1) m') a1 (Nat.le_refl _) hJ.j hB ha1 (zQ_n rfl) (zQ_n rfl) (zQ_g (by simp)) (fun m' hF hJ' => ⟨hF, hJ'⟩) (fun q hq => by
    simp only [List.mem_cons, List.not_mem_nil, or_false] at hq
    rcases hq with rfl | rfl
    · exact zv44
    · exact (show -2147483648 ≤ a1 ∧ a1 ≤ 2147483647 by omega)) (fun _ h => absurd h List.not_mem_nil) hk
  obtain ⟨hF, hJ1⟩ := h
  rw [hF]
  exact ⟨hk1, hJ1⟩
theorem q229_1 {m : zM} {B : Int} (a1 : Int) (hk : z_mok lL m) (hJ : JB B m) (hB : B + 1 ≤ 1000000000) (ha1 : 2 ≤ a1 ∧ a1 ≤ 4) : z_mok lL (f229_1 a1 m) ∧ J (zQ [26, 29] [4]) m (B + 1) (f229_1 a1 m) := by
  obtain ⟨_, r, m1, _, h2, hk1, h⟩ := c229_1 (s := (0, fun _ => 0)) (S := zQ [26, 29] [4]) (m0 := m) (B := B) (d := 14) (Q := fun r m' => f229_1 a1 m = m' ∧ J (zQ [26, 29] [4]) m (B + 1) m') a1 (Nat.le_refl _) hJ.j hB ha1 (zQ_n rfl) (zQ_n rfl) (zQ_g (by simp)) (fun m' hF hJ' => ⟨hF, hJ'⟩) (fun q hq => by
    simp only [List.mem_cons, List.not_mem_nil, or_false] at hq
    rcases hq with rfl | rfl
    · exact zv44
    · exact (show -2147483648 ≤ a1 ∧ a1 ≤ 2147483647 by omega)) (fun _ h => absurd h List.not_mem_nil) hk
  obtain ⟨hF, hJ1⟩ := h
  rw [hF]
  exact ⟨hk1, hJ1⟩
theorem q229_2 {m : zM} {B : Int} (a1 : Int) (hk : z_mok lL m) (hJ : JB B m) (hB : B + 1 ≤ 1000000000) (ha1 : 0 ≤ a1 ∧ a1 ≤ 1) : z_mok lL (f229_1 a1 m) ∧ J (zQ [26, 29] [4]) m (B + 1) (f229_1 a1 m) := by
  obtain ⟨_, r, m1, _, h2, hk1, h⟩ := c229_2 (s := (0, fun _ => 0)) (S := zQ [26, 29] [4]) (m0 := m) (B := B) (d := 14) (Q := fun r m' => f229_1 a1 m = m' ∧ J (zQ [26, 29] [4]) m (B + 1) m') a1 (Nat.le_refl _) hJ.j hB ha1 (zQ_n rfl) (zQ_n rfl) (zQ_g (by simp)) (fun m' hF hJ' => ⟨hF, hJ'⟩) (fun q hq => by
    simp only [List.mem_cons, List.not_mem_nil, or_false] at hq
    rcases hq with rfl | rfl
    · exact zv44
    · exact (show -2147483648 ≤ a1 ∧ a1 ≤ 2147483647 by omega)) (fun _ h => absurd h List.not_mem_nil) hk
  obtain ⟨hF, hJ1⟩ := h
  rw [hF]
  exact ⟨hk1, hJ1⟩
theorem q224_1 {m : zM} {B : Int} (hk : z_mok lL m) (hJ : JB B m) (hB : B + 8 ≤ 1000000000) : z_mok lL (f224_1 m) ∧ J (zQ [26, 29] [4]) m (B + 8) (f224_1 m) := by
  obtain ⟨_, r, m1, _, h2, hk1, h⟩ := c224_1 (s := (0, fun _ => 0)) (S := zQ [26, 29] [4]) (m0 := m) (B := B) (d := 15) (Q := fun r m' => f224_1 m = m' ∧ J (zQ [26, 29] [4]) m (B + 8) m')  (Nat.le_refl _) hJ.j hB (zQ_n rfl) (zQ_n rfl) (zQ_g (by simp)) (fun m' hF hJ' => ⟨hF, hJ'⟩) (fun q hq => by
    simp only [List.mem_cons, List.not_mem_nil, or_false] at hq
    subst hq
    · exact zv44) (fun _ h => absurd h List.not_mem_nil) hk
  obtain ⟨hF, hJ1⟩ := h
  rw [hF]
  exact ⟨hk1, hJ1⟩
theorem q231_1 {m : zM} {B : Int} (hk : z_mok lL m) (hJ : JB B m) (hB : B + 0 ≤ 1000000000) : (-9223372036854775808 ≤ (f231_1 m) ∧ (f231_1 m) ≤ 9223372036854775807) := by
  obtain ⟨_, r, m1, _, h2, hk1, h⟩ := c231_1 (s := (0, fun _ => 0)) (S := zQ [] []) (m0 := m) (B := B) (d := 13) (Q := fun r m' => ∃ v, r = some (zl v) ∧ f231_1 m = v ∧ (True))  (Nat.le_refl _) hJ.j hB  (fun v hb hF => ⟨v, rfl, hF, hb⟩) (fun q hq => by
    simp only [List.mem_cons, List.not_mem_nil, or_false] at hq
    subst hq
    · exact zv44) (fun _ h => absurd h List.not_mem_nil) hk
  obtain ⟨v, hr, hF, h⟩ := h
  rw [hF]
  exact h2 _ hr
theorem q235_1 {m : zM} {B : Int} (hk : z_mok lL m) (hJ : JB B m) (hB : B + 0 ≤ 1000000000) : (0 ≤ (f235_1 m) ∧ (f235_1 m) ≤ 64) := by
  obtain ⟨_, r, m1, _, h2, hk1, h⟩ := c235_1 (s := (0, fun _ => 0)) (S := zQ [] []) (m0 := m) (B := B) (d := 13) (Q := fun r m' => ∃ v, r = some (zi v) ∧ f235_1 m = v ∧ (0 ≤ v ∧ v ≤ 64))  (Nat.le_refl _) hJ.j hB  (fun v hb hF => ⟨v, rfl, hF, hb⟩) (fun q hq => by
    simp only [List.mem_cons, List.not_mem_nil, or_false] at hq
    subst hq
    · exact zv44) (fun _ h => absurd h List.not_mem_nil) hk
  obtain ⟨v, hr, hF, h⟩ := h
  rw [hF]
  exact h
theorem q233_1 {m : zM} {B : Int} (hk : z_mok lL m) (hJ : JB B m) (hB : B + 0 ≤ 1000000000) : z_mok lL (f233_1 m) ∧ J (zQ [27] [4]) m (B) (f233_1 m) := by
  obtain ⟨_, r, m1, _, h2, hk1, h⟩ := c233_1 (s := (0, fun _ => 0)) (S := zQ [27] [4]) (m0 := m) (B := B) (d := 13) (Q := fun r m' => f233_1 m = m' ∧ J (zQ [27] [4]) m (B) m')  (Nat.le_refl _) hJ.j hB (zQ_n rfl) (zQ_g (by simp)) (fun m' hF hJ' => ⟨hF, hJ'⟩) (fun q hq => by
    simp only [List.mem_cons, List.not_mem_nil, or_false] at hq
    subst hq
    · exact zv44) (fun _ h => absurd h List.not_mem_nil) hk
  obtain ⟨hF, hJ1⟩ := h
  rw [hF]
  exact ⟨hk1, hJ1⟩
theorem q234_1 {m : zM} {B : Int} (a1 a2 : Int) (hk : z_mok lL m) (hJ : JB B m) (hB : B + 0 ≤ 1000000000) (ha1 : (-5) ≤ a1 ∧ a1 ≤ 63) (ha2 : 5 ≤ a2 ∧ a2 ≤ 5) : (-9223372036854775808 ≤ (f234_1 a1 a2 m) ∧ (f234_1 a1 a2 m) ≤ 9223372036854775807) := by
  obtain ⟨_, r, m1, _, h2, hk1, h⟩ := c234_1 (s := (0, fun _ => 0)) (S := zQ [] []) (m0 := m) (B := B) (d := 13) (Q := fun r m' => ∃ v, r = some (zl v) ∧ f234_1 a1 a2 m = v ∧ (True)) a1 a2 (Nat.le_refl _) hJ.j hB ha1 ha2 (fun v hb hF => ⟨v, rfl, hF, hb⟩) (fun q hq => by
    simp only [List.mem_cons, List.not_mem_nil, or_false] at hq
    rcases hq with rfl | rfl | rfl
    · exact zv44
    · exact (show -2147483648 ≤ a1 ∧ a1 ≤ 2147483647 by omega)
    · exact (show -2147483648 ≤ a2 ∧ a2 ≤ 2147483647 by omega)) (fun _ h => absurd h List.not_mem_nil) hk
  obtain ⟨v, hr, hF, h⟩ := h
  rw [hF]
  exact h2 _ hr
theorem q234_2 {m : zM} {B : Int} (a1 a2 : Int) (hk : z_mok lL m) (hJ : JB B m) (hB : B + 0 ≤ 1000000000) (ha1 : 0 ≤ a1 ∧ a1 ≤ 63) (ha2 : 1 ≤ a2 ∧ a2 ≤ 1) : (-9223372036854775808 ≤ (f234_1 a1 a2 m) ∧ (f234_1 a1 a2 m) ≤ 9223372036854775807) := by
  obtain ⟨_, r, m1, _, h2, hk1, h⟩ := c234_2 (s := (0, fun _ => 0)) (S := zQ [] []) (m0 := m) (B := B) (d := 13) (Q := fun r m' => ∃ v, r = some (zl v) ∧ f234_1 a1 a2 m = v ∧ (True)) a1 a2 (Nat.le_refl _) hJ.j hB ha1 ha2 (fun v hb hF => ⟨v, rfl, hF, hb⟩) (fun q hq => by
    simp only [List.mem_cons, List.not_mem_nil, or_false] at hq
    rcases hq with rfl | rfl | rfl
    · exact zv44
    · exact (show -2147483648 ≤ a1 ∧ a1 ≤ 2147483647 by omega)
    · exact (show -2147483648 ≤ a2 ∧ a2 ≤ 2147483647 by omega)) (fun _ h => absurd h List.not_mem_nil) hk
  obtain ⟨v, hr, hF, h⟩ := h
  rw [hF]
  exact h2 _ hr
theorem q234_3 {m : zM} {B : Int} (a1 a2 : Int) (hk : z_mok lL m) (hJ : JB B m) (hB : B + 0 ≤ 1000000000) (ha1 : (-4) ≤ a1 ∧ a1 ≤ 63) (ha2 : 0 ≤ a2 ∧ a2 ≤ 0) : (-9223372036854775808 ≤ (f234_1 a1 a2 m) ∧ (f234_1 a1 a2 m) ≤ 9223372036854775807) := by
  obtain ⟨_, r, m1, _, h2, hk1, h⟩ := c234_3 (s := (0, fun _ => 0)) (S := zQ [] []) (m0 := m) (B := B) (d := 13) (Q := fun r m' => ∃ v, r = some (zl v) ∧ f234_1 a1 a2 m = v ∧ (True)) a1 a2 (Nat.le_refl _) hJ.j hB ha1 ha2 (fun v hb hF => ⟨v, rfl, hF, hb⟩) (fun q hq => by
    simp only [List.mem_cons, List.not_mem_nil, or_false] at hq
    rcases hq with rfl | rfl | rfl
    · exact zv44
    · exact (show -2147483648 ≤ a1 ∧ a1 ≤ 2147483647 by omega)
    · exact (show -2147483648 ≤ a2 ∧ a2 ≤ 2147483647 by omega)) (fun _ h => absurd h List.not_mem_nil) hk
  obtain ⟨v, hr, hF, h⟩ := h
  rw [hF]
  exact h2 _ hr
theorem q234_4 {m : zM} {B : Int} (a1 a2 : Int) (hk : z_mok lL m) (hJ : JB B m) (hB : B + 0 ≤ 1000000000) (ha1 : (-5) ≤ a1 ∧ a1 ≤ 62) (ha2 : 0 ≤ a2 ∧ a2 ≤ 0) : (-9223372036854775808 ≤ (f234_1 a1 a2 m) ∧ (f234_1 a1 a2 m) ≤ 9223372036854775807) := by
  obtain ⟨_, r, m1, _, h2, hk1, h⟩ := c234_4 (s := (0, fun _ => 0)) (S := zQ [] []) (m0 := m) (B := B) (d := 13) (Q := fun r m' => ∃ v, r = some (zl v) ∧ f234_1 a1 a2 m = v ∧ (True)) a1 a2 (Nat.le_refl _) hJ.j hB ha1 ha2 (fun v hb hF => ⟨v, rfl, hF, hb⟩) (fun q hq => by
    simp only [List.mem_cons, List.not_mem_nil, or_false] at hq
    rcases hq with rfl | rfl | rfl
    · exact zv44
    · exact (show -2147483648 ≤ a1 ∧ a1 ≤ 2147483647 by omega)
    · exact (show -2147483648 ≤ a2 ∧ a2 ≤ 2147483647 by omega)) (fun _ h => absurd h List.not_mem_nil) hk
  obtain ⟨v, hr, hF, h⟩ := h
  rw [hF]
  exact h2 _ hr
theorem q234_5 {m : zM} {B : Int} (a1 a2 : Int) (hk : z_mok lL m) (hJ : JB B m) (hB : B + 0 ≤ 1000000000) (ha1 : (-5) ≤ a1 ∧ a1 ≤ 62) (ha2 : 1 ≤ a2 ∧ a2 ≤ 1) : (-9223372036854775808 ≤ (f234_1 a1 a2 m) ∧ (f234_1 a1 a2 m) ≤ 9223372036854775807) := by
  obtain ⟨_, r, m1, _, h2, hk1, h⟩ := c234_5 (s := (0, fun _ => 0)) (S := zQ [] []) (m0 := m) (B := B) (d := 13) (Q := fun r m' => ∃ v, r = some (zl v) ∧ f234_1 a1 a2 m = v ∧ (True)) a1 a2 (Nat.le_refl _) hJ.j hB ha1 ha2 (fun v hb hF => ⟨v, rfl, hF, hb⟩) (fun q hq => by
    simp only [List.mem_cons, List.not_mem_nil, or_false] at hq
    rcases hq with rfl | rfl | rfl
    · exact zv44
    · exact (show -2147483648 ≤ a1 ∧ a1 ≤ 2147483647 by omega)
    · exact (show -2147483648 ≤ a2 ∧ a2 ≤ 2147483647 by omega)) (fun _ h => absurd h List.not_mem_nil) hk
  obtain ⟨v, hr, hF, h⟩ := h
  rw [hF]
  exact h2 _ hr
theorem q234_6 {m : zM} {B : Int} (a1 a2 : Int) (hk : z_mok lL m) (hJ : JB B m) (hB : B + 0 ≤ 1000000000) (ha1 : 0 ≤ a1 ∧ a1 ≤ 0) (ha2 : 1 ≤ a2 ∧ a2 ≤ 4) : (-9223372036854775808 ≤ (f234_1 a1 a2 m) ∧ (f234_1 a1 a2 m) ≤ 9223372036854775807) := by
  obtain ⟨_, r, m1, _, h2, hk1, h⟩ := c234_6 (s := (0, fun _ => 0)) (S := zQ [] []) (m0 := m) (B := B) (d := 13) (Q := fun r m' => ∃ v, r = some (zl v) ∧ f234_1 a1 a2 m = v ∧ (True)) a1 a2 (Nat.le_refl _) hJ.j hB ha1 ha2 (fun v hb hF => ⟨v, rfl, hF, hb⟩) (fun q hq => by
    simp only [List.mem_cons, List.not_mem_nil, or_false] at hq
    rcases hq with rfl | rfl | rfl
    · exact zv44
    · exact (show -2147483648 ≤ a1 ∧ a1 ≤ 2147483647 by omega)
    · exact (show -2147483648 ≤ a2 ∧ a2 ≤ 2147483647 by omega)) (fun _ h => absurd h List.not_mem_nil) hk
  obtain ⟨v, hr, hF, h⟩ := h
  rw [hF]
  exact h2 _ hr
theorem q234_7 {m : zM} {B : Int} (a1 a2 : Int) (hk : z_mok lL m) (hJ : JB B m) (hB : B + 0 ≤ 1000000000) (ha1 : (-64) ≤ a1 ∧ a1 ≤ 63) (ha2 : 0 ≤ a2 ∧ a2 ≤ 5) : (-9223372036854775808 ≤ (f234_1 a1 a2 m) ∧ (f234_1 a1 a2 m) ≤ 9223372036854775807) := by
  obtain ⟨_, r, m1, _, h2, hk1, h⟩ := c234_7 (s := (0, fun _ => 0)) (S := zQ [] []) (m0 := m) (B := B) (d := 13) (Q := fun r m' => ∃ v, r = some (zl v) ∧ f234_1 a1 a2 m = v ∧ (True)) a1 a2 (Nat.le_refl _) hJ.j hB ha1 ha2 (fun v hb hF => ⟨v, rfl, hF, hb⟩) (fun q hq => by
    simp only [List.mem_cons, List.not_mem_nil, or_false] at hq
    rcases hq with rfl | rfl | rfl
    · exact zv44
    · exact (show -2147483648 ≤ a1 ∧ a1 ≤ 2147483647 by omega)
    · exact (show -2147483648 ≤ a2 ∧ a2 ≤ 2147483647 by omega)) (fun _ h => absurd h List.not_mem_nil) hk
  obtain ⟨v, hr, hF, h⟩ := h
  rw [hF]
  exact h2 _ hr
theorem q234_8 {m : zM} {B : Int} (a1 a2 : Int) (hk : z_mok lL m) (hJ : JB B m) (hB : B + 0 ≤ 1000000000) (ha1 : 0 ≤ a1 ∧ a1 ≤ 127) (ha2 : 1 ≤ a2 ∧ a2 ≤ 1) : (-9223372036854775808 ≤ (f234_1 a1 a2 m) ∧ (f234_1 a1 a2 m) ≤ 9223372036854775807) := by
  obtain ⟨_, r, m1, _, h2, hk1, h⟩ := c234_8 (s := (0, fun _ => 0)) (S := zQ [] []) (m0 := m) (B := B) (d := 13) (Q := fun r m' => ∃ v, r = some (zl v) ∧ f234_1 a1 a2 m = v ∧ (True)) a1 a2 (Nat.le_refl _) hJ.j hB ha1 ha2 (fun v hb hF => ⟨v, rfl, hF, hb⟩) (fun q hq => by
    simp only [List.mem_cons, List.not_mem_nil, or_false] at hq
    rcases hq with rfl | rfl | rfl
    · exact zv44
    · exact (show -2147483648 ≤ a1 ∧ a1 ≤ 2147483647 by omega)
    · exact (show -2147483648 ≤ a2 ∧ a2 ≤ 2147483647 by omega)) (fun _ h => absurd h List.not_mem_nil) hk
  obtain ⟨v, hr, hF, h⟩ := h
  rw [hF]
  exact h2 _ hr
theorem q236_1 {m : zM} {B : Int} (hk : z_mok lL m) (hJ : JB B m) (hB : B + 0 ≤ 1000000000) : z_mok lL (f236_1 m) ∧ J (zQ [28] [4]) m (B) (f236_1 m) := by
  obtain ⟨_, r, m1, _, h2, hk1, h⟩ := c236_1 (s := (0, fun _ => 0)) (S := zQ [28] [4]) (m0 := m) (B := B) (d := 16) (Q := fun r m' => f236_1 m = m' ∧ J (zQ [28] [4]) m (B) m')  (Nat.le_refl _) hJ.j hB (zQ_n rfl) (zQ_g (by simp)) (fun m' hF hJ' => ⟨hF, hJ'⟩) (fun q hq => by
    simp only [List.mem_cons, List.not_mem_nil, or_false] at hq
    subst hq
    · exact zv44) (fun _ h => absurd h List.not_mem_nil) hk
  obtain ⟨hF, hJ1⟩ := h
  rw [hF]
  exact ⟨hk1, hJ1⟩
theorem q232_1 {m : zM} {B : Int} (a1 : Int) (hk : z_mok lL m) (hJ : JB B m) (hB : B + 1 ≤ 1000000000) (ha1 : 0 ≤ a1 ∧ a1 ≤ 64) : z_mok lL (f232_1 a1 m) ∧ J (zQ [27, 28] [4]) m (B + 1) (f232_1 a1 m) := by
  obtain ⟨_, r, m1, _, h2, hk1, h⟩ := c232_1 (s := (0, fun _ => 0)) (S := zQ [27, 28] [4]) (m0 := m) (B := B) (d := 17) (Q := fun r m' => f232_1 a1 m = m' ∧ J (zQ [27, 28] [4]) m (B + 1) m') a1 (Nat.le_refl _) hJ.j hB ha1 (zQ_n rfl) (zQ_n rfl) (zQ_g (by simp)) (fun m' hF hJ' => ⟨hF, hJ'⟩) (fun q hq => by
    simp only [List.mem_cons, List.not_mem_nil, or_false] at hq
    rcases hq with rfl | rfl
    · exact zv44
    · exact (show -9223372036854775808 ≤ a1 ∧ a1 ≤ 9223372036854775807 by omega)) (fun _ h => absurd h List.not_mem_nil) hk
  obtain ⟨hF, hJ1⟩ := h
  rw [hF]
  exact ⟨hk1, hJ1⟩
theorem q230_1 {m : zM} {B : Int} (hk : z_mok lL m) (hJ : JB B m) (hB : B + 1 ≤ 1000000000) : z_mok lL (f230_1 m) ∧ J (zQ [27, 28, 31] [4]) m (B + 1) (f230_1 m) := by
  obtain ⟨_, r, m1, _, h2, hk1, h⟩ := c230_1 (s := (0, fun _ => 0)) (S := zQ [27, 28, 31] [4]) (m0 := m) (B := B) (d := 18) (Q := fun r m' => f230_1 m = m' ∧ J (zQ [27, 28, 31] [4]) m (B + 1) m')  (Nat.le_refl _) hJ.j hB (zQ_n rfl) (zQ_n rfl) (zQ_n rfl) (zQ_g (by simp)) (fun m' hF hJ' => ⟨hF, hJ'⟩) (fun q hq => by
    simp only [List.mem_cons, List.not_mem_nil, or_false] at hq
    subst hq
    · exact zv44) (fun _ h => absurd h List.not_mem_nil) hk
  obtain ⟨hF, hJ1⟩ := h
  rw [hF]
  exact ⟨hk1, hJ1⟩
theorem q208_1 {m : zM} {B : Int} (hk : z_mok lL m) (hJ : JB B m) (hB : B + 11 ≤ 1000000000) : z_mok lL (f208_1 m) ∧ J (zQ [26, 27, 28, 29, 30, 31, 32, 33] [4]) m (B + 11) (f208_1 m) := by
  obtain ⟨_, r, m1, _, h2, hk1, h⟩ := c208_1 (s := (0, fun _ => 0)) (S := zQ [26, 27, 28, 29, 30, 31, 32, 33] [4]) (m0 := m) (B := B) (d := 19) (Q := fun r m' => f208_1 m = m' ∧ J (zQ [26, 27, 28, 29, 30, 31, 32, 33] [4]) m (B + 11) m')  (Nat.le_refl _) hJ.j hB (zQ_n rfl) (zQ_n rfl) (zQ_n rfl) (zQ_n rfl) (zQ_n rfl) (zQ_n rfl) (zQ_n rfl) (zQ_n rfl) (zQ_g (by simp)) (fun m' hF hJ' => ⟨hF, hJ'⟩) (fun q hq => by
    simp only [List.mem_cons, List.not_mem_nil, or_false] at hq
    subst hq
    · exact zv44) (fun _ h => absurd h List.not_mem_nil) hk
  obtain ⟨hF, hJ1⟩ := h
  rw [hF]
  exact ⟨hk1, hJ1⟩
theorem q205_1 {m : zM} {B : Int} (a1 a2 : Int) (hk : z_mok lL m) (hJ : JB B m) (hB : B + 11 ≤ 1000000000) (ha1 : (-2147483648) ≤ a1 ∧ a1 ≤ 2147483647) (ha2 : (-2147483648) ≤ a2 ∧ a2 ≤ 2147483647) : z_mok lL (f205_1 a1 a2 m).2 ∧ J (zQ [22, 26, 27, 28, 29, 30, 31, 32, 33] [4]) m (B + 11) (f205_1 a1 a2 m).2 ∧ ((-1) ≤ (f205_1 a1 a2 m).1 ∧ (f205_1 a1 a2 m).1 ≤ 47) := by
  obtain ⟨_, r, m1, _, h2, hk1, h⟩ := c205_1 (s := (0, fun _ => 0)) (S := zQ [22, 26, 27, 28, 29, 30, 31, 32, 33] [4]) (m0 := m) (B := B) (d := 20) (Q := fun r m' => ∃ v, f205_1 a1 a2 m = (v, m') ∧ J (zQ [22, 26, 27, 28, 29, 30, 31, 32, 33] [4]) m (B + 11) m' ∧ ((-1) ≤ v ∧ v ≤ 47)) a1 a2 (Nat.le_refl _) hJ.j hB ha1 ha2 (zQ_n rfl) (zQ_n rfl) (zQ_n rfl) (zQ_n rfl) (zQ_n rfl) (zQ_n rfl) (zQ_n rfl) (zQ_n rfl) (zQ_n rfl) (zQ_g (by simp)) (fun v m' hb hF hJ' => ⟨v, hF, hJ', hb⟩) (fun q hq => by
    simp only [List.mem_cons, List.not_mem_nil, or_false] at hq
    rcases hq with rfl | rfl | rfl
    · exact zv44
    · exact (show -2147483648 ≤ a1 ∧ a1 ≤ 2147483647 by omega)
    · exact (show -2147483648 ≤ a2 ∧ a2 ≤ 2147483647 by omega)) (fun _ h => absurd h List.not_mem_nil) hk
  obtain ⟨v, hF, hJ1, h⟩ := h
  rw [hF]
  exact ⟨hk1, hJ1, h⟩
theorem q72_1 {m : zM} {B : Int} (g0 : Nat) (a1 a2 : Int) (hk : z_mok lL m) (hJ : JB B m) (hB : B + 0 ≤ 1000000000) (hg0 : g0 < 3) (ha1 : 0 ≤ a1 ∧ a1 ≤ 24) (ha2 : (-1) ≤ a2 ∧ a2 ≤ 3) : (-9223372036854775808 ≤ (f72_1 g0 a1 a2 m) ∧ (f72_1 g0 a1 a2 m) ≤ 9223372036854775807) := by
  obtain ⟨_, r, m1, _, h2, hk1, h⟩ := c72_1 (s := (0, fun _ => 0)) (S := zQ [] []) (m0 := m) (B := B) (d := 13) (Q := fun r m' => ∃ v, r = some (zl v) ∧ f72_1 g0 a1 a2 m = v ∧ (True)) g0 a1 a2 (Nat.le_refl _) hJ.j hB ha1 ha2 (fun v hb hF => ⟨v, rfl, hF, hb⟩) (fun q hq => by
    simp only [List.mem_cons, List.not_mem_nil, or_false] at hq
    rcases hq with rfl | rfl | rfl
    · exact zv24 hg0
    · exact (show -2147483648 ≤ a1 ∧ a1 ≤ 2147483647 by omega)
    · exact (show -2147483648 ≤ a2 ∧ a2 ≤ 2147483647 by omega)) (fun _ h => absurd h List.not_mem_nil) hk
  obtain ⟨v, hr, hF, h⟩ := h
  rw [hF]
  exact h2 _ hr
theorem q71_1 {m : zM} {B : Int} (g0 : Nat) (a1 a2 : Int) (hk : z_mok lL m) (hJ : JB B m) (hB : B + 0 ≤ 1000000000) (hg0 : g0 < 3) (ha1 : 0 ≤ a1 ∧ a1 ≤ 0) (ha2 : (-1) ≤ a2 ∧ a2 ≤ (-1)) : (-9223372036854775808 ≤ (f71_1 g0 a1 a2 m) ∧ (f71_1 g0 a1 a2 m) ≤ 9223372036854775807) := by
  obtain ⟨_, r, m1, _, h2, hk1, h⟩ := c71_1 (s := (0, fun _ => 0)) (S := zQ [] []) (m0 := m) (B := B) (d := 14) (Q := fun r m' => ∃ v, r = some (zl v) ∧ f71_1 g0 a1 a2 m = v ∧ (True)) g0 a1 a2 (Nat.le_refl _) hJ.j hB ha1 ha2 (fun v hb hF => ⟨v, rfl, hF, hb⟩) (fun q hq => by
    simp only [List.mem_cons, List.not_mem_nil, or_false] at hq
    rcases hq with rfl | rfl | rfl
    · exact zv23 hg0
    · exact (show -2147483648 ≤ a1 ∧ a1 ≤ 2147483647 by omega)
    · exact (show -2147483648 ≤ a2 ∧ a2 ≤ 2147483647 by omega)) (fun _ h => absurd h List.not_mem_nil) hk
  obtain ⟨v, hr, hF, h⟩ := h
  rw [hF]
  exact h2 _ hr
theorem q71_2 {m : zM} {B : Int} (g0 : Nat) (a1 a2 : Int) (hk : z_mok lL m) (hJ : JB B m) (hB : B + 0 ≤ 1000000000) (hg0 : g0 < 3) (ha1 : 0 ≤ a1 ∧ a1 ≤ 6) (ha2 : (-1) ≤ a2 ∧ a2 ≤ (-1)) : (-9223372036854775808 ≤ (f71_1 g0 a1 a2 m) ∧ (f71_1 g0 a1 a2 m) ≤ 9223372036854775807) := by
  obtain ⟨_, r, m1, _, h2, hk1, h⟩ := c71_2 (s := (0, fun _ => 0)) (S := zQ [] []) (m0 := m) (B := B) (d := 14) (Q := fun r m' => ∃ v, r = some (zl v) ∧ f71_1 g0 a1 a2 m = v ∧ (True)) g0 a1 a2 (Nat.le_refl _) hJ.j hB ha1 ha2 (fun v hb hF => ⟨v, rfl, hF, hb⟩) (fun q hq => by
    simp only [List.mem_cons, List.not_mem_nil, or_false] at hq
    rcases hq with rfl | rfl | rfl
    · exact zv23 hg0
    · exact (show -2147483648 ≤ a1 ∧ a1 ≤ 2147483647 by omega)
    · exact (show -2147483648 ≤ a2 ∧ a2 ≤ 2147483647 by omega)) (fun _ h => absurd h List.not_mem_nil) hk
  obtain ⟨v, hr, hF, h⟩ := h
  rw [hF]
  exact h2 _ hr
theorem q71_3 {m : zM} {B : Int} (g0 : Nat) (a1 a2 : Int) (hk : z_mok lL m) (hJ : JB B m) (hB : B + 0 ≤ 1000000000) (hg0 : g0 < 3) (ha1 : 0 ≤ a1 ∧ a1 ≤ 6) (ha2 : 0 ≤ a2 ∧ a2 ≤ 3) : (-9223372036854775808 ≤ (f71_1 g0 a1 a2 m) ∧ (f71_1 g0 a1 a2 m) ≤ 9223372036854775807) := by
  obtain ⟨_, r, m1, _, h2, hk1, h⟩ := c71_3 (s := (0, fun _ => 0)) (S := zQ [] []) (m0 := m) (B := B) (d := 14) (Q := fun r m' => ∃ v, r = some (zl v) ∧ f71_1 g0 a1 a2 m = v ∧ (True)) g0 a1 a2 (Nat.le_refl _) hJ.j hB ha1 ha2 (fun v hb hF => ⟨v, rfl, hF, hb⟩) (fun q hq => by
    simp only [List.mem_cons, List.not_mem_nil, or_false] at hq
    rcases hq with rfl | rfl | rfl
    · exact zv23 hg0
    · exact (show -2147483648 ≤ a1 ∧ a1 ≤ 2147483647 by omega)
    · exact (show -2147483648 ≤ a2 ∧ a2 ≤ 2147483647 by omega)) (fun _ h => absurd h List.not_mem_nil) hk
  obtain ⟨v, hr, hF, h⟩ := h
  rw [hF]
  exact h2 _ hr
theorem q70_1 {m : zM} {B : Int} (g0 : Nat) (a1 : Int) (hk : z_mok lL m) (hJ : JB B m) (hB : B + 0 ≤ 1000000000) (hg0 : g0 < 3) (ha1 : 0 ≤ a1 ∧ a1 ≤ 0) : (-9223372036854775808 ≤ (f70_1 g0 a1 m) ∧ (f70_1 g0 a1 m) ≤ 9223372036854775807) := by
  obtain ⟨_, r, m1, _, h2, hk1, h⟩ := c70_1 (s := (0, fun _ => 0)) (S := zQ [] []) (m0 := m) (B := B) (d := 15) (Q := fun r m' => ∃ v, r = some (zl v) ∧ f70_1 g0 a1 m = v ∧ (True)) g0 a1 (Nat.le_refl _) hJ.j hB ha1 (fun v hb hF => ⟨v, rfl, hF, hb⟩) (fun q hq => by
    simp only [List.mem_cons, List.not_mem_nil, or_false] at hq
    rcases hq with rfl | rfl
    · exact zv8 hg0
    · exact (show -2147483648 ≤ a1 ∧ a1 ≤ 2147483647 by omega)) (fun _ h => absurd h List.not_mem_nil) hk
  obtain ⟨v, hr, hF, h⟩ := h
  rw [hF]
  exact h2 _ hr
theorem q70_2 {m : zM} {B : Int} (g0 : Nat) (a1 : Int) (hk : z_mok lL m) (hJ : JB B m) (hB : B + 0 ≤ 1000000000) (hg0 : g0 < 3) (ha1 : 1 ≤ a1 ∧ a1 ≤ 1) : (-9223372036854775808 ≤ (f70_1 g0 a1 m) ∧ (f70_1 g0 a1 m) ≤ 9223372036854775807) := by
  obtain ⟨_, r, m1, _, h2, hk1, h⟩ := c70_2 (s := (0, fun _ => 0)) (S := zQ [] []) (m0 := m) (B := B) (d := 15) (Q := fun r m' => ∃ v, r = some (zl v) ∧ f70_1 g0 a1 m = v ∧ (True)) g0 a1 (Nat.le_refl _) hJ.j hB ha1 (fun v hb hF => ⟨v, rfl, hF, hb⟩) (fun q hq => by
    simp only [List.mem_cons, List.not_mem_nil, or_false] at hq
    rcases hq with rfl | rfl
    · exact zv8 hg0
    · exact (show -2147483648 ≤ a1 ∧ a1 ≤ 2147483647 by omega)) (fun _ h => absurd h List.not_mem_nil) hk
  obtain ⟨v, hr, hF, h⟩ := h
  rw [hF]
  exact h2 _ hr
theorem q69_1 {m : zM} {B : Int} (a1 : Int) (hk : z_mok lL m) (hJ : JB B m) (hB : B + 7208 ≤ 1000000000) (ha1 : (-2147483648) ≤ a1 ∧ a1 ≤ 2147483647) : z_mok lL (f69_1 a1 m).2 ∧ J (zQ [6, 7, 8, 9, 10, 11, 12, 13] [0]) m (B + 7208) (f69_1 a1 m).2 ∧ (-9223372036854775808 ≤ (f69_1 a1 m).1 ∧ (f69_1 a1 m).1 ≤ 9223372036854775807) := by
  obtain ⟨_, r, m1, _, h2, hk1, h⟩ := c69_1 (s := (0, fun _ => 0)) (S := zQ [6, 7, 8, 9, 10, 11, 12, 13] [0]) (m0 := m) (B := B) (d := 19) (Q := fun r m' => ∃ v, r = some (zl v) ∧ f69_1 a1 m = (v, m') ∧ J (zQ [6, 7, 8, 9, 10, 11, 12, 13] [0]) m (B + 7208) m' ∧ (True)) a1 (Nat.le_refl _) hJ.j hB ha1 (zQ_n rfl) (zQ_n rfl) (zQ_n rfl) (zQ_n rfl) (zQ_n rfl) (zQ_n rfl) (zQ_n rfl) (zQ_n rfl) (zQ_g (by simp)) (fun v m' hb hF hJ' => ⟨v, rfl, hF, hJ', hb⟩) (fun q hq => by
    simp only [List.mem_cons, List.not_mem_nil, or_false] at hq
    rcases hq with rfl | rfl
    · exact zv40
    · exact (show -2147483648 ≤ a1 ∧ a1 ≤ 2147483647 by omega)) (fun _ h => absurd h List.not_mem_nil) hk
  obtain ⟨v, hr, hF, hJ1, h⟩ := h
  rw [hF]
  exact ⟨hk1, hJ1, h2 _ hr⟩
theorem q279_1 {m : zM} {B : Int} (a1 : Int) (hk : z_mok lL m) (hJ : JB B m) (hB : B + 9911 ≤ 1000000000) (ha1 : (-2147483648) ≤ a1 ∧ a1 ≤ 2147483647) : z_mok lL (f279_1 a1 m).2 ∧ J (zQ [26, 27, 28, 29, 30, 31, 32, 33] [4]) m (B + 9911) (f279_1 a1 m).2 ∧ (-9223372036854775808 ≤ (f279_1 a1 m).1 ∧ (f279_1 a1 m).1 ≤ 9223372036854775807) := by
  obtain ⟨_, r, m1, _, h2, hk1, h⟩ := c279_1 (s := (0, fun _ => 0)) (S := zQ [26, 27, 28, 29, 30, 31, 32, 33] [4]) (m0 := m) (B := B) (d := 20) (Q := fun r m' => ∃ v, r = some (zl v) ∧ f279_1 a1 m = (v, m') ∧ J (zQ [26, 27, 28, 29, 30, 31, 32, 33] [4]) m (B + 9911) m' ∧ (True)) a1 (Nat.le_refl _) hJ.j hB ha1 (zQ_n rfl) (zQ_n rfl) (zQ_n rfl) (zQ_n rfl) (zQ_n rfl) (zQ_n rfl) (zQ_n rfl) (zQ_n rfl) (zQ_g (by simp)) (fun v m' hb hF hJ' => ⟨v, rfl, hF, hJ', hb⟩) (fun q hq => by
    simp only [List.mem_cons, List.not_mem_nil, or_false] at hq
    rcases hq with rfl | rfl
    · exact zv44
    · exact (show -2147483648 ≤ a1 ∧ a1 ≤ 2147483647 by omega)) (fun _ h => absurd h List.not_mem_nil) hk
  obtain ⟨v, hr, hF, hJ1, h⟩ := h
  rw [hF]
  exact ⟨hk1, hJ1, h2 _ hr⟩
theorem q76_1 {m : zM} {B : Int} (a0 : Int) (hk : z_mok lL m) (hJ : JB B m) (hB : B + 0 ≤ 1000000000) (ha0 : (-2147483648) ≤ a0 ∧ a0 ≤ 2147483647) : ((-1) ≤ (f76_1 a0 m) ∧ (f76_1 a0 m) ≤ 12) ∧ (a0 = 5 → (f76_1 a0 m) = 5) ∧ ((f76_1 a0 m) = 5 → a0 = 5) := by
  obtain ⟨_, r, m1, _, h2, hk1, h⟩ := c76_1 (s := (0, fun _ => 0)) (S := zQ [] []) (m0 := m) (B := B) (d := 13) (Q := fun r m' => ∃ v, r = some (zi v) ∧ f76_1 a0 m = v ∧ ((-1) ≤ v ∧ v ≤ 12) ∧ (a0 = 5 → v = 5) ∧ (v = 5 → a0 = 5)) a0 (Nat.le_refl _) hJ.j hB ha0 (fun v hb hF p0 p1 => ⟨v, rfl, hF, hb, p0, p1⟩) (fun q hq => by
    simp only [List.mem_cons, List.not_mem_nil, or_false] at hq
    subst hq
    · exact (show -2147483648 ≤ a0 ∧ a0 ≤ 2147483647 by omega)) (fun _ h => absurd h List.not_mem_nil) hk
  obtain ⟨v, hr, hF, h⟩ := h
  rw [hF]
  exact h
theorem q75_1 {m : zM} {B : Int} (g0 : Nat) (a1 a2 : Int) (hk : z_mok lL m) (hJ : JB B m) (hB : B + 0 ≤ 1000000000) (hg0 : g0 < 3) (ha1 : (-2147483648) ≤ a1 ∧ a1 ≤ 2147483647) (ha2 : (-2147483648) ≤ a2 ∧ a2 ≤ 2147483647) : (0 ≤ (f75_1 g0 a1 a2 m) ∧ (f75_1 g0 a1 a2 m) ≤ 1) ∧ ((f75_1 g0 a1 a2 m) = 1 → 0 ≤ a2 ∧ a2 ≤ 1000000) ∧ ((f75_1 g0 a1 a2 m) = 1 → a1 = 5 → 1 ≤ a2 ∧ a2 ≤ 6) := by
  obtain ⟨_, r, m1, _, h2, hk1, h⟩ := c75_1 (s := (0, fun _ => 0)) (S := zQ [] []) (m0 := m) (B := B) (d := 14) (Q := fun r m' => ∃ v, r = some (zi v) ∧ f75_1 g0 a1 a2 m = v ∧ (0 ≤ v ∧ v ≤ 1) ∧ (v = 1 → 0 ≤ a2 ∧ a2 ≤ 1000000) ∧ (v = 1 → a1 = 5 → 1 ≤ a2 ∧ a2 ≤ 6)) g0 a1 a2 (Nat.le_refl _) hJ.j hB ha1 ha2 (fun v hb hF p0 p1 => ⟨v, rfl, hF, hb, p0, p1⟩) (fun q hq => by
    simp only [List.mem_cons, List.not_mem_nil, or_false] at hq
    rcases hq with rfl | rfl | rfl
    · exact zv9 hg0
    · exact (show -2147483648 ≤ a1 ∧ a1 ≤ 2147483647 by omega)
    · exact (show -2147483648 ≤ a2 ∧ a2 ≤ 2147483647 by omega)) (fun _ h => absurd h List.not_mem_nil) hk
  obtain ⟨v, hr, hF, h⟩ := h
  rw [hF]
  exact h
theorem q77_1 {m : zM} {B : Int} (g0 : Nat) (a1 a2 : Int) (hk : z_mok lL m) (hJ : JB B m) (hB : B + 0 ≤ 1000000000) (hg0 : g0 < 3) (ha1 : (-2147483648) ≤ a1 ∧ a1 ≤ 2147483647) (ha2 : 0 ≤ a2 ∧ a2 ≤ 1000000) (hp0 : a1 = 5 → 1 ≤ a2 ∧ a2 ≤ 6) : z_mok lL (f77_1 g0 a1 a2 m) ∧ J (zQ [3] [g0]) m (B) (f77_1 g0 a1 a2 m) := by
  obtain ⟨_, r, m1, _, h2, hk1, h⟩ := c77_1 (s := (0, fun _ => 0)) (S := zQ [3] [g0]) (m0 := m) (B := B) (d := 14) (Q := fun r m' => f77_1 g0 a1 a2 m = m' ∧ J (zQ [3] [g0]) m (B) m') g0 a1 a2 (Nat.le_refl _) hJ.j hB ha1 ha2 hp0 (zQ_n rfl) (zQ_g (by simp)) (fun m' hF hJ' => ⟨hF, hJ'⟩) (fun q hq => by
    simp only [List.mem_cons, List.not_mem_nil, or_false] at hq
    rcases hq with rfl | rfl | rfl
    · exact zv9 hg0
    · exact (show -2147483648 ≤ a1 ∧ a1 ≤ 2147483647 by omega)
    · exact (show -2147483648 ≤ a2 ∧ a2 ≤ 2147483647 by omega)) (fun _ h => absurd h List.not_mem_nil) hk
  obtain ⟨hF, hJ1⟩ := h
  rw [hF]
  exact ⟨hk1, hJ1⟩
theorem q77_2 {m : zM} {B : Int} (g0 : Nat) (a1 a2 : Int) (hk : z_mok lL m) (hJ : JB B m) (hB : B + 0 ≤ 1000000000) (hg0 : g0 < 3) (ha1 : (-2147483648) ≤ a1 ∧ a1 ≤ 2147483647) (ha2 : 0 ≤ a2 ∧ a2 ≤ 1000000) (hp0 : a1 = 5 → 1 ≤ a2 ∧ a2 ≤ 6) : z_mok lL (f77_1 g0 a1 a2 m) ∧ J (zQ [3] [g0]) m (B) (f77_1 g0 a1 a2 m) := by
  obtain ⟨_, r, m1, _, h2, hk1, h⟩ := c77_2 (s := (0, fun _ => 0)) (S := zQ [3] [g0]) (m0 := m) (B := B) (d := 14) (Q := fun r m' => f77_1 g0 a1 a2 m = m' ∧ J (zQ [3] [g0]) m (B) m') g0 a1 a2 (Nat.le_refl _) hJ.j hB ha1 ha2 hp0 (zQ_n rfl) (zQ_g (by simp)) (fun m' hF hJ' => ⟨hF, hJ'⟩) (fun q hq => by
    simp only [List.mem_cons, List.not_mem_nil, or_false] at hq
    rcases hq with rfl | rfl | rfl
    · exact zv9 hg0
    · exact (show -2147483648 ≤ a1 ∧ a1 ≤ 2147483647 by omega)
    · exact (show -2147483648 ≤ a2 ∧ a2 ≤ 2147483647 by omega)) (fun _ h => absurd h List.not_mem_nil) hk
  obtain ⟨hF, hJ1⟩ := h
  rw [hF]
  exact ⟨hk1, hJ1⟩
theorem q74_1 {m : zM} {B : Int} (g0 : Nat) (a1 a2 : Int) (hk : z_mok lL m) (hJ : JB B m) (hB : B + 1 ≤ 1000000000) (hg0 : g0 < 3) (ha1 : (-2147483648) ≤ a1 ∧ a1 ≤ 2147483647) (ha2 : (-2147483648) ≤ a2 ∧ a2 ≤ 2147483647) : z_mok lL (f74_1 g0 a1 a2 m).2 ∧ J (zQ [3, 7] [g0]) m (B + 1) (f74_1 g0 a1 a2 m).2 ∧ (0 ≤ (f74_1 g0 a1 a2 m).1 ∧ (f74_1 g0 a1 a2 m).1 ≤ 1) := by
  obtain ⟨_, r, m1, _, h2, hk1, h⟩ := c74_1 (s := (0, fun _ => 0)) (S := zQ [3, 7] [g0]) (m0 := m) (B := B) (d := 15) (Q := fun r m' => ∃ v, f74_1 g0 a1 a2 m = (v, m') ∧ J (zQ [3, 7] [g0]) m (B + 1) m' ∧ (0 ≤ v ∧ v ≤ 1)) g0 a1 a2 (Nat.le_refl _) hJ.j hB ha1 ha2 (zQ_n rfl) (zQ_n rfl) (zQ_g (by simp)) (fun v m' hb hF hJ' => ⟨v, hF, hJ', hb⟩) (fun q hq => by
    simp only [List.mem_cons, List.not_mem_nil, or_false] at hq
    rcases hq with rfl | rfl | rfl
    · exact zv8 hg0
    · exact (show -2147483648 ≤ a1 ∧ a1 ≤ 2147483647 by omega)
    · exact (show -2147483648 ≤ a2 ∧ a2 ≤ 2147483647 by omega)) (fun _ h => absurd h List.not_mem_nil) hk
  obtain ⟨v, hF, hJ1, h⟩ := h
  rw [hF]
  exact ⟨hk1, hJ1, h⟩
theorem q73_1 {m : zM} {B : Int} (a1 a2 : Int) (hk : z_mok lL m) (hJ : JB B m) (hB : B + 1 ≤ 1000000000) (ha1 : (-2147483648) ≤ a1 ∧ a1 ≤ 2147483647) (ha2 : (-2147483648) ≤ a2 ∧ a2 ≤ 2147483647) : z_mok lL (f73_1 a1 a2 m).2 ∧ J (zQ [3, 4, 7] [0]) m (B + 1) (f73_1 a1 a2 m).2 ∧ (0 ≤ (f73_1 a1 a2 m).1 ∧ (f73_1 a1 a2 m).1 ≤ 1) := by
  obtain ⟨_, r, m1, _, h2, hk1, h⟩ := c73_1 (s := (0, fun _ => 0)) (S := zQ [3, 4, 7] [0]) (m0 := m) (B := B) (d := 16) (Q := fun r m' => ∃ v, f73_1 a1 a2 m = (v, m') ∧ J (zQ [3, 4, 7] [0]) m (B + 1) m' ∧ (0 ≤ v ∧ v ≤ 1)) a1 a2 (Nat.le_refl _) hJ.j hB ha1 ha2 (zQ_n rfl) (zQ_n rfl) (zQ_n rfl) (zQ_g (by simp)) (fun v m' hb hF hJ' => ⟨v, hF, hJ', hb⟩) (fun q hq => by
    simp only [List.mem_cons, List.not_mem_nil, or_false] at hq
    rcases hq with rfl | rfl | rfl
    · exact zv40
    · exact (show -2147483648 ≤ a1 ∧ a1 ≤ 2147483647 by omega)
    · exact (show -2147483648 ≤ a2 ∧ a2 ≤ 2147483647 by omega)) (fun _ h => absurd h List.not_mem_nil) hk
  obtain ⟨v, hF, hJ1, h⟩ := h
  rw [hF]
  exact ⟨hk1, hJ1, h⟩
theorem q280_1 {m : zM} {B : Int} (a1 a2 : Int) (hk : z_mok lL m) (hJ : JB B m) (hB : B + 1 ≤ 1000000000) (ha1 : (-2147483648) ≤ a1 ∧ a1 ≤ 2147483647) (ha2 : (-2147483648) ≤ a2 ∧ a2 ≤ 2147483647) : z_mok lL (f280_1 a1 a2 m).2 ∧ J (zQ [23, 24, 27, 28] [4]) m (B + 1) (f280_1 a1 a2 m).2 ∧ (0 ≤ (f280_1 a1 a2 m).1 ∧ (f280_1 a1 a2 m).1 ≤ 1) := by
  obtain ⟨_, r, m1, _, h2, hk1, h⟩ := c280_1 (s := (0, fun _ => 0)) (S := zQ [23, 24, 27, 28] [4]) (m0 := m) (B := B) (d := 18) (Q := fun r m' => ∃ v, f280_1 a1 a2 m = (v, m') ∧ J (zQ [23, 24, 27, 28] [4]) m (B + 1) m' ∧ (0 ≤ v ∧ v ≤ 1)) a1 a2 (Nat.le_refl _) hJ.j hB ha1 ha2 (zQ_n rfl) (zQ_n rfl) (zQ_n rfl) (zQ_n rfl) (zQ_g (by simp)) (fun v m' hb hF hJ' => ⟨v, hF, hJ', hb⟩) (fun q hq => by
    simp only [List.mem_cons, List.not_mem_nil, or_false] at hq
    rcases hq with rfl | rfl | rfl
    · exact zv44
    · exact (show -2147483648 ≤ a1 ∧ a1 ≤ 2147483647 by omega)
    · exact (show -2147483648 ≤ a2 ∧ a2 ≤ 2147483647 by omega)) (fun _ h => absurd h List.not_mem_nil) hk
  obtain ⟨v, hF, hJ1, h⟩ := h
  rw [hF]
  exact ⟨hk1, hJ1, h⟩
theorem q82_1 {m : zM} {B : Int} (g0 : Nat) (a1 a2 : Int) (hk : z_mok lL m) (hJ : JB B m) (hB : B + 0 ≤ 1000000000) (hg0 : g0 < 4) (ha1 : 0 ≤ a1 ∧ a1 ≤ 7) (ha2 : 0 ≤ a2 ∧ a2 ≤ 86399) : (0 ≤ (f82_1 g0 a1 a2 m) ∧ (f82_1 g0 a1 a2 m) ≤ 1) ∧ ((f82_1 g0 a1 a2 m) = 1 → f32_1 g0 a1 a2 m < m g0 12 a1) := by
  obtain ⟨_, r, m1, _, h2, hk1, h⟩ := c82_1 (s := (0, fun _ => 0)) (S := zQ [] []) (m0 := m) (B := B) (d := 14) (Q := fun r m' => ∃ v, r = some (zi v) ∧ f82_1 g0 a1 a2 m = v ∧ (0 ≤ v ∧ v ≤ 1) ∧ (v = 1 → f32_1 g0 a1 a2 m < m g0 12 a1)) g0 a1 a2 (Nat.le_refl _) hJ.j hB ha1 ha2 (fun v hb hF p0 => ⟨v, rfl, hF, hb, p0⟩) (fun q hq => by
    simp only [List.mem_cons, List.not_mem_nil, or_false] at hq
    rcases hq with rfl | rfl | rfl
    · exact zv11 hg0
    · exact (show -2147483648 ≤ a1 ∧ a1 ≤ 2147483647 by omega)
    · exact (show -2147483648 ≤ a2 ∧ a2 ≤ 2147483647 by omega)) (fun _ h => absurd h List.not_mem_nil) hk
  obtain ⟨v, hr, hF, h⟩ := h
  rw [hF]
  exact h
theorem q81_1 {m : zM} {B : Int} (g0 : Nat) (a1 a2 a3 : Int) (hk : z_mok lL m) (hJ : JB B m) (hB : B + 0 ≤ 1000000000) (hg0 : g0 < 4) (ha1 : 0 ≤ a1 ∧ a1 ≤ 7) (ha2 : 0 ≤ a2 ∧ a2 ≤ 86399) (ha3 : 0 ≤ a3 ∧ a3 ≤ 3) : z_mok lL (f81_1 g0 a1 a2 a3 m).2 ∧ J (zQ [1] [g0]) m (B) (f81_1 g0 a1 a2 a3 m).2 ∧ ((-1) ≤ (f81_1 g0 a1 a2 a3 m).1 ∧ (f81_1 g0 a1 a2 a3 m).1 ≤ 6) := by
  obtain ⟨_, r, m1, _, h2, hk1, h⟩ := c81_1 (s := (0, fun _ => 0)) (S := zQ [1] [g0]) (m0 := m) (B := B) (d := 15) (Q := fun r m' => ∃ v, f81_1 g0 a1 a2 a3 m = (v, m') ∧ J (zQ [1] [g0]) m (B) m' ∧ ((-1) ≤ v ∧ v ≤ 6)) g0 a1 a2 a3 (Nat.le_refl _) hJ.j hB ha1 ha2 ha3 (zQ_n rfl) (zQ_g (by simp)) (fun v m' hb hF hJ' => ⟨v, hF, hJ', hb⟩) (fun q hq => by
    simp only [List.mem_cons, List.not_mem_nil, or_false] at hq
    rcases hq with rfl | rfl | rfl | rfl
    · exact zv11 hg0
    · exact (show -2147483648 ≤ a1 ∧ a1 ≤ 2147483647 by omega)
    · exact (show -2147483648 ≤ a2 ∧ a2 ≤ 2147483647 by omega)
    · exact (show -2147483648 ≤ a3 ∧ a3 ≤ 2147483647 by omega)) (fun _ h => absurd h List.not_mem_nil) hk
  obtain ⟨v, hF, hJ1, h⟩ := h
  rw [hF]
  exact ⟨hk1, hJ1, h⟩
theorem q78_1 {m : zM} {B : Int} (a1 a2 a3 : Int) (hk : z_mok lL m) (hJ : JB B m) (hB : B + 0 ≤ 1000000000) (ha1 : (-2147483648) ≤ a1 ∧ a1 ≤ 2147483647) (ha2 : (-2147483648) ≤ a2 ∧ a2 ≤ 2147483647) (ha3 : (-2147483648) ≤ a3 ∧ a3 ≤ 2147483647) : z_mok lL (f78_1 a1 a2 a3 m).2 ∧ J (zQ [1, 4] [0]) m (B) (f78_1 a1 a2 a3 m).2 ∧ ((-1) ≤ (f78_1 a1 a2 a3 m).1 ∧ (f78_1 a1 a2 a3 m).1 ≤ 6) := by
  obtain ⟨_, r, m1, _, h2, hk1, h⟩ := c78_1 (s := (0, fun _ => 0)) (S := zQ [1, 4] [0]) (m0 := m) (B := B) (d := 16) (Q := fun r m' => ∃ v, f78_1 a1 a2 a3 m = (v, m') ∧ J (zQ [1, 4] [0]) m (B) m' ∧ ((-1) ≤ v ∧ v ≤ 6)) a1 a2 a3 (Nat.le_refl _) hJ.j hB ha1 ha2 ha3 (zQ_n rfl) (zQ_n rfl) (zQ_g (by simp)) (fun v m' hb hF hJ' => ⟨v, hF, hJ', hb⟩) (fun q hq => by
    simp only [List.mem_cons, List.not_mem_nil, or_false] at hq
    rcases hq with rfl | rfl | rfl | rfl
    · exact zv40
    · exact (show -2147483648 ≤ a1 ∧ a1 ≤ 2147483647 by omega)
    · exact (show -2147483648 ≤ a2 ∧ a2 ≤ 2147483647 by omega)
    · exact (show -2147483648 ≤ a3 ∧ a3 ≤ 2147483647 by omega)) (fun _ h => absurd h List.not_mem_nil) hk
  obtain ⟨v, hF, hJ1, h⟩ := h
  rw [hF]
  exact ⟨hk1, hJ1, h⟩
theorem q243_1 {m : zM} {B : Int} (a1 a2 a3 : Int) (hk : z_mok lL m) (hJ : JB B m) (hB : B + 0 ≤ 1000000000) (ha1 : 0 ≤ a1 ∧ a1 ≤ 7) (ha2 : 0 ≤ a2 ∧ a2 ≤ 86399) (ha3 : 0 ≤ a3 ∧ a3 ≤ 3) : z_mok lL (f243_1 a1 a2 a3 m).2 ∧ J (zQ [21] [4]) m (B) (f243_1 a1 a2 a3 m).2 ∧ ((-1) ≤ (f243_1 a1 a2 a3 m).1 ∧ (f243_1 a1 a2 a3 m).1 ≤ 6) ∧ (m 4 44 8 ≤ (f243_1 a1 a2 a3 m).2 4 44 8) ∧ (m 4 44 9 ≤ (f243_1 a1 a2 a3 m).2 4 44 9) := by
  obtain ⟨_, r, m1, _, h2, hk1, h⟩ := c243_1 (s := (0, fun _ => 0)) (S := zQ [21] [4]) (m0 := m) (B := B) (d := 13) (Q := fun r m' => ∃ v, f243_1 a1 a2 a3 m = (v, m') ∧ J (zQ [21] [4]) m (B) m' ∧ ((-1) ≤ v ∧ v ≤ 6) ∧ (m 4 44 8 ≤ m' 4 44 8) ∧ (m 4 44 9 ≤ m' 4 44 9)) a1 a2 a3 (Nat.le_refl _) hJ.j hB ha1 ha2 ha3 (zQ_n rfl) (zQ_g (by simp)) (fun v m' hb hF hJ' p0 p1 => ⟨v, hF, hJ', hb, p0, p1⟩) (fun q hq => by
    simp only [List.mem_cons, List.not_mem_nil, or_false] at hq
    rcases hq with rfl | rfl | rfl | rfl
    · exact zv44
    · exact (show -2147483648 ≤ a1 ∧ a1 ≤ 2147483647 by omega)
    · exact (show -2147483648 ≤ a2 ∧ a2 ≤ 2147483647 by omega)
    · exact (show -2147483648 ≤ a3 ∧ a3 ≤ 2147483647 by omega)) (fun _ h => absurd h List.not_mem_nil) hk
  obtain ⟨v, hF, hJ1, h⟩ := h
  rw [hF]
  exact ⟨hk1, hJ1, h⟩
theorem q240_1 {m : zM} {B : Int} (a1 a2 a3 : Int) (hk : z_mok lL m) (hJ : JB B m) (hB : B + 0 ≤ 1000000000) (ha1 : (-2147483648) ≤ a1 ∧ a1 ≤ 2147483647) (ha2 : (-2147483648) ≤ a2 ∧ a2 ≤ 2147483647) (ha3 : (-2147483648) ≤ a3 ∧ a3 ≤ 2147483647) : z_mok lL (f240_1 a1 a2 a3 m).2 ∧ J (zQ [21, 24] [4]) m (B) (f240_1 a1 a2 a3 m).2 ∧ ((-1) ≤ (f240_1 a1 a2 a3 m).1 ∧ (f240_1 a1 a2 a3 m).1 ≤ 6) := by
  obtain ⟨_, r, m1, _, h2, hk1, h⟩ := c240_1 (s := (0, fun _ => 0)) (S := zQ [21, 24] [4]) (m0 := m) (B := B) (d := 14) (Q := fun r m' => ∃ v, f240_1 a1 a2 a3 m = (v, m') ∧ J (zQ [21, 24] [4]) m (B) m' ∧ ((-1) ≤ v ∧ v ≤ 6)) a1 a2 a3 (Nat.le_refl _) hJ.j hB ha1 ha2 ha3 (zQ_n rfl) (zQ_n rfl) (zQ_g (by simp)) (fun v m' hb hF hJ' => ⟨v, hF, hJ', hb⟩) (fun q hq => by
    simp only [List.mem_cons, List.not_mem_nil, or_false] at hq
    rcases hq with rfl | rfl | rfl | rfl
    · exact zv44
    · exact (show -2147483648 ≤ a1 ∧ a1 ≤ 2147483647 by omega)
    · exact (show -2147483648 ≤ a2 ∧ a2 ≤ 2147483647 by omega)
    · exact (show -2147483648 ≤ a3 ∧ a3 ≤ 2147483647 by omega)) (fun _ h => absurd h List.not_mem_nil) hk
  obtain ⟨v, hF, hJ1, h⟩ := h
  rw [hF]
  exact ⟨hk1, hJ1, h⟩
theorem q84_1 {m : zM} {B : Int} (g0 : Nat) (a1 : Int) (hk : z_mok lL m) (hJ : JB B m) (hB : B + 0 ≤ 1000000000) (hg0 : g0 < 4) (ha1 : 0 ≤ a1 ∧ a1 ≤ 7) : z_mok lL (f84_1 g0 a1 m).2 ∧ J (zQ [1] [g0]) m (B) (f84_1 g0 a1 m).2 ∧ (0 ≤ (f84_1 g0 a1 m).1 ∧ (f84_1 g0 a1 m).1 ≤ 6) := by
  obtain ⟨_, r, m1, _, h2, hk1, h⟩ := c84_1 (s := (0, fun _ => 0)) (S := zQ [1] [g0]) (m0 := m) (B := B) (d := 13) (Q := fun r m' => ∃ v, f84_1 g0 a1 m = (v, m') ∧ J (zQ [1] [g0]) m (B) m' ∧ (0 ≤ v ∧ v ≤ 6)) g0 a1 (Nat.le_refl _) hJ.j hB ha1 (zQ_n rfl) (zQ_g (by simp)) (fun v m' hb hF hJ' => ⟨v, hF, hJ', hb⟩) (fun q hq => by
    simp only [List.mem_cons, List.not_mem_nil, or_false] at hq
    rcases hq with rfl | rfl
    · exact zv11 hg0
    · exact (show -2147483648 ≤ a1 ∧ a1 ≤ 2147483647 by omega)) (fun _ h => absurd h List.not_mem_nil) hk
  obtain ⟨v, hF, hJ1, h⟩ := h
  rw [hF]
  exact ⟨hk1, hJ1, h⟩
theorem q83_1 {m : zM} {B : Int} (a1 : Int) (hk : z_mok lL m) (hJ : JB B m) (hB : B + 0 ≤ 1000000000) (ha1 : (-2147483648) ≤ a1 ∧ a1 ≤ 2147483647) : z_mok lL (f83_1 a1 m).2 ∧ J (zQ [1, 4] [0]) m (B) (f83_1 a1 m).2 ∧ ((-1) ≤ (f83_1 a1 m).1 ∧ (f83_1 a1 m).1 ≤ 6) := by
  obtain ⟨_, r, m1, _, h2, hk1, h⟩ := c83_1 (s := (0, fun _ => 0)) (S := zQ [1, 4] [0]) (m0 := m) (B := B) (d := 14) (Q := fun r m' => ∃ v, f83_1 a1 m = (v, m') ∧ J (zQ [1, 4] [0]) m (B) m' ∧ ((-1) ≤ v ∧ v ≤ 6)) a1 (Nat.le_refl _) hJ.j hB ha1 (zQ_n rfl) (zQ_n rfl) (zQ_g (by simp)) (fun v m' hb hF hJ' => ⟨v, hF, hJ', hb⟩) (fun q hq => by
    simp only [List.mem_cons, List.not_mem_nil, or_false] at hq
    rcases hq with rfl | rfl
    · exact zv40
    · exact (show -2147483648 ≤ a1 ∧ a1 ≤ 2147483647 by omega)) (fun _ h => absurd h List.not_mem_nil) hk
  obtain ⟨v, hF, hJ1, h⟩ := h
  rw [hF]
  exact ⟨hk1, hJ1, h⟩
theorem q244_1 {m : zM} {B : Int} (a1 : Int) (hk : z_mok lL m) (hJ : JB B m) (hB : B + 0 ≤ 1000000000) (ha1 : (-2147483648) ≤ a1 ∧ a1 ≤ 2147483647) : z_mok lL (f244_1 a1 m).2 ∧ J (zQ [21, 24] [4]) m (B) (f244_1 a1 m).2 ∧ ((-1) ≤ (f244_1 a1 m).1 ∧ (f244_1 a1 m).1 ≤ 6) := by
  obtain ⟨_, r, m1, _, h2, hk1, h⟩ := c244_1 (s := (0, fun _ => 0)) (S := zQ [21, 24] [4]) (m0 := m) (B := B) (d := 14) (Q := fun r m' => ∃ v, f244_1 a1 m = (v, m') ∧ J (zQ [21, 24] [4]) m (B) m' ∧ ((-1) ≤ v ∧ v ≤ 6)) a1 (Nat.le_refl _) hJ.j hB ha1 (zQ_n rfl) (zQ_n rfl) (zQ_g (by simp)) (fun v m' hb hF hJ' => ⟨v, hF, hJ', hb⟩) (fun q hq => by
    simp only [List.mem_cons, List.not_mem_nil, or_false] at hq
    rcases hq with rfl | rfl
    · exact zv44
    · exact (show -2147483648 ≤ a1 ∧ a1 ≤ 2147483647 by omega)) (fun _ h => absurd h List.not_mem_nil) hk
  obtain ⟨v, hF, hJ1, h⟩ := h
  rw [hF]
  exact ⟨hk1, hJ1, h⟩
theorem q87_1 {m : zM} {B : Int} (a1 : Int) (hk : z_mok lL m) (hJ : JB B m) (hB : B + 0 ≤ 1000000000) (ha1 : (-2147483648) ≤ a1 ∧ a1 ≤ 2147483647) (hp0 : m 4 41 3 ≤ 296) : z_mok lL (f87_1 a1 m) ∧ J (zQ [15] [4]) m (B) (f87_1 a1 m) ∧ ((f87_1 a1 m) 4 41 3 = m 4 41 3 + 4) := by
  obtain ⟨_, r, m1, _, h2, hk1, h⟩ := c87_1 (s := (0, fun _ => 0)) (S := zQ [15] [4]) (m0 := m) (B := B) (d := 13) (Q := fun r m' => f87_1 a1 m = m' ∧ J (zQ [15] [4]) m (B) m' ∧ (m' 4 41 3 = m 4 41 3 + 4)) a1 (Nat.le_refl _) hJ.j hB ha1 hp0 (zQ_n rfl) (zQ_g (by simp)) (fun m' hF hJ' p0 => ⟨hF, hJ', p0⟩) (fun q hq => by
    simp only [List.mem_cons, List.not_mem_nil, or_false] at hq
    rcases hq with rfl | rfl
    · exact zv41
    · exact (show -2147483648 ≤ a1 ∧ a1 ≤ 2147483647 by omega)) (fun _ h => absurd h List.not_mem_nil) hk
  obtain ⟨hF, hJ1, h⟩ := h
  rw [hF]
  exact ⟨hk1, hJ1, h⟩
theorem q85_1 {m : zM} {B : Int} (a1 a2 a3 a4 a5 : Int) (hk : z_mok lL m) (hJ : JB B m) (hB : B + 0 ≤ 1000000000) (ha1 : (-2147483648) ≤ a1 ∧ a1 ≤ 2147483647) (ha2 : (-2147483648) ≤ a2 ∧ a2 ≤ 2147483647) (ha3 : (-2147483648) ≤ a3 ∧ a3 ≤ 2147483647) (ha4 : (-2147483648) ≤ a4 ∧ a4 ≤ 2147483647) (ha5 : (-2147483648) ≤ a5 ∧ a5 ≤ 2147483647) : z_mok lL (f85_1 a1 a2 a3 a4 a5 m).2 ∧ J (zQ [15] [4]) m (B) (f85_1 a1 a2 a3 a4 a5 m).2 ∧ ((-1) ≤ (f85_1 a1 a2 a3 a4 a5 m).1 ∧ (f85_1 a1 a2 a3 a4 a5 m).1 ≤ 300) := by
  obtain ⟨_, r, m1, _, h2, hk1, h⟩ := c85_1 (s := (0, fun _ => 0)) (S := zQ [15] [4]) (m0 := m) (B := B) (d := 14) (Q := fun r m' => ∃ v, f85_1 a1 a2 a3 a4 a5 m = (v, m') ∧ J (zQ [15] [4]) m (B) m' ∧ ((-1) ≤ v ∧ v ≤ 300)) a1 a2 a3 a4 a5 (Nat.le_refl _) hJ.j hB ha1 ha2 ha3 ha4 ha5 (zQ_n rfl) (zQ_g (by simp)) (fun v m' hb hF hJ' => ⟨v, hF, hJ', hb⟩) (fun q hq => by
    simp only [List.mem_cons, List.not_mem_nil, or_false] at hq
    rcases hq with rfl | rfl | rfl | rfl | rfl | rfl
    · exact zv40
    · exact (show -2147483648 ≤ a1 ∧ a1 ≤ 2147483647 by omega)
    · exact (show -2147483648 ≤ a2 ∧ a2 ≤ 2147483647 by omega)
    · exact (show -2147483648 ≤ a3 ∧ a3 ≤ 2147483647 by omega)
    · exact (show -2147483648 ≤ a4 ∧ a4 ≤ 2147483647 by omega)
    · exact (show -2147483648 ≤ a5 ∧ a5 ≤ 2147483647 by omega)) (fun _ h => absurd h List.not_mem_nil) hk
  obtain ⟨v, hF, hJ1, h⟩ := h
  rw [hF]
  exact ⟨hk1, hJ1, h⟩
theorem q257_1 {m : zM} {B : Int} (a1 : Int) (hk : z_mok lL m) (hJ : JB B m) (hB : B + 0 ≤ 1000000000) (ha1 : (-2147483648) ≤ a1 ∧ a1 ≤ 2147483647) (hp0 : m 4 44 5 ≤ 296) : z_mok lL (f257_1 a1 m) ∧ J (zQ [35] [4]) m (B) (f257_1 a1 m) ∧ ((f257_1 a1 m) 4 44 5 = m 4 44 5 + 4) := by
  obtain ⟨_, r, m1, _, h2, hk1, h⟩ := c257_1 (s := (0, fun _ => 0)) (S := zQ [35] [4]) (m0 := m) (B := B) (d := 13) (Q := fun r m' => f257_1 a1 m = m' ∧ J (zQ [35] [4]) m (B) m' ∧ (m' 4 44 5 = m 4 44 5 + 4)) a1 (Nat.le_refl _) hJ.j hB ha1 hp0 (zQ_n rfl) (zQ_g (by simp)) (fun m' hF hJ' p0 => ⟨hF, hJ', p0⟩) (fun q hq => by
    simp only [List.mem_cons, List.not_mem_nil, or_false] at hq
    rcases hq with rfl | rfl
    · exact zv44
    · exact (show -2147483648 ≤ a1 ∧ a1 ≤ 2147483647 by omega)) (fun _ h => absurd h List.not_mem_nil) hk
  obtain ⟨hF, hJ1, h⟩ := h
  rw [hF]
  exact ⟨hk1, hJ1, h⟩
theorem q256_1 {m : zM} {B : Int} (a1 a2 a3 a4 a5 : Int) (hk : z_mok lL m) (hJ : JB B m) (hB : B + 0 ≤ 1000000000) (ha1 : (-2147483648) ≤ a1 ∧ a1 ≤ 2147483647) (ha2 : (-2147483648) ≤ a2 ∧ a2 ≤ 2147483647) (ha3 : (-2147483648) ≤ a3 ∧ a3 ≤ 2147483647) (ha4 : (-2147483648) ≤ a4 ∧ a4 ≤ 2147483647) (ha5 : (-2147483648) ≤ a5 ∧ a5 ≤ 2147483647) : z_mok lL (f256_1 a1 a2 a3 a4 a5 m).2 ∧ J (zQ [35] [4]) m (B) (f256_1 a1 a2 a3 a4 a5 m).2 ∧ ((-1) ≤ (f256_1 a1 a2 a3 a4 a5 m).1 ∧ (f256_1 a1 a2 a3 a4 a5 m).1 ≤ 300) := by
  obtain ⟨_, r, m1, _, h2, hk1, h⟩ := c256_1 (s := (0, fun _ => 0)) (S := zQ [35] [4]) (m0 := m) (B := B) (d := 14) (Q := fun r m' => ∃ v, f256_1 a1 a2 a3 a4 a5 m = (v, m') ∧ J (zQ [35] [4]) m (B) m' ∧ ((-1) ≤ v ∧ v ≤ 300)) a1 a2 a3 a4 a5 (Nat.le_refl _) hJ.j hB ha1 ha2 ha3 ha4 ha5 (zQ_n rfl) (zQ_g (by simp)) (fun v m' hb hF hJ' => ⟨v, hF, hJ', hb⟩) (fun q hq => by
    simp only [List.mem_cons, List.not_mem_nil, or_false] at hq
    rcases hq with rfl | rfl | rfl | rfl | rfl | rfl
    · exact zv44
    · exact (show -2147483648 ≤ a1 ∧ a1 ≤ 2147483647 by omega)
    · exact (show -2147483648 ≤ a2 ∧ a2 ≤ 2147483647 by omega)
    · exact (show -2147483648 ≤ a3 ∧ a3 ≤ 2147483647 by omega)
    · exact (show -2147483648 ≤ a4 ∧ a4 ≤ 2147483647 by omega)
    · exact (show -2147483648 ≤ a5 ∧ a5 ≤ 2147483647 by omega)) (fun _ h => absurd h List.not_mem_nil) hk
  obtain ⟨v, hF, hJ1, h⟩ := h
  rw [hF]
  exact ⟨hk1, hJ1, h⟩
theorem q89_1 {m : zM} {B : Int} (a1 : Int) (hk : z_mok lL m) (hJ : JB B m) (hB : B + 0 ≤ 1000000000) (ha1 : (-2147483648) ≤ a1 ∧ a1 ≤ 2147483647) : z_mok lL (f89_1 a1 m).2 ∧ J (zQ [15] [4]) m (B) (f89_1 a1 m).2 ∧ (0 ≤ (f89_1 a1 m).1 ∧ (f89_1 a1 m).1 ≤ 1) := by
  obtain ⟨_, r, m1, _, h2, hk1, h⟩ := c89_1 (s := (0, fun _ => 0)) (S := zQ [15] [4]) (m0 := m) (B := B) (d := 13) (Q := fun r m' => ∃ v, f89_1 a1 m = (v, m') ∧ J (zQ [15] [4]) m (B) m' ∧ (0 ≤ v ∧ v ≤ 1)) a1 (Nat.le_refl _) hJ.j hB ha1 (zQ_n rfl) (zQ_g (by simp)) (fun v m' hb hF hJ' => ⟨v, hF, hJ', hb⟩) (fun q hq => by
    simp only [List.mem_cons, List.not_mem_nil, or_false] at hq
    rcases hq with rfl | rfl
    · exact zv41
    · exact (show -2147483648 ≤ a1 ∧ a1 ≤ 2147483647 by omega)) (fun _ h => absurd h List.not_mem_nil) hk
  obtain ⟨v, hF, hJ1, h⟩ := h
  rw [hF]
  exact ⟨hk1, hJ1, h⟩
theorem q88_1 {m : zM} {B : Int} (a1 : Int) (hk : z_mok lL m) (hJ : JB B m) (hB : B + 0 ≤ 1000000000) (ha1 : (-2147483648) ≤ a1 ∧ a1 ≤ 2147483647) : z_mok lL (f88_1 a1 m).2 ∧ J (zQ [15] [4]) m (B) (f88_1 a1 m).2 ∧ (0 ≤ (f88_1 a1 m).1 ∧ (f88_1 a1 m).1 ≤ 1) := by
  obtain ⟨_, r, m1, _, h2, hk1, h⟩ := c88_1 (s := (0, fun _ => 0)) (S := zQ [15] [4]) (m0 := m) (B := B) (d := 14) (Q := fun r m' => ∃ v, f88_1 a1 m = (v, m') ∧ J (zQ [15] [4]) m (B) m' ∧ (0 ≤ v ∧ v ≤ 1)) a1 (Nat.le_refl _) hJ.j hB ha1 (zQ_n rfl) (zQ_g (by simp)) (fun v m' hb hF hJ' => ⟨v, hF, hJ', hb⟩) (fun q hq => by
    simp only [List.mem_cons, List.not_mem_nil, or_false] at hq
    rcases hq with rfl | rfl
    · exact zv40
    · exact (show -2147483648 ≤ a1 ∧ a1 ≤ 2147483647 by omega)) (fun _ h => absurd h List.not_mem_nil) hk
  obtain ⟨v, hF, hJ1, h⟩ := h
  rw [hF]
  exact ⟨hk1, hJ1, h⟩
theorem q258_1 {m : zM} {B : Int} (a1 : Int) (hk : z_mok lL m) (hJ : JB B m) (hB : B + 0 ≤ 1000000000) (ha1 : (-2147483648) ≤ a1 ∧ a1 ≤ 2147483647) : z_mok lL (f258_1 a1 m).2 ∧ J (zQ [35] [4]) m (B) (f258_1 a1 m).2 ∧ (0 ≤ (f258_1 a1 m).1 ∧ (f258_1 a1 m).1 ≤ 1) := by
  obtain ⟨_, r, m1, _, h2, hk1, h⟩ := c258_1 (s := (0, fun _ => 0)) (S := zQ [35] [4]) (m0 := m) (B := B) (d := 13) (Q := fun r m' => ∃ v, f258_1 a1 m = (v, m') ∧ J (zQ [35] [4]) m (B) m' ∧ (0 ≤ v ∧ v ≤ 1)) a1 (Nat.le_refl _) hJ.j hB ha1 (zQ_n rfl) (zQ_g (by simp)) (fun v m' hb hF hJ' => ⟨v, hF, hJ', hb⟩) (fun q hq => by
    simp only [List.mem_cons, List.not_mem_nil, or_false] at hq
    rcases hq with rfl | rfl
    · exact zv44
    · exact (show -2147483648 ≤ a1 ∧ a1 ≤ 2147483647 by omega)) (fun _ h => absurd h List.not_mem_nil) hk
  obtain ⟨v, hF, hJ1, h⟩ := h
  rw [hF]
  exact ⟨hk1, hJ1, h⟩
theorem q5_1 {m : zM} {B : Int} (g0 : Nat) (a1 : Int) (hk : z_mok lL m) (hJ : JB B m) (hB : B + 0 ≤ 1000000000) (hg0 : g0 < 4) (ha1 : 0 ≤ a1 ∧ a1 ≤ 0) : z_mok lL (f5_1 g0 a1 m) ∧ J (zQ [1] [g0]) m (B) (f5_1 g0 a1 m) := by
  obtain ⟨_, r, m1, _, h2, hk1, h⟩ := c5_1 (s := (0, fun _ => 0)) (S := zQ [1] [g0]) (m0 := m) (B := B) (d := 13) (Q := fun r m' => f5_1 g0 a1 m = m' ∧ J (zQ [1] [g0]) m (B) m') g0 a1 (Nat.le_refl _) hJ.j hB ha1 (zQ_n rfl) (zQ_g (by simp)) (fun m' hF hJ' => ⟨hF, hJ'⟩) (fun q hq => by
    simp only [List.mem_cons, List.not_mem_nil, or_false] at hq
    rcases hq with rfl | rfl
    · exact zv12 hg0
    · exact (show -2147483648 ≤ a1 ∧ a1 ≤ 2147483647 by omega)) (fun _ h => absurd h List.not_mem_nil) hk
  obtain ⟨hF, hJ1⟩ := h
  rw [hF]
  exact ⟨hk1, hJ1⟩
theorem q5_2 {m : zM} {B : Int} (g0 : Nat) (a1 : Int) (hk : z_mok lL m) (hJ : JB B m) (hB : B + 0 ≤ 1000000000) (hg0 : g0 < 4) (ha1 : (-1) ≤ a1 ∧ a1 ≤ (-1)) : z_mok lL (f5_2 g0 a1 m) ∧ J (zQ [1] [g0]) m (B) (f5_2 g0 a1 m) := by
  obtain ⟨_, r, m1, _, h2, hk1, h⟩ := c5_2 (s := (0, fun _ => 0)) (S := zQ [1] [g0]) (m0 := m) (B := B) (d := 13) (Q := fun r m' => f5_2 g0 a1 m = m' ∧ J (zQ [1] [g0]) m (B) m') g0 a1 (Nat.le_refl _) hJ.j hB ha1 (zQ_n rfl) (zQ_g (by simp)) (fun m' hF hJ' => ⟨hF, hJ'⟩) (fun q hq => by
    simp only [List.mem_cons, List.not_mem_nil, or_false] at hq
    rcases hq with rfl | rfl
    · exact zv15 hg0
    · exact (show -2147483648 ≤ a1 ∧ a1 ≤ 2147483647 by omega)) (fun _ h => absurd h List.not_mem_nil) hk
  obtain ⟨hF, hJ1⟩ := h
  rw [hF]
  exact ⟨hk1, hJ1⟩
theorem q5_3 {m : zM} {B : Int} (g0 : Nat) (a1 : Int) (hk : z_mok lL m) (hJ : JB B m) (hB : B + 0 ≤ 1000000000) (hg0 : g0 < 4) (ha1 : 0 ≤ a1 ∧ a1 ≤ 0) : z_mok lL (f5_3 g0 a1 m) ∧ J (zQ [1] [g0]) m (B) (f5_3 g0 a1 m) := by
  obtain ⟨_, r, m1, _, h2, hk1, h⟩ := c5_3 (s := (0, fun _ => 0)) (S := zQ [1] [g0]) (m0 := m) (B := B) (d := 13) (Q := fun r m' => f5_3 g0 a1 m = m' ∧ J (zQ [1] [g0]) m (B) m') g0 a1 (Nat.le_refl _) hJ.j hB ha1 (zQ_n rfl) (zQ_g (by simp)) (fun m' hF hJ' => ⟨hF, hJ'⟩) (fun q hq => by
    simp only [List.mem_cons, List.not_mem_nil, or_false] at hq
    rcases hq with rfl | rfl
    · exact zv16 hg0
    · exact (show -2147483648 ≤ a1 ∧ a1 ≤ 2147483647 by omega)) (fun _ h => absurd h List.not_mem_nil) hk
  obtain ⟨hF, hJ1⟩ := h
  rw [hF]
  exact ⟨hk1, hJ1⟩
theorem q4_1 {m : zM} {B : Int} (g0 : Nat) (hk : z_mok lL m) (hJ : JB B m) (hB : B + 0 ≤ 1000000000) (hg0 : g0 < 4) : z_mok lL (f4_1 g0 m) ∧ J (zQ [1] [g0]) m (B) (f4_1 g0 m) := by
  obtain ⟨_, r, m1, _, h2, hk1, h⟩ := c4_1 (s := (0, fun _ => 0)) (S := zQ [1] [g0]) (m0 := m) (B := B) (d := 14) (Q := fun r m' => f4_1 g0 m = m' ∧ J (zQ [1] [g0]) m (B) m') g0 (Nat.le_refl _) hJ.j hB (zQ_n rfl) (zQ_g (by simp)) (fun m' hF hJ' => ⟨hF, hJ'⟩) (fun q hq => by
    simp only [List.mem_cons, List.not_mem_nil, or_false] at hq
    subst hq
    · exact zv11 hg0) (fun _ h => absurd h List.not_mem_nil) hk
  obtain ⟨hF, hJ1⟩ := h
  rw [hF]
  exact ⟨hk1, hJ1⟩
theorem q93_1 {m : zM} {B : Int} (hk : z_mok lL m) (hJ : JB B m) (hB : B + 0 ≤ 1000000000) : z_mok lL (f93_1 m) ∧ J (zQ [19] [4]) m (B) (f93_1 m) := by
  obtain ⟨_, r, m1, _, h2, hk1, h⟩ := c93_1 (s := (0, fun _ => 0)) (S := zQ [19] [4]) (m0 := m) (B := B) (d := 13) (Q := fun r m' => f93_1 m = m' ∧ J (zQ [19] [4]) m (B) m')  (Nat.le_refl _) hJ.j hB (zQ_n rfl) (zQ_g (by simp)) (fun m' hF hJ' => ⟨hF, hJ'⟩) (fun q hq => by
    simp only [List.mem_cons, List.not_mem_nil, or_false] at hq
    subst hq
    · exact zv41) (fun _ h => absurd h List.not_mem_nil) hk
  obtain ⟨hF, hJ1⟩ := h
  rw [hF]
  exact ⟨hk1, hJ1⟩
theorem q95_1 {m : zM} {B : Int} (hk : z_mok lL m) (hJ : JB B m) (hB : B + 0 ≤ 1000000000) : ((-300) ≤ (f95_1 m) ∧ (f95_1 m) ≤ 300) := by
  obtain ⟨_, r, m1, _, h2, hk1, h⟩ := c95_1 (s := (0, fun _ => 0)) (S := zQ [] []) (m0 := m) (B := B) (d := 13) (Q := fun r m' => ∃ v, r = some (zi v) ∧ f95_1 m = v ∧ ((-300) ≤ v ∧ v ≤ 300))  (Nat.le_refl _) hJ.j hB  (fun v hb hF => ⟨v, rfl, hF, hb⟩) (fun q hq => by
    simp only [List.mem_cons, List.not_mem_nil, or_false] at hq
    subst hq
    · exact zv41) (fun _ h => absurd h List.not_mem_nil) hk
  obtain ⟨v, hr, hF, h⟩ := h
  rw [hF]
  exact h
theorem q96_1 {m : zM} {B : Int} (a2 : Int) (hk : z_mok lL m) (hJ : JB B m) (hB : B + 0 ≤ 1000000000) (ha2 : (-300) ≤ a2 ∧ a2 ≤ 300) : (0 ≤ (f96_1 a2 m) ∧ (f96_1 a2 m) ≤ 1) ∧ ((f96_1 a2 m) = 1 → m 4 41 7 + 5 ≤ 300) := by
  obtain ⟨_, r, m1, _, h2, hk1, h⟩ := c96_1 (s := (0, fun _ => 0)) (S := zQ [] []) (m0 := m) (B := B) (d := 13) (Q := fun r m' => ∃ v, r = some (zi v) ∧ f96_1 a2 m = v ∧ (0 ≤ v ∧ v ≤ 1) ∧ (v = 1 → m 4 41 7 + 5 ≤ 300)) a2 (Nat.le_refl _) hJ.j hB ha2 (fun v hb hF p0 => ⟨v, rfl, hF, hb, p0⟩) (fun q hq => by
    simp only [List.mem_cons, List.not_mem_nil, or_false] at hq
    rcases hq with rfl | rfl | rfl
    · exact zv41
    · exact .inl ⟨rfl, by decide⟩
    · exact (show -2147483648 ≤ a2 ∧ a2 ≤ 2147483647 by omega)) (fun _ h => absurd h List.not_mem_nil) hk
  obtain ⟨v, hr, hF, h⟩ := h
  rw [hF]
  exact h
theorem q96_2 {m : zM} {B : Int} (a2 : Int) (hk : z_mok lL m) (hJ : JB B m) (hB : B + 0 ≤ 1000000000) (ha2 : (-300) ≤ a2 ∧ a2 ≤ 300) : (0 ≤ (f96_2 a2 m) ∧ (f96_2 a2 m) ≤ 1) ∧ ((f96_2 a2 m) = 1 → m 4 41 7 + 6 ≤ 300) := by
  obtain ⟨_, r, m1, _, h2, hk1, h⟩ := c96_2 (s := (0, fun _ => 0)) (S := zQ [] []) (m0 := m) (B := B) (d := 13) (Q := fun r m' => ∃ v, r = some (zi v) ∧ f96_2 a2 m = v ∧ (0 ≤ v ∧ v ≤ 1) ∧ (v = 1 → m 4 41 7 + 6 ≤ 300)) a2 (Nat.le_refl _) hJ.j hB ha2 (fun v hb hF p0 => ⟨v, rfl, hF, hb, p0⟩) (fun q hq => by
    simp only [List.mem_cons, List.not_mem_nil, or_false] at hq
    rcases hq with rfl | rfl | rfl
    · exact zv41
    · exact .inl ⟨rfl, by decide⟩
    · exact (show -2147483648 ≤ a2 ∧ a2 ≤ 2147483647 by omega)) (fun _ h => absurd h List.not_mem_nil) hk
  obtain ⟨v, hr, hF, h⟩ := h
  rw [hF]
  exact h
theorem q96_3 {m : zM} {B : Int} (a2 : Int) (hk : z_mok lL m) (hJ : JB B m) (hB : B + 0 ≤ 1000000000) (ha2 : (-300) ≤ a2 ∧ a2 ≤ 300) : (0 ≤ (f96_3 a2 m) ∧ (f96_3 a2 m) ≤ 1) ∧ ((f96_3 a2 m) = 1 → m 4 41 7 + 7 ≤ 300) := by
  obtain ⟨_, r, m1, _, h2, hk1, h⟩ := c96_3 (s := (0, fun _ => 0)) (S := zQ [] []) (m0 := m) (B := B) (d := 13) (Q := fun r m' => ∃ v, r = some (zi v) ∧ f96_3 a2 m = v ∧ (0 ≤ v ∧ v ≤ 1) ∧ (v = 1 → m 4 41 7 + 7 ≤ 300)) a2 (Nat.le_refl _) hJ.j hB ha2 (fun v hb hF p0 => ⟨v, rfl, hF, hb, p0⟩) (fun q hq => by
    simp only [List.mem_cons, List.not_mem_nil, or_false] at hq
    rcases hq with rfl | rfl | rfl
    · exact zv41
    · exact .inl ⟨rfl, by decide⟩
    · exact (show -2147483648 ≤ a2 ∧ a2 ≤ 2147483647 by omega)) (fun _ h => absurd h List.not_mem_nil) hk
  obtain ⟨v, hr, hF, h⟩ := h
  rw [hF]
  exact h
theorem q96_4 {m : zM} {B : Int} (a2 : Int) (hk : z_mok lL m) (hJ : JB B m) (hB : B + 0 ≤ 1000000000) (ha2 : (-300) ≤ a2 ∧ a2 ≤ 300) : (0 ≤ (f96_4 a2 m) ∧ (f96_4 a2 m) ≤ 1) ∧ ((f96_4 a2 m) = 1 → m 4 41 7 + 5 ≤ 300) := by
  obtain ⟨_, r, m1, _, h2, hk1, h⟩ := c96_4 (s := (0, fun _ => 0)) (S := zQ [] []) (m0 := m) (B := B) (d := 13) (Q := fun r m' => ∃ v, r = some (zi v) ∧ f96_4 a2 m = v ∧ (0 ≤ v ∧ v ≤ 1) ∧ (v = 1 → m 4 41 7 + 5 ≤ 300)) a2 (Nat.le_refl _) hJ.j hB ha2 (fun v hb hF p0 => ⟨v, rfl, hF, hb, p0⟩) (fun q hq => by
    simp only [List.mem_cons, List.not_mem_nil, or_false] at hq
    rcases hq with rfl | rfl | rfl
    · exact zv41
    · exact .inl ⟨rfl, by decide⟩
    · exact (show -2147483648 ≤ a2 ∧ a2 ≤ 2147483647 by omega)) (fun _ h => absurd h List.not_mem_nil) hk
  obtain ⟨v, hr, hF, h⟩ := h
  rw [hF]
  exact h
theorem q102_1 {m : zM} {B : Int} (a1 a2 : Int) (hk : z_mok lL m) (hJ : JB B m) (hB : B + 0 ≤ 1000000000) (ha1 : 1 ≤ a1 ∧ a1 ≤ 1) (ha2 : 0 ≤ a2 ∧ a2 ≤ 300) : z_mok lL (f102_1 a1 a2 m).2 ∧ J (zQ [16] [4]) m (B) (f102_1 a1 a2 m).2 ∧ (0 ≤ (f102_1 a1 a2 m).1 ∧ (f102_1 a1 a2 m).1 ≤ 0) := by
  obtain ⟨_, r, m1, _, h2, hk1, h⟩ := c102_1 (s := (0, fun _ => 0)) (S := zQ [16] [4]) (m0 := m) (B := B) (d := 13) (Q := fun r m' => ∃ v, f102_1 a1 a2 m = (v, m') ∧ J (zQ [16] [4]) m (B) m' ∧ (0 ≤ v ∧ v ≤ 0)) a1 a2 (Nat.le_refl _) hJ.j hB ha1 ha2 (zQ_n rfl) (zQ_g (by simp)) (fun v m' hb hF hJ' => ⟨v, hF, hJ', hb⟩) (fun q hq => by
    simp only [List.mem_cons, List.not_mem_nil, or_false] at hq
    rcases hq with rfl | rfl | rfl
    · exact zv41
    · exact (show -2147483648 ≤ a1 ∧ a1 ≤ 2147483647 by omega)
    · exact (show -2147483648 ≤ a2 ∧ a2 ≤ 2147483647 by omega)) (fun _ h => absurd h List.not_mem_nil) hk
  obtain ⟨v, hF, hJ1, h⟩ := h
  rw [hF]
  exact ⟨hk1, hJ1, h⟩
theorem q102_2 {m : zM} {B : Int} (a1 a2 : Int) (hk : z_mok lL m) (hJ : JB B m) (hB : B + 0 ≤ 1000000000) (ha1 : 2 ≤ a1 ∧ a1 ≤ 2) (ha2 : (-2147483648) ≤ a2 ∧ a2 ≤ 2147483647) : z_mok lL (f102_1 a1 a2 m).2 ∧ J (zQ [16] [4]) m (B) (f102_1 a1 a2 m).2 ∧ (0 ≤ (f102_1 a1 a2 m).1 ∧ (f102_1 a1 a2 m).1 ≤ 0) := by
  obtain ⟨_, r, m1, _, h2, hk1, h⟩ := c102_2 (s := (0, fun _ => 0)) (S := zQ [16] [4]) (m0 := m) (B := B) (d := 13) (Q := fun r m' => ∃ v, f102_1 a1 a2 m = (v, m') ∧ J (zQ [16] [4]) m (B) m' ∧ (0 ≤ v ∧ v ≤ 0)) a1 a2 (Nat.le_refl _) hJ.j hB ha1 ha2 (zQ_n rfl) (zQ_g (by simp)) (fun v m' hb hF hJ' => ⟨v, hF, hJ', hb⟩) (fun q hq => by
    simp only [List.mem_cons, List.not_mem_nil, or_false] at hq
    rcases hq with rfl | rfl | rfl
    · exact zv41
    · exact (show -2147483648 ≤ a1 ∧ a1 ≤ 2147483647 by omega)
    · exact (show -2147483648 ≤ a2 ∧ a2 ≤ 2147483647 by omega)) (fun _ h => absurd h List.not_mem_nil) hk
  obtain ⟨v, hF, hJ1, h⟩ := h
  rw [hF]
  exact ⟨hk1, hJ1, h⟩
theorem q102_3 {m : zM} {B : Int} (a1 a2 : Int) (hk : z_mok lL m) (hJ : JB B m) (hB : B + 0 ≤ 1000000000) (ha1 : 3 ≤ a1 ∧ a1 ≤ 3) (ha2 : 0 ≤ a2 ∧ a2 ≤ 300) : z_mok lL (f102_1 a1 a2 m).2 ∧ J (zQ [16] [4]) m (B) (f102_1 a1 a2 m).2 ∧ (0 ≤ (f102_1 a1 a2 m).1 ∧ (f102_1 a1 a2 m).1 ≤ 0) := by
  obtain ⟨_, r, m1, _, h2, hk1, h⟩ := c102_3 (s := (0, fun _ => 0)) (S := zQ [16] [4]) (m0 := m) (B := B) (d := 13) (Q := fun r m' => ∃ v, f102_1 a1 a2 m = (v, m') ∧ J (zQ [16] [4]) m (B) m' ∧ (0 ≤ v ∧ v ≤ 0)) a1 a2 (Nat.le_refl _) hJ.j hB ha1 ha2 (zQ_n rfl) (zQ_g (by simp)) (fun v m' hb hF hJ' => ⟨v, hF, hJ', hb⟩) (fun q hq => by
    simp only [List.mem_cons, List.not_mem_nil, or_false] at hq
    rcases hq with rfl | rfl | rfl
    · exact zv41
    · exact (show -2147483648 ≤ a1 ∧ a1 ≤ 2147483647 by omega)
    · exact (show -2147483648 ≤ a2 ∧ a2 ≤ 2147483647 by omega)) (fun _ h => absurd h List.not_mem_nil) hk
  obtain ⟨v, hF, hJ1, h⟩ := h
  rw [hF]
  exact ⟨hk1, hJ1, h⟩
theorem q102_4 {m : zM} {B : Int} (a1 a2 : Int) (hk : z_mok lL m) (hJ : JB B m) (hB : B + 0 ≤ 1000000000) (ha1 : 3 ≤ a1 ∧ a1 ≤ 3) (ha2 : (-2147483648) ≤ a2 ∧ a2 ≤ 2147483647) : z_mok lL (f102_1 a1 a2 m).2 ∧ J (zQ [16] [4]) m (B) (f102_1 a1 a2 m).2 ∧ (0 ≤ (f102_1 a1 a2 m).1 ∧ (f102_1 a1 a2 m).1 ≤ 0) := by
  obtain ⟨_, r, m1, _, h2, hk1, h⟩ := c102_4 (s := (0, fun _ => 0)) (S := zQ [16] [4]) (m0 := m) (B := B) (d := 13) (Q := fun r m' => ∃ v, f102_1 a1 a2 m = (v, m') ∧ J (zQ [16] [4]) m (B) m' ∧ (0 ≤ v ∧ v ≤ 0)) a1 a2 (Nat.le_refl _) hJ.j hB ha1 ha2 (zQ_n rfl) (zQ_g (by simp)) (fun v m' hb hF hJ' => ⟨v, hF, hJ', hb⟩) (fun q hq => by
    simp only [List.mem_cons, List.not_mem_nil, or_false] at hq
    rcases hq with rfl | rfl | rfl
    · exact zv41
    · exact (show -2147483648 ≤ a1 ∧ a1 ≤ 2147483647 by omega)
    · exact (show -2147483648 ≤ a2 ∧ a2 ≤ 2147483647 by omega)) (fun _ h => absurd h List.not_mem_nil) hk
  obtain ⟨v, hF, hJ1, h⟩ := h
  rw [hF]
  exact ⟨hk1, hJ1, h⟩
theorem q102_5 {m : zM} {B : Int} (a1 a2 : Int) (hk : z_mok lL m) (hJ : JB B m) (hB : B + 0 ≤ 1000000000) (ha1 : 4 ≤ a1 ∧ a1 ≤ 4) (ha2 : 0 ≤ a2 ∧ a2 ≤ 300) : z_mok lL (f102_1 a1 a2 m).2 ∧ J (zQ [16] [4]) m (B) (f102_1 a1 a2 m).2 ∧ (0 ≤ (f102_1 a1 a2 m).1 ∧ (f102_1 a1 a2 m).1 ≤ 0) := by
  obtain ⟨_, r, m1, _, h2, hk1, h⟩ := c102_5 (s := (0, fun _ => 0)) (S := zQ [16] [4]) (m0 := m) (B := B) (d := 13) (Q := fun r m' => ∃ v, f102_1 a1 a2 m = (v, m') ∧ J (zQ [16] [4]) m (B) m' ∧ (0 ≤ v ∧ v ≤ 0)) a1 a2 (Nat.le_refl _) hJ.j hB ha1 ha2 (zQ_n rfl) (zQ_g (by simp)) (fun v m' hb hF hJ' => ⟨v, hF, hJ', hb⟩) (fun q hq => by
    simp only [List.mem_cons, List.not_mem_nil, or_false] at hq
    rcases hq with rfl | rfl | rfl
    · exact zv41
    · exact (show -2147483648 ≤ a1 ∧ a1 ≤ 2147483647 by omega)
    · exact (show -2147483648 ≤ a2 ∧ a2 ≤ 2147483647 by omega)) (fun _ h => absurd h List.not_mem_nil) hk
  obtain ⟨v, hF, hJ1, h⟩ := h
  rw [hF]
  exact ⟨hk1, hJ1, h⟩
theorem q102_6 {m : zM} {B : Int} (a1 a2 : Int) (hk : z_mok lL m) (hJ : JB B m) (hB : B + 0 ≤ 1000000000) (ha1 : 4 ≤ a1 ∧ a1 ≤ 4) (ha2 : (-2147483648) ≤ a2 ∧ a2 ≤ 2147483647) : z_mok lL (f102_1 a1 a2 m).2 ∧ J (zQ [16] [4]) m (B) (f102_1 a1 a2 m).2 ∧ (0 ≤ (f102_1 a1 a2 m).1 ∧ (f102_1 a1 a2 m).1 ≤ 0) := by
  obtain ⟨_, r, m1, _, h2, hk1, h⟩ := c102_6 (s := (0, fun _ => 0)) (S := zQ [16] [4]) (m0 := m) (B := B) (d := 13) (Q := fun r m' => ∃ v, f102_1 a1 a2 m = (v, m') ∧ J (zQ [16] [4]) m (B) m' ∧ (0 ≤ v ∧ v ≤ 0)) a1 a2 (Nat.le_refl _) hJ.j hB ha1 ha2 (zQ_n rfl) (zQ_g (by simp)) (fun v m' hb hF hJ' => ⟨v, hF, hJ', hb⟩) (fun q hq => by
    simp only [List.mem_cons, List.not_mem_nil, or_false] at hq
    rcases hq with rfl | rfl | rfl
    · exact zv41
    · exact (show -2147483648 ≤ a1 ∧ a1 ≤ 2147483647 by omega)
    · exact (show -2147483648 ≤ a2 ∧ a2 ≤ 2147483647 by omega)) (fun _ h => absurd h List.not_mem_nil) hk
  obtain ⟨v, hF, hJ1, h⟩ := h
  rw [hF]
  exact ⟨hk1, hJ1, h⟩
theorem q100_1 {m : zM} {B : Int} (a1 : Int) (hk : z_mok lL m) (hJ : JB B m) (hB : B + 0 ≤ 1000000000) (ha1 : 0 ≤ a1 ∧ a1 ≤ 1000) : z_mok lL (f100_1 a1 m).2 ∧ J (zQ [16, 19] [4]) m (B) (f100_1 a1 m).2 ∧ ((-1) ≤ (f100_1 a1 m).1 ∧ (f100_1 a1 m).1 ≤ 1000) ∧ ((f100_1 a1 m).1 ≤ a1) := by
  obtain ⟨_, r, m1, _, h2, hk1, h⟩ := c100_1 (s := (0, fun _ => 0)) (S := zQ [16, 19] [4]) (m0 := m) (B := B) (d := 14) (Q := fun r m' => ∃ v, f100_1 a1 m = (v, m') ∧ J (zQ [16, 19] [4]) m (B) m' ∧ ((-1) ≤ v ∧ v ≤ 1000) ∧ (v ≤ a1)) a1 (Nat.le_refl _) hJ.j hB ha1 (zQ_n rfl) (zQ_n rfl) (zQ_g (by simp)) (fun v m' hb hF hJ' p0 => ⟨v, hF, hJ', hb, p0⟩) (fun q hq => by
    simp only [List.mem_cons, List.not_mem_nil, or_false] at hq
    rcases hq with rfl | rfl
    · exact zv41
    · exact (show -2147483648 ≤ a1 ∧ a1 ≤ 2147483647 by omega)) (fun _ h => absurd h List.not_mem_nil) hk
  obtain ⟨v, hF, hJ1, h⟩ := h
  rw [hF]
  exact ⟨hk1, hJ1, h⟩
theorem q110_1 {m : zM} {B : Int} (hk : z_mok lL m) (hJ : JB B m) (hB : B + 0 ≤ 1000000000) (hp0 : m 4 41 7 + 5 ≤ 300) : z_mok lL (f110_1 m).2 ∧ J (zQ [16, 19] [4]) m (B) (f110_1 m).2 ∧ (0 ≤ (f110_1 m).1 ∧ (f110_1 m).1 ≤ 1) := by
  obtain ⟨_, r, m1, _, h2, hk1, h⟩ := c110_1 (s := (0, fun _ => 0)) (S := zQ [16, 19] [4]) (m0 := m) (B := B) (d := 15) (Q := fun r m' => ∃ v, f110_1 m = (v, m') ∧ J (zQ [16, 19] [4]) m (B) m' ∧ (0 ≤ v ∧ v ≤ 1))  (Nat.le_refl _) hJ.j hB hp0 (zQ_n rfl) (zQ_n rfl) (zQ_g (by simp)) (fun v m' hb hF hJ' => ⟨v, hF, hJ', hb⟩) (fun q hq => by
    simp only [List.mem_cons, List.not_mem_nil, or_false] at hq
    subst hq
    · exact zv41) (fun _ h => absurd h List.not_mem_nil) hk
  obtain ⟨v, hF, hJ1, h⟩ := h
  rw [hF]
  exact ⟨hk1, hJ1, h⟩
theorem q108_1 {m : zM} {B : Int} (g0 : Nat) (a1 : Int) (hk : z_mok lL m) (hJ : JB B m) (hB : B + 0 ≤ 1000000000) (hg0 : g0 < 4) (ha1 : 0 ≤ a1 ∧ a1 ≤ 364) : (0 ≤ (f108_1 g0 a1 m) ∧ (f108_1 g0 a1 m) ≤ 1) := by
  obtain ⟨_, r, m1, _, h2, hk1, h⟩ := c108_1 (s := (0, fun _ => 0)) (S := zQ [] []) (m0 := m) (B := B) (d := 14) (Q := fun r m' => ∃ v, r = some (zi v) ∧ f108_1 g0 a1 m = v ∧ (0 ≤ v ∧ v ≤ 1)) g0 a1 (Nat.le_refl _) hJ.j hB ha1 (fun v hb hF => ⟨v, rfl, hF, hb⟩) (fun q hq => by
    simp only [List.mem_cons, List.not_mem_nil, or_false] at hq
    rcases hq with rfl | rfl
    · exact zv11 hg0
    · exact (show -2147483648 ≤ a1 ∧ a1 ≤ 2147483647 by omega)) (fun _ h => absurd h List.not_mem_nil) hk
  obtain ⟨v, hr, hF, h⟩ := h
  rw [hF]
  exact h
theorem q109_1 {m : zM} {B : Int} (g0 : Nat) (a1 a2 : Int) (hk : z_mok lL m) (hJ : JB B m) (hB : B + 0 ≤ 1000000000) (hg0 : g0 < 4) (ha1 : 0 ≤ a1 ∧ a1 ≤ 364) (ha2 : 0 ≤ a2 ∧ a2 ≤ 7) : z_mok lL (f109_1 g0 a1 a2 m).2 ∧ J (zQ [1] [g0]) m (B) (f109_1 g0 a1 a2 m).2 ∧ (0 ≤ (f109_1 g0 a1 a2 m).1 ∧ (f109_1 g0 a1 a2 m).1 ≤ 1) := by
  obtain ⟨_, r, m1, _, h2, hk1, h⟩ := c109_1 (s := (0, fun _ => 0)) (S := zQ [1] [g0]) (m0 := m) (B := B) (d := 14) (Q := fun r m' => ∃ v, f109_1 g0 a1 a2 m = (v, m') ∧ J (zQ [1] [g0]) m (B) m' ∧ (0 ≤ v ∧ v ≤ 1)) g0 a1 a2 (Nat.le_refl _) hJ.j hB ha1 ha2 (zQ_n rfl) (zQ_g (by simp)) (fun v m' hb hF hJ' => ⟨v, hF, hJ', hb⟩) (fun q hq => by
    simp only [List.mem_cons, List.not_mem_nil, or_false] at hq
    rcases hq with rfl | rfl | rfl
    · exact zv11 hg0
    · exact (show -2147483648 ≤ a1 ∧ a1 ≤ 2147483647 by omega)
    · exact (show -2147483648 ≤ a2 ∧ a2 ≤ 2147483647 by omega)) (fun _ h => absurd h List.not_mem_nil) hk
  obtain ⟨v, hF, hJ1, h⟩ := h
  rw [hF]
  exact ⟨hk1, hJ1, h⟩
theorem q107_1 {m : zM} {B : Int} (hk : z_mok lL m) (hJ : JB B m) (hB : B + 0 ≤ 1000000000) (hp0 : m 4 41 7 + 7 ≤ 300) : z_mok lL (f107_1 m).2 ∧ J (zQ [1, 16, 19] [3, 4]) m (B) (f107_1 m).2 ∧ (0 ≤ (f107_1 m).1 ∧ (f107_1 m).1 ≤ 1) := by
  obtain ⟨_, r, m1, _, h2, hk1, h⟩ := c107_1 (s := (0, fun _ => 0)) (S := zQ [1, 16, 19] [3, 4]) (m0 := m) (B := B) (d := 15) (Q := fun r m' => ∃ v, f107_1 m = (v, m') ∧ J (zQ [1, 16, 19] [3, 4]) m (B) m' ∧ (0 ≤ v ∧ v ≤ 1))  (Nat.le_refl _) hJ.j hB hp0 (zQ_n rfl) (zQ_n rfl) (zQ_n rfl) (zQ_g (by simp)) (zQ_g (by simp)) (fun v m' hb hF hJ' => ⟨v, hF, hJ', hb⟩) (fun q hq => by
    simp only [List.mem_cons, List.not_mem_nil, or_false] at hq
    subst hq
    · exact zv41) (fun _ h => absurd h List.not_mem_nil) hk
  obtain ⟨v, hF, hJ1, h⟩ := h
  rw [hF]
  exact ⟨hk1, hJ1, h⟩
theorem q99_1 {m : zM} {B : Int} (a1 a2 : Int) (hk : z_mok lL m) (hJ : JB B m) (hB : B + 0 ≤ 1000000000) (ha1 : 0 ≤ a1 ∧ a1 ≤ 1000) (ha2 : (-2147483648) ≤ a2 ∧ a2 ≤ 2147483647) : z_mok lL (f99_1 a1 a2 m).2 ∧ J (zQ [16, 19] [4]) m (B) (f99_1 a1 a2 m).2 ∧ ((-1) ≤ (f99_1 a1 a2 m).1 ∧ (f99_1 a1 a2 m).1 ≤ 1000) ∧ ((f99_1 a1 a2 m).1 ≤ a1) := by
  obtain ⟨_, r, m1, _, h2, hk1, h⟩ := c99_1 (s := (0, fun _ => 0)) (S := zQ [16, 19] [4]) (m0 := m) (B := B) (d := 15) (Q := fun r m' => ∃ v, f99_1 a1 a2 m = (v, m') ∧ J (zQ [16, 19] [4]) m (B) m' ∧ ((-1) ≤ v ∧ v ≤ 1000) ∧ (v ≤ a1)) a1 a2 (Nat.le_refl _) hJ.j hB ha1 ha2 (zQ_n rfl) (zQ_n rfl) (zQ_g (by simp)) (fun v m' hb hF hJ' p0 => ⟨v, hF, hJ', hb, p0⟩) (fun q hq => by
    simp only [List.mem_cons, List.not_mem_nil, or_false] at hq
    rcases hq with rfl | rfl | rfl
    · exact zv41
    · exact (show -2147483648 ≤ a1 ∧ a1 ≤ 2147483647 by omega)
    · exact (show -2147483648 ≤ a2 ∧ a2 ≤ 2147483647 by omega)) (fun _ h => absurd h List.not_mem_nil) hk
  obtain ⟨v, hF, hJ1, h⟩ := h
  rw [hF]
  exact ⟨hk1, hJ1, h⟩
theorem q106_1 {m : zM} {B : Int} (hk : z_mok lL m) (hJ : JB B m) (hB : B + 0 ≤ 1000000000) (hp0 : m 4 41 7 + 6 ≤ 300) : z_mok lL (f106_1 m).2 ∧ J (zQ [1, 16, 19] [3, 4]) m (B) (f106_1 m).2 ∧ (0 ≤ (f106_1 m).1 ∧ (f106_1 m).1 ≤ 1) := by
  obtain ⟨_, r, m1, _, h2, hk1, h⟩ := c106_1 (s := (0, fun _ => 0)) (S := zQ [1, 16, 19] [3, 4]) (m0 := m) (B := B) (d := 16) (Q := fun r m' => ∃ v, f106_1 m = (v, m') ∧ J (zQ [1, 16, 19] [3, 4]) m (B) m' ∧ (0 ≤ v ∧ v ≤ 1))  (Nat.le_refl _) hJ.j hB hp0 (zQ_n rfl) (zQ_n rfl) (zQ_n rfl) (zQ_g (by simp)) (zQ_g (by simp)) (fun v m' hb hF hJ' => ⟨v, hF, hJ', hb⟩) (fun q hq => by
    simp only [List.mem_cons, List.not_mem_nil, or_false] at hq
    subst hq
    · exact zv41) (fun _ h => absurd h List.not_mem_nil) hk
  obtain ⟨v, hF, hJ1, h⟩ := h
  rw [hF]
  exact ⟨hk1, hJ1, h⟩
theorem q103_1 {m : zM} {B : Int} (hk : z_mok lL m) (hJ : JB B m) (hB : B + 0 ≤ 1000000000) : z_mok lL (f103_1 m).2 ∧ J (zQ [19] [4]) m (B) (f103_1 m).2 ∧ (0 ≤ (f103_1 m).1 ∧ (f103_1 m).1 ≤ 1) := by
  obtain ⟨_, r, m1, _, h2, hk1, h⟩ := c103_1 (s := (0, fun _ => 0)) (S := zQ [19] [4]) (m0 := m) (B := B) (d := 14) (Q := fun r m' => ∃ v, f103_1 m = (v, m') ∧ J (zQ [19] [4]) m (B) m' ∧ (0 ≤ v ∧ v ≤ 1))  (Nat.le_refl _) hJ.j hB (zQ_n rfl) (zQ_g (by simp)) (fun v m' hb hF hJ' => ⟨v, hF, hJ', hb⟩) (fun q hq => by
    simp only [List.mem_cons, List.not_mem_nil, or_false] at hq
    subst hq
    · exact zv41) (fun _ h => absurd h List.not_mem_nil) hk
  obtain ⟨v, hF, hJ1, h⟩ := h
  rw [hF]
  exact ⟨hk1, hJ1, h⟩
theorem q105_1 {m : zM} {B : Int} (a1 : Int) (hk : z_mok lL m) (hJ : JB B m) (hB : B + 0 ≤ 1000000000) (ha1 : 58 ≤ a1 ∧ a1 ≤ 58) : z_mok lL (f105_1 a1 m).2 ∧ J (zQ [16, 19] [4]) m (B) (f105_1 a1 m).2 ∧ (0 ≤ (f105_1 a1 m).1 ∧ (f105_1 a1 m).1 ≤ 1) := by
  obtain ⟨_, r, m1, _, h2, hk1, h⟩ := c105_1 (s := (0, fun _ => 0)) (S := zQ [16, 19] [4]) (m0 := m) (B := B) (d := 14) (Q := fun r m' => ∃ v, f105_1 a1 m = (v, m') ∧ J (zQ [16, 19] [4]) m (B) m' ∧ (0 ≤ v ∧ v ≤ 1)) a1 (Nat.le_refl _) hJ.j hB ha1 (zQ_n rfl) (zQ_n rfl) (zQ_g (by simp)) (fun v m' hb hF hJ' => ⟨v, hF, hJ', hb⟩) (fun q hq => by
    simp only [List.mem_cons, List.not_mem_nil, or_false] at hq
    rcases hq with rfl | rfl
    · exact zv41
    · exact (show -2147483648 ≤ a1 ∧ a1 ≤ 2147483647 by omega)) (fun _ h => absurd h List.not_mem_nil) hk
  obtain ⟨v, hF, hJ1, h⟩ := h
  rw [hF]
  exact ⟨hk1, hJ1, h⟩
theorem q105_2 {m : zM} {B : Int} (a1 : Int) (hk : z_mok lL m) (hJ : JB B m) (hB : B + 0 ≤ 1000000000) (ha1 : 59 ≤ a1 ∧ a1 ≤ 59) : z_mok lL (f105_1 a1 m).2 ∧ J (zQ [16, 19] [4]) m (B) (f105_1 a1 m).2 ∧ (0 ≤ (f105_1 a1 m).1 ∧ (f105_1 a1 m).1 ≤ 1) := by
  obtain ⟨_, r, m1, _, h2, hk1, h⟩ := c105_2 (s := (0, fun _ => 0)) (S := zQ [16, 19] [4]) (m0 := m) (B := B) (d := 14) (Q := fun r m' => ∃ v, f105_1 a1 m = (v, m') ∧ J (zQ [16, 19] [4]) m (B) m' ∧ (0 ≤ v ∧ v ≤ 1)) a1 (Nat.le_refl _) hJ.j hB ha1 (zQ_n rfl) (zQ_n rfl) (zQ_g (by simp)) (fun v m' hb hF hJ' => ⟨v, hF, hJ', hb⟩) (fun q hq => by
    simp only [List.mem_cons, List.not_mem_nil, or_false] at hq
    rcases hq with rfl | rfl
    · exact zv41
    · exact (show -2147483648 ≤ a1 ∧ a1 ≤ 2147483647 by omega)) (fun _ h => absurd h List.not_mem_nil) hk
  obtain ⟨v, hF, hJ1, h⟩ := h
  rw [hF]
  exact ⟨hk1, hJ1, h⟩
theorem q104_1 {m : zM} {B : Int} (a1 : Int) (hk : z_mok lL m) (hJ : JB B m) (hB : B + 0 ≤ 1000000000) (ha1 : 0 ≤ a1 ∧ a1 ≤ 7) : z_mok lL (f104_1 a1 m).2 ∧ J (zQ [1, 16, 19] [3, 4]) m (B) (f104_1 a1 m).2 ∧ (0 ≤ (f104_1 a1 m).1 ∧ (f104_1 a1 m).1 ≤ 1) := by
  obtain ⟨_, r, m1, _, h2, hk1, h⟩ := c104_1 (s := (0, fun _ => 0)) (S := zQ [1, 16, 19] [3, 4]) (m0 := m) (B := B) (d := 16) (Q := fun r m' => ∃ v, f104_1 a1 m = (v, m') ∧ J (zQ [1, 16, 19] [3, 4]) m (B) m' ∧ (0 ≤ v ∧ v ≤ 1)) a1 (Nat.le_refl _) hJ.j hB ha1 (zQ_n rfl) (zQ_n rfl) (zQ_n rfl) (zQ_g (by simp)) (zQ_g (by simp)) (fun v m' hb hF hJ' => ⟨v, hF, hJ', hb⟩) (fun q hq => by
    simp only [List.mem_cons, List.not_mem_nil, or_false] at hq
    rcases hq with rfl | rfl
    · exact zv41
    · exact (show -2147483648 ≤ a1 ∧ a1 ≤ 2147483647 by omega)) (fun _ h => absurd h List.not_mem_nil) hk
  obtain ⟨v, hF, hJ1, h⟩ := h
  rw [hF]
  exact ⟨hk1, hJ1, h⟩
theorem q97_1 {m : zM} {B : Int} (hk : z_mok lL m) (hJ : JB B m) (hB : B + 0 ≤ 1000000000) (hp0 : m 4 41 7 + 5 ≤ 300) : z_mok lL (f97_1 m).2 ∧ J (zQ [1, 16, 19] [3, 4]) m (B) (f97_1 m).2 ∧ (0 ≤ (f97_1 m).1 ∧ (f97_1 m).1 ≤ 1) := by
  obtain ⟨_, r, m1, _, h2, hk1, h⟩ := c97_1 (s := (0, fun _ => 0)) (S := zQ [1, 16, 19] [3, 4]) (m0 := m) (B := B) (d := 17) (Q := fun r m' => ∃ v, f97_1 m = (v, m') ∧ J (zQ [1, 16, 19] [3, 4]) m (B) m' ∧ (0 ≤ v ∧ v ≤ 1))  (Nat.le_refl _) hJ.j hB hp0 (zQ_n rfl) (zQ_n rfl) (zQ_n rfl) (zQ_g (by simp)) (zQ_g (by simp)) (fun v m' hb hF hJ' => ⟨v, hF, hJ', hb⟩) (fun q hq => by
    simp only [List.mem_cons, List.not_mem_nil, or_false] at hq
    subst hq
    · exact zv41) (fun _ h => absurd h List.not_mem_nil) hk
  obtain ⟨v, hF, hJ1, h⟩ := h
  rw [hF]
  exact ⟨hk1, hJ1, h⟩
theorem q94_1 {m : zM} {B : Int} (hk : z_mok lL m) (hJ : JB B m) (hB : B + 0 ≤ 1000000000) : z_mok lL (f94_1 m).2 ∧ J (zQ [1, 16, 19] [3, 4]) m (B) (f94_1 m).2 ∧ (0 ≤ (f94_1 m).1 ∧ (f94_1 m).1 ≤ 1) := by
  obtain ⟨_, r, m1, _, h2, hk1, h⟩ := c94_1 (s := (0, fun _ => 0)) (S := zQ [1, 16, 19] [3, 4]) (m0 := m) (B := B) (d := 18) (Q := fun r m' => ∃ v, f94_1 m = (v, m') ∧ J (zQ [1, 16, 19] [3, 4]) m (B) m' ∧ (0 ≤ v ∧ v ≤ 1))  (Nat.le_refl _) hJ.j hB (zQ_n rfl) (zQ_n rfl) (zQ_n rfl) (zQ_g (by simp)) (zQ_g (by simp)) (fun v m' hb hF hJ' => ⟨v, hF, hJ', hb⟩) (fun q hq => by
    simp only [List.mem_cons, List.not_mem_nil, or_false] at hq
    subst hq
    · exact zv41) (fun _ h => absurd h List.not_mem_nil) hk
  obtain ⟨v, hF, hJ1, h⟩ := h
  rw [hF]
  exact ⟨hk1, hJ1, h⟩
theorem q92_1 {m : zM} {B : Int} (hk : z_mok lL m) (hJ : JB B m) (hB : B + 0 ≤ 1000000000) : z_mok lL (f92_1 m).2 ∧ J (zQ [1, 15, 16, 19] [3, 4]) m (B) (f92_1 m).2 ∧ ((-1) ≤ (f92_1 m).1 ∧ (f92_1 m).1 ≤ 301) := by
  obtain ⟨_, r, m1, _, h2, hk1, h⟩ := c92_1 (s := (0, fun _ => 0)) (S := zQ [1, 15, 16, 19] [3, 4]) (m0 := m) (B := B) (d := 19) (Q := fun r m' => ∃ v, f92_1 m = (v, m') ∧ J (zQ [1, 15, 16, 19] [3, 4]) m (B) m' ∧ ((-1) ≤ v ∧ v ≤ 301))  (Nat.le_refl _) hJ.j hB (zQ_n rfl) (zQ_n rfl) (zQ_n rfl) (zQ_n rfl) (zQ_g (by simp)) (zQ_g (by simp)) (fun v m' hb hF hJ' => ⟨v, hF, hJ', hb⟩) (fun q hq => by
    simp only [List.mem_cons, List.not_mem_nil, or_false] at hq
    subst hq
    · exact zv41) (fun _ h => absurd h List.not_mem_nil) hk
  obtain ⟨v, hF, hJ1, h⟩ := h
  rw [hF]
  exact ⟨hk1, hJ1, h⟩
theorem q111_1 {m : zM} {B : Int} (g0 g1 : Nat) (hk : z_mok lL m) (hJ : JB B m) (hB : B + 0 ≤ 1000000000) (hg0 : g0 < 4) (hg1 : g1 < 4) : z_mok lL (f111_1 g0 g1 m) ∧ J (zQ [1] [g0]) m (B) (f111_1 g0 g1 m) := by
  obtain ⟨_, r, m1, _, h2, hk1, h⟩ := c111_1 (s := (0, fun _ => 0)) (S := zQ [1] [g0]) (m0 := m) (B := B) (d := 13) (Q := fun r m' => f111_1 g0 g1 m = m' ∧ J (zQ [1] [g0]) m (B) m') g0 g1 (Nat.le_refl _) hJ.j hB (zQ_n rfl) (zQ_g (by simp)) (fun m' hF hJ' => ⟨hF, hJ'⟩) (fun q hq => by
    simp only [List.mem_cons, List.not_mem_nil, or_false] at hq
    rcases hq with rfl | rfl
    · exact zv11 hg0
    · exact zv11 hg1) (fun _ h => absurd h List.not_mem_nil) hk
  obtain ⟨hF, hJ1⟩ := h
  rw [hF]
  exact ⟨hk1, hJ1⟩
theorem q91_1 {m : zM} {B : Int} (hk : z_mok lL m) (hJ : JB B m) (hB : B + 0 ≤ 1000000000) : z_mok lL (f91_1 m) ∧ J (zQ [15, 16] [4]) m (B) (f91_1 m) := by
  obtain ⟨_, r, m1, _, h2, hk1, h⟩ := c91_1 (s := (0, fun _ => 0)) (S := zQ [15, 16] [4]) (m0 := m) (B := B) (d := 13) (Q := fun r m' => f91_1 m = m' ∧ J (zQ [15, 16] [4]) m (B) m')  (Nat.le_refl _) hJ.j hB (zQ_n rfl) (zQ_n rfl) (zQ_g (by simp)) (fun m' hF hJ' => ⟨hF, hJ'⟩) (fun q hq => by
    simp only [List.mem_cons, List.not_mem_nil, or_false] at hq
    subst hq
    · exact zv41) (fun _ h => absurd h List.not_mem_nil) hk
  obtain ⟨hF, hJ1⟩ := h
  rw [hF]
  exact ⟨hk1, hJ1⟩
theorem q90_1 {m : zM} {B : Int} (hk : z_mok lL m) (hJ : JB B m) (hB : B + 0 ≤ 1000000000) : z_mok lL (f90_1 m).2 ∧ J (zQ [1, 3, 4, 15, 16, 19] [0, 3, 4]) m (B) (f90_1 m).2 ∧ ((-1) ≤ (f90_1 m).1 ∧ (f90_1 m).1 ≤ 301) := by
  obtain ⟨_, r, m1, _, h2, hk1, h⟩ := c90_1 (s := (0, fun _ => 0)) (S := zQ [1, 3, 4, 15, 16, 19] [0, 3, 4]) (m0 := m) (B := B) (d := 20) (Q := fun r m' => ∃ v, f90_1 m = (v, m') ∧ J (zQ [1, 3, 4, 15, 16, 19] [0, 3, 4]) m (B) m' ∧ ((-1) ≤ v ∧ v ≤ 301))  (Nat.le_refl _) hJ.j hB (zQ_n rfl) (zQ_n rfl) (zQ_n rfl) (zQ_n rfl) (zQ_n rfl) (zQ_n rfl) (zQ_g (by simp)) (zQ_g (by simp)) (zQ_g (by simp)) (fun v m' hb hF hJ' => ⟨v, hF, hJ', hb⟩) (fun q hq => by
    simp only [List.mem_cons, List.not_mem_nil, or_false] at hq
    subst hq
    · exact zv40) (fun _ h => absurd h List.not_mem_nil) hk
  obtain ⟨v, hF, hJ1, h⟩ := h
  rw [hF]
  exact ⟨hk1, hJ1, h⟩
theorem q262_1 {m : zM} {B : Int} (hk : z_mok lL m) (hJ : JB B m) (hB : B + 0 ≤ 1000000000) : z_mok lL (f262_1 m) ∧ J (zQ [21, 39] [4]) m (B) (f262_1 m) := by
  obtain ⟨_, r, m1, _, h2, hk1, h⟩ := c262_1 (s := (0, fun _ => 0)) (S := zQ [21, 39] [4]) (m0 := m) (B := B) (d := 13) (Q := fun r m' => f262_1 m = m' ∧ J (zQ [21, 39] [4]) m (B) m')  (Nat.le_refl _) hJ.j hB (zQ_n rfl) (zQ_n rfl) (zQ_g (by simp)) (fun m' hF hJ' => ⟨hF, hJ'⟩) (fun q hq => by
    simp only [List.mem_cons, List.not_mem_nil, or_false] at hq
    subst hq
    · exact zv44) (fun _ h => absurd h List.not_mem_nil) hk
  obtain ⟨hF, hJ1⟩ := h
  rw [hF]
  exact ⟨hk1, hJ1⟩
theorem q263_1 {m : zM} {B : Int} (hk : z_mok lL m) (hJ : JB B m) (hB : B + 0 ≤ 1000000000) : z_mok lL (f263_1 m) ∧ J (zQ [39] [4]) m (B) (f263_1 m) ∧ (m 4 44 8 ≤ (f263_1 m) 4 44 8) ∧ (m 4 44 9 ≤ (f263_1 m) 4 44 9) := by
  obtain ⟨_, r, m1, _, h2, hk1, h⟩ := c263_1 (s := (0, fun _ => 0)) (S := zQ [39] [4]) (m0 := m) (B := B) (d := 13) (Q := fun r m' => f263_1 m = m' ∧ J (zQ [39] [4]) m (B) m' ∧ (m 4 44 8 ≤ m' 4 44 8) ∧ (m 4 44 9 ≤ m' 4 44 9))  (Nat.le_refl _) hJ.j hB (zQ_n rfl) (zQ_g (by simp)) (fun m' hF hJ' p0 p1 => ⟨hF, hJ', p0, p1⟩) (fun q hq => by
    simp only [List.mem_cons, List.not_mem_nil, or_false] at hq
    subst hq
    · exact zv44) (fun _ h => absurd h List.not_mem_nil) hk
  obtain ⟨hF, hJ1, h⟩ := h
  rw [hF]
  exact ⟨hk1, hJ1, h⟩
theorem q267_1 {m : zM} {B : Int} (hk : z_mok lL m) (hJ : JB B m) (hB : B + 0 ≤ 1000000000) : (0 ≤ (f267_1 m) ∧ (f267_1 m) ≤ 300) ∧ (m 4 44 8 ≤ (f267_1 m)) := by
  obtain ⟨_, r, m1, _, h2, hk1, h⟩ := c267_1 (s := (0, fun _ => 0)) (S := zQ [] []) (m0 := m) (B := B) (d := 13) (Q := fun r m' => ∃ v, r = some (zi v) ∧ f267_1 m = v ∧ (0 ≤ v ∧ v ≤ 300) ∧ (m 4 44 8 ≤ v))  (Nat.le_refl _) hJ.j hB  (fun v hb hF p0 => ⟨v, rfl, hF, hb, p0⟩) (fun q hq => by
    simp only [List.mem_cons, List.not_mem_nil, or_false] at hq
    subst hq
    · exact zv44) (fun _ h => absurd h List.not_mem_nil) hk
  obtain ⟨v, hr, hF, h⟩ := h
  rw [hF]
  exact h
theorem q266_1 {m : zM} {B : Int} (a1 a2 a3 a4 a5 a6 a7 a8 : Int) (hk : z_mok lL m) (hJ : JB B m) (hB : B + 0 ≤ 1000000000) (ha1 : 5 ≤ a1 ∧ a1 ≤ 7) (ha2 : 116 ≤ a2 ∧ a2 ≤ 116) (ha3 : 97 ≤ a3 ∧ a3 ≤ 97) (ha4 : 98 ≤ a4 ∧ a4 ≤ 98) (ha5 : 108 ≤ a5 ∧ a5 ≤ 108) (ha6 : 101 ≤ a6 ∧ a6 ≤ 101) (ha7 : 0 ≤ a7 ∧ a7 ≤ 0) (ha8 : 0 ≤ a8 ∧ a8 ≤ 0) : (0 ≤ (f266_1 a1 a2 a3 a4 a5 a6 a7 a8 m) ∧ (f266_1 a1 a2 a3 a4 a5 a6 a7 a8 m) ≤ 1) := by
  obtain ⟨_, r, m1, _, h2, hk1, h⟩ := c266_1 (s := (0, fun _ => 0)) (S := zQ [] []) (m0 := m) (B := B) (d := 14) (Q := fun r m' => ∃ v, r = some (zi v) ∧ f266_1 a1 a2 a3 a4 a5 a6 a7 a8 m = v ∧ (0 ≤ v ∧ v ≤ 1)) a1 a2 a3 a4 a5 a6 a7 a8 (Nat.le_refl _) hJ.j hB ha1 ha2 ha3 ha4 ha5 ha6 ha7 ha8 (fun v hb hF => ⟨v, rfl, hF, hb⟩) (fun q hq => by
    simp only [List.mem_cons, List.not_mem_nil, or_false] at hq
    rcases hq with rfl | rfl | rfl | rfl | rfl | rfl | rfl | rfl | rfl
    · exact zv44
    · exact (show -2147483648 ≤ a1 ∧ a1 ≤ 2147483647 by omega)
    · exact (show -2147483648 ≤ a2 ∧ a2 ≤ 2147483647 by omega)
    · exact (show -2147483648 ≤ a3 ∧ a3 ≤ 2147483647 by omega)
    · exact (show -2147483648 ≤ a4 ∧ a4 ≤ 2147483647 by omega)
    · exact (show -2147483648 ≤ a5 ∧ a5 ≤ 2147483647 by omega)
    · exact (show -2147483648 ≤ a6 ∧ a6 ≤ 2147483647 by omega)
    · exact (show -2147483648 ≤ a7 ∧ a7 ≤ 2147483647 by omega)
    · exact (show -2147483648 ≤ a8 ∧ a8 ≤ 2147483647 by omega)) (fun _ h => absurd h List.not_mem_nil) hk
  obtain ⟨v, hr, hF, h⟩ := h
  rw [hF]
  exact h
theorem q266_2 {m : zM} {B : Int} (a1 a2 a3 a4 a5 a6 a7 a8 : Int) (hk : z_mok lL m) (hJ : JB B m) (hB : B + 0 ≤ 1000000000) (ha1 : 5 ≤ a1 ∧ a1 ≤ 7) (ha2 : 115 ≤ a2 ∧ a2 ≤ 115) (ha3 : 101 ≤ a3 ∧ a3 ≤ 101) (ha4 : 97 ≤ a4 ∧ a4 ≤ 97) (ha5 : 115 ≤ a5 ∧ a5 ≤ 115) (ha6 : 111 ≤ a6 ∧ a6 ≤ 111) (ha7 : 110 ≤ a7 ∧ a7 ≤ 110) (ha8 : 0 ≤ a8 ∧ a8 ≤ 0) : (0 ≤ (f266_1 a1 a2 a3 a4 a5 a6 a7 a8 m) ∧ (f266_1 a1 a2 a3 a4 a5 a6 a7 a8 m) ≤ 1) := by
  obtain ⟨_, r, m1, _, h2, hk1, h⟩ := c266_2 (s := (0, fun _ => 0)) (S := zQ [] []) (m0 := m) (B := B) (d := 14) (Q := fun r m' => ∃ v, r = some (zi v) ∧ f266_1 a1 a2 a3 a4 a5 a6 a7 a8 m = v ∧ (0 ≤ v ∧ v ≤ 1)) a1 a2 a3 a4 a5 a6 a7 a8 (Nat.le_refl _) hJ.j hB ha1 ha2 ha3 ha4 ha5 ha6 ha7 ha8 (fun v hb hF => ⟨v, rfl, hF, hb⟩) (fun q hq => by
    simp only [List.mem_cons, List.not_mem_nil, or_false] at hq
    rcases hq with rfl | rfl | rfl | rfl | rfl | rfl | rfl | rfl | rfl
    · exact zv44
    · exact (show -2147483648 ≤ a1 ∧ a1 ≤ 2147483647 by omega)
    · exact (show -2147483648 ≤ a2 ∧ a2 ≤ 2147483647 by omega)
    · exact (show -2147483648 ≤ a3 ∧ a3 ≤ 2147483647 by omega)
    · exact (show -2147483648 ≤ a4 ∧ a4 ≤ 2147483647 by omega)
    · exact (show -2147483648 ≤ a5 ∧ a5 ≤ 2147483647 by omega)
    · exact (show -2147483648 ≤ a6 ∧ a6 ≤ 2147483647 by omega)
    · exact (show -2147483648 ≤ a7 ∧ a7 ≤ 2147483647 by omega)
    · exact (show -2147483648 ≤ a8 ∧ a8 ≤ 2147483647 by omega)) (fun _ h => absurd h List.not_mem_nil) hk
  obtain ⟨v, hr, hF, h⟩ := h
  rw [hF]
  exact h
theorem q266_3 {m : zM} {B : Int} (a1 a2 a3 a4 a5 a6 a7 a8 : Int) (hk : z_mok lL m) (hJ : JB B m) (hB : B + 0 ≤ 1000000000) (ha1 : 5 ≤ a1 ∧ a1 ≤ 7) (ha2 : 115 ≤ a2 ∧ a2 ≤ 115) (ha3 : 112 ≤ a3 ∧ a3 ≤ 112) (ha4 : 101 ≤ a4 ∧ a4 ≤ 101) (ha5 : 99 ≤ a5 ∧ a5 ≤ 99) (ha6 : 105 ≤ a6 ∧ a6 ≤ 105) (ha7 : 97 ≤ a7 ∧ a7 ≤ 97) (ha8 : 108 ≤ a8 ∧ a8 ≤ 108) : (0 ≤ (f266_1 a1 a2 a3 a4 a5 a6 a7 a8 m) ∧ (f266_1 a1 a2 a3 a4 a5 a6 a7 a8 m) ≤ 1) := by
  obtain ⟨_, r, m1, _, h2, hk1, h⟩ := c266_3 (s := (0, fun _ => 0)) (S := zQ [] []) (m0 := m) (B := B) (d := 14) (Q := fun r m' => ∃ v, r = some (zi v) ∧ f266_1 a1 a2 a3 a4 a5 a6 a7 a8 m = v ∧ (0 ≤ v ∧ v ≤ 1)) a1 a2 a3 a4 a5 a6 a7 a8 (Nat.le_refl _) hJ.j hB ha1 ha2 ha3 ha4 ha5 ha6 ha7 ha8 (fun v hb hF => ⟨v, rfl, hF, hb⟩) (fun q hq => by
    simp only [List.mem_cons, List.not_mem_nil, or_false] at hq
    rcases hq with rfl | rfl | rfl | rfl | rfl | rfl | rfl | rfl | rfl
    · exact zv44
    · exact (show -2147483648 ≤ a1 ∧ a1 ≤ 2147483647 by omega)
    · exact (show -2147483648 ≤ a2 ∧ a2 ≤ 2147483647 by omega)
    · exact (show -2147483648 ≤ a3 ∧ a3 ≤ 2147483647 by omega)
    · exact (show -2147483648 ≤ a4 ∧ a4 ≤ 2147483647 by omega)
    · exact (show -2147483648 ≤ a5 ∧ a5 ≤ 2147483647 by omega)
    · exact (show -2147483648 ≤ a6 ∧ a6 ≤ 2147483647 by omega)
    · exact (show -2147483648 ≤ a7 ∧ a7 ≤ 2147483647 by omega)
    · exact (show -2147483648 ≤ a8 ∧ a8 ≤ 2147483647 by omega)) (fun _ h => absurd h List.not_mem_nil) hk
  obtain ⟨v, hr, hF, h⟩ := h
  rw [hF]
  exact h
theorem q266_4 {m : zM} {B : Int} (a1 a2 a3 a4 a5 a6 a7 a8 : Int) (hk : z_mok lL m) (hJ : JB B m) (hB : B + 0 ≤ 1000000000) (ha1 : 5 ≤ a1 ∧ a1 ≤ 7) (ha2 : 112 ≤ a2 ∧ a2 ≤ 112) (ha3 : 114 ≤ a3 ∧ a3 ≤ 114) (ha4 : 105 ≤ a4 ∧ a4 ≤ 105) (ha5 : 99 ≤ a5 ∧ a5 ≤ 99) (ha6 : 101 ≤ a6 ∧ a6 ≤ 101) (ha7 : 0 ≤ a7 ∧ a7 ≤ 0) (ha8 : 0 ≤ a8 ∧ a8 ≤ 0) : (0 ≤ (f266_1 a1 a2 a3 a4 a5 a6 a7 a8 m) ∧ (f266_1 a1 a2 a3 a4 a5 a6 a7 a8 m) ≤ 1) := by
  obtain ⟨_, r, m1, _, h2, hk1, h⟩ := c266_4 (s := (0, fun _ => 0)) (S := zQ [] []) (m0 := m) (B := B) (d := 14) (Q := fun r m' => ∃ v, r = some (zi v) ∧ f266_1 a1 a2 a3 a4 a5 a6 a7 a8 m = v ∧ (0 ≤ v ∧ v ≤ 1)) a1 a2 a3 a4 a5 a6 a7 a8 (Nat.le_refl _) hJ.j hB ha1 ha2 ha3 ha4 ha5 ha6 ha7 ha8 (fun v hb hF => ⟨v, rfl, hF, hb⟩) (fun q hq => by
    simp only [List.mem_cons, List.not_mem_nil, or_false] at hq
    rcases hq with rfl | rfl | rfl | rfl | rfl | rfl | rfl | rfl | rfl
    · exact zv44
    · exact (show -2147483648 ≤ a1 ∧ a1 ≤ 2147483647 by omega)
    · exact (show -2147483648 ≤ a2 ∧ a2 ≤ 2147483647 by omega)
    · exact (show -2147483648 ≤ a3 ∧ a3 ≤ 2147483647 by omega)
    · exact (show -2147483648 ≤ a4 ∧ a4 ≤ 2147483647 by omega)
    · exact (show -2147483648 ≤ a5 ∧ a5 ≤ 2147483647 by omega)
    · exact (show -2147483648 ≤ a6 ∧ a6 ≤ 2147483647 by omega)
    · exact (show -2147483648 ≤ a7 ∧ a7 ≤ 2147483647 by omega)
    · exact (show -2147483648 ≤ a8 ∧ a8 ≤ 2147483647 by omega)) (fun _ h => absurd h List.not_mem_nil) hk
  obtain ⟨v, hr, hF, h⟩ := h
  rw [hF]
  exact h
theorem q265_1 {m : zM} {B : Int} (hk : z_mok lL m) (hJ : JB B m) (hB : B + 0 ≤ 1000000000) : (0 ≤ (f265_1 m) ∧ (f265_1 m) ≤ 4) := by
  obtain ⟨_, r, m1, _, h2, hk1, h⟩ := c265_1 (s := (0, fun _ => 0)) (S := zQ [] []) (m0 := m) (B := B) (d := 15) (Q := fun r m' => ∃ v, r = some (zi v) ∧ f265_1 m = v ∧ (0 ≤ v ∧ v ≤ 4))  (Nat.le_refl _) hJ.j hB  (fun v hb hF => ⟨v, rfl, hF, hb⟩) (fun q hq => by
    simp only [List.mem_cons, List.not_mem_nil, or_false] at hq
    subst hq
    · exact zv44) (fun _ h => absurd h List.not_mem_nil) hk
  obtain ⟨v, hr, hF, h⟩ := h
  rw [hF]
  exact h
theorem q268_1 {m : zM} {B : Int} (a1 a2 : Int) (hk : z_mok lL m) (hJ : JB B m) (hB : B + 0 ≤ 1000000000) (ha1 : 2 ≤ a1 ∧ a1 ≤ 2) (ha2 : (-2147483648) ≤ a2 ∧ a2 ≤ 2147483647) : z_mok lL (f268_1 a1 a2 m) ∧ J (zQ [36, 39] [4]) m (B) (f268_1 a1 a2 m) ∧ ((f268_1 a1 a2 m) 4 44 9 = 1) ∧ (m 4 44 8 ≤ (f268_1 a1 a2 m) 4 44 8) ∧ (m 4 44 9 ≤ (f268_1 a1 a2 m) 4 44 9) := by
  obtain ⟨_, r, m1, _, h2, hk1, h⟩ := c268_1 (s := (0, fun _ => 0)) (S := zQ [36, 39] [4]) (m0 := m) (B := B) (d := 13) (Q := fun r m' => f268_1 a1 a2 m = m' ∧ J (zQ [36, 39] [4]) m (B) m' ∧ (m' 4 44 9 = 1) ∧ (m 4 44 8 ≤ m' 4 44 8) ∧ (m 4 44 9 ≤ m' 4 44 9)) a1 a2 (Nat.le_refl _) hJ.j hB ha1 ha2 (zQ_n rfl) (zQ_n rfl) (zQ_g (by simp)) (fun m' hF hJ' p0 p1 p2 => ⟨hF, hJ', p0, p1, p2⟩) (fun q hq => by
    simp only [List.mem_cons, List.not_mem_nil, or_false] at hq
    rcases hq with rfl | rfl | rfl
    · exact zv44
    · exact (show -2147483648 ≤ a1 ∧ a1 ≤ 2147483647 by omega)
    · exact (show -2147483648 ≤ a2 ∧ a2 ≤ 2147483647 by omega)) (fun _ h => absurd h List.not_mem_nil) hk
  obtain ⟨hF, hJ1, h⟩ := h
  rw [hF]
  exact ⟨hk1, hJ1, h⟩
theorem q268_2 {m : zM} {B : Int} (a1 a2 : Int) (hk : z_mok lL m) (hJ : JB B m) (hB : B + 0 ≤ 1000000000) (ha1 : 1 ≤ a1 ∧ a1 ≤ 1) (ha2 : 0 ≤ a2 ∧ a2 ≤ 300) : z_mok lL (f268_1 a1 a2 m) ∧ J (zQ [36, 39] [4]) m (B) (f268_1 a1 a2 m) ∧ ((f268_1 a1 a2 m) 4 44 9 = 1) ∧ (m 4 44 8 ≤ (f268_1 a1 a2 m) 4 44 8) ∧ (m 4 44 9 ≤ (f268_1 a1 a2 m) 4 44 9) := by
  obtain ⟨_, r, m1, _, h2, hk1, h⟩ := c268_2 (s := (0, fun _ => 0)) (S := zQ [36, 39] [4]) (m0 := m) (B := B) (d := 13) (Q := fun r m' => f268_1 a1 a2 m = m' ∧ J (zQ [36, 39] [4]) m (B) m' ∧ (m' 4 44 9 = 1) ∧ (m 4 44 8 ≤ m' 4 44 8) ∧ (m 4 44 9 ≤ m' 4 44 9)) a1 a2 (Nat.le_refl _) hJ.j hB ha1 ha2 (zQ_n rfl) (zQ_n rfl) (zQ_g (by simp)) (fun m' hF hJ' p0 p1 p2 => ⟨hF, hJ', p0, p1, p2⟩) (fun q hq => by
    simp only [List.mem_cons, List.not_mem_nil, or_false] at hq
    rcases hq with rfl | rfl | rfl
    · exact zv44
    · exact (show -2147483648 ≤ a1 ∧ a1 ≤ 2147483647 by omega)
    · exact (show -2147483648 ≤ a2 ∧ a2 ≤ 2147483647 by omega)) (fun _ h => absurd h List.not_mem_nil) hk
  obtain ⟨hF, hJ1, h⟩ := h
  rw [hF]
  exact ⟨hk1, hJ1, h⟩
theorem q268_3 {m : zM} {B : Int} (a1 a2 : Int) (hk : z_mok lL m) (hJ : JB B m) (hB : B + 0 ≤ 1000000000) (ha1 : 3 ≤ a1 ∧ a1 ≤ 3) (ha2 : (-2147483648) ≤ a2 ∧ a2 ≤ 2147483647) : z_mok lL (f268_1 a1 a2 m) ∧ J (zQ [36, 39] [4]) m (B) (f268_1 a1 a2 m) ∧ ((f268_1 a1 a2 m) 4 44 9 = 1) ∧ (m 4 44 8 ≤ (f268_1 a1 a2 m) 4 44 8) ∧ (m 4 44 9 ≤ (f268_1 a1 a2 m) 4 44 9) := by
  obtain ⟨_, r, m1, _, h2, hk1, h⟩ := c268_3 (s := (0, fun _ => 0)) (S := zQ [36, 39] [4]) (m0 := m) (B := B) (d := 13) (Q := fun r m' => f268_1 a1 a2 m = m' ∧ J (zQ [36, 39] [4]) m (B) m' ∧ (m' 4 44 9 = 1) ∧ (m 4 44 8 ≤ m' 4 44 8) ∧ (m 4 44 9 ≤ m' 4 44 9)) a1 a2 (Nat.le_refl _) hJ.j hB ha1 ha2 (zQ_n rfl) (zQ_n rfl) (zQ_g (by simp)) (fun m' hF hJ' p0 p1 p2 => ⟨hF, hJ', p0, p1, p2⟩) (fun q hq => by
    simp only [List.mem_cons, List.not_mem_nil, or_false] at hq
    rcases hq with rfl | rfl | rfl
    · exact zv44
    · exact (show -2147483648 ≤ a1 ∧ a1 ≤ 2147483647 by omega)
    · exact (show -2147483648 ≤ a2 ∧ a2 ≤ 2147483647 by omega)) (fun _ h => absurd h List.not_mem_nil) hk
  obtain ⟨hF, hJ1, h⟩ := h
  rw [hF]
  exact ⟨hk1, hJ1, h⟩
theorem q268_4 {m : zM} {B : Int} (a1 a2 : Int) (hk : z_mok lL m) (hJ : JB B m) (hB : B + 0 ≤ 1000000000) (ha1 : 4 ≤ a1 ∧ a1 ≤ 4) (ha2 : (-2147483648) ≤ a2 ∧ a2 ≤ 2147483647) : z_mok lL (f268_1 a1 a2 m) ∧ J (zQ [36, 39] [4]) m (B) (f268_1 a1 a2 m) ∧ ((f268_1 a1 a2 m) 4 44 9 = 1) ∧ (m 4 44 8 ≤ (f268_1 a1 a2 m) 4 44 8) ∧ (m 4 44 9 ≤ (f268_1 a1 a2 m) 4 44 9) := by
  obtain ⟨_, r, m1, _, h2, hk1, h⟩ := c268_4 (s := (0, fun _ => 0)) (S := zQ [36, 39] [4]) (m0 := m) (B := B) (d := 13) (Q := fun r m' => f268_1 a1 a2 m = m' ∧ J (zQ [36, 39] [4]) m (B) m' ∧ (m' 4 44 9 = 1) ∧ (m 4 44 8 ≤ m' 4 44 8) ∧ (m 4 44 9 ≤ m' 4 44 9)) a1 a2 (Nat.le_refl _) hJ.j hB ha1 ha2 (zQ_n rfl) (zQ_n rfl) (zQ_g (by simp)) (fun m' hF hJ' p0 p1 p2 => ⟨hF, hJ', p0, p1, p2⟩) (fun q hq => by
    simp only [List.mem_cons, List.not_mem_nil, or_false] at hq
    rcases hq with rfl | rfl | rfl
    · exact zv44
    · exact (show -2147483648 ≤ a1 ∧ a1 ≤ 2147483647 by omega)
    · exact (show -2147483648 ≤ a2 ∧ a2 ≤ 2147483647 by omega)) (fun _ h => absurd h List.not_mem_nil) hk
  obtain ⟨hF, hJ1, h⟩ := h
  rw [hF]
  exact ⟨hk1, hJ1, h⟩
theorem q270_1 {m : zM} {B : Int} (a1 a2 : Int) (hk : z_mok lL m) (hJ : JB B m) (hB : B + 0 ≤ 1000000000) (ha1 : 0 ≤ a1 ∧ a1 ≤ 0) (ha2 : 0 ≤ a2 ∧ a2 ≤ 1000) : z_mok lL (f270_1 a1 a2 m).2 ∧ J (zQ [36, 39] [4]) m (B) (f270_1 a1 a2 m).2 ∧ (0 ≤ (f270_1 a1 a2 m).1 ∧ (f270_1 a1 a2 m).1 ≤ 1000009) ∧ ((f270_1 a1 a2 m).1 ≤ a2) ∧ ((f270_1 a1 a2 m).2 4 44 9 = 1 ∨ m 4 44 8 < (f270_1 a1 a2 m).2 4 44 8) ∧ (m 4 44 8 ≤ (f270_1 a1 a2 m).2 4 44 8) ∧ (m 4 44 9 ≤ (f270_1 a1 a2 m).2 4 44 9) := by
  obtain ⟨_, r, m1, _, h2, hk1, h⟩ := c270_1 (s := (0, fun _ => 0)) (S := zQ [36, 39] [4]) (m0 := m) (B := B) (d := 14) (Q := fun r m' => ∃ v, f270_1 a1 a2 m = (v, m') ∧ J (zQ [36, 39] [4]) m (B) m' ∧ (0 ≤ v ∧ v ≤ 1000009) ∧ (v ≤ a2) ∧ (m' 4 44 9 = 1 ∨ m 4 44 8 < m' 4 44 8) ∧ (m 4 44 8 ≤ m' 4 44 8) ∧ (m 4 44 9 ≤ m' 4 44 9)) a1 a2 (Nat.le_refl _) hJ.j hB ha1 ha2 (zQ_n rfl) (zQ_n rfl) (zQ_g (by simp)) (fun v m' hb hF hJ' p0 p1 p2 p3 => ⟨v, hF, hJ', hb, p0, p1, p2, p3⟩) (fun q hq => by
    simp only [List.mem_cons, List.not_mem_nil, or_false] at hq
    rcases hq with rfl | rfl | rfl
    · exact zv44
    · exact (show -2147483648 ≤ a1 ∧ a1 ≤ 2147483647 by omega)
    · exact (show -2147483648 ≤ a2 ∧ a2 ≤ 2147483647 by omega)) (fun _ h => absurd h List.not_mem_nil) hk
  obtain ⟨v, hF, hJ1, h⟩ := h
  rw [hF]
  exact ⟨hk1, hJ1, h⟩
theorem q275_1 {m : zM} {B : Int} (hk : z_mok lL m) (hJ : JB B m) (hB : B + 0 ≤ 1000000000) : z_mok lL (f275_1 m) ∧ J (zQ [21, 36, 39] [4]) m (B) (f275_1 m) ∧ (m 4 44 8 ≤ (f275_1 m) 4 44 8) ∧ (m 4 44 9 ≤ (f275_1 m) 4 44 9) := by
  obtain ⟨_, r, m1, _, h2, hk1, h⟩ := c275_1 (s := (0, fun _ => 0)) (S := zQ [21, 36, 39] [4]) (m0 := m) (B := B) (d := 15) (Q := fun r m' => f275_1 m = m' ∧ J (zQ [21, 36, 39] [4]) m (B) m' ∧ (m 4 44 8 ≤ m' 4 44 8) ∧ (m 4 44 9 ≤ m' 4 44 9))  (Nat.le_refl _) hJ.j hB (zQ_n rfl) (zQ_n rfl) (zQ_n rfl) (zQ_g (by simp)) (fun m' hF hJ' p0 p1 => ⟨hF, hJ', p0, p1⟩) (fun q hq => by
    simp only [List.mem_cons, List.not_mem_nil, or_false] at hq
    subst hq
    · exact zv44) (fun _ h => absurd h List.not_mem_nil) hk
  obtain ⟨hF, hJ1, h⟩ := h
  rw [hF]
  exact ⟨hk1, hJ1, h⟩
theorem q272_1 {m : zM} {B : Int} (a1 : Int) (hk : z_mok lL m) (hJ : JB B m) (hB : B + 0 ≤ 1000000000) (ha1 : 59 ≤ a1 ∧ a1 ≤ 59) : z_mok lL (f272_1 a1 m) ∧ J (zQ [36, 39] [4]) m (B) (f272_1 a1 m) ∧ ((f272_1 a1 m) 4 44 9 = 1 ∨ m 4 44 8 < (f272_1 a1 m) 4 44 8) ∧ (m 4 44 8 ≤ (f272_1 a1 m) 4 44 8) ∧ (m 4 44 9 ≤ (f272_1 a1 m) 4 44 9) := by
  obtain ⟨_, r, m1, _, h2, hk1, h⟩ := c272_1 (s := (0, fun _ => 0)) (S := zQ [36, 39] [4]) (m0 := m) (B := B) (d := 14) (Q := fun r m' => f272_1 a1 m = m' ∧ J (zQ [36, 39] [4]) m (B) m' ∧ (m' 4 44 9 = 1 ∨ m 4 44 8 < m' 4 44 8) ∧ (m 4 44 8 ≤ m' 4 44 8) ∧ (m 4 44 9 ≤ m' 4 44 9)) a1 (Nat.le_refl _) hJ.j hB ha1 (zQ_n rfl) (zQ_n rfl) (zQ_g (by simp)) (fun m' hF hJ' p0 p1 p2 => ⟨hF, hJ', p0, p1, p2⟩) (fun q hq => by
    simp only [List.mem_cons, List.not_mem_nil, or_false] at hq
    rcases hq with rfl | rfl
    · exact zv44
    · exact (show -2147483648 ≤ a1 ∧ a1 ≤ 2147483647 by omega)) (fun _ h => absurd h List.not_mem_nil) hk
  obtain ⟨hF, hJ1, h⟩ := h
  rw [hF]
  exact ⟨hk1, hJ1, h⟩
theorem q272_2 {m : zM} {B : Int} (a1 : Int) (hk : z_mok lL m) (hJ : JB B m) (hB : B + 0 ≤ 1000000000) (ha1 : 58 ≤ a1 ∧ a1 ≤ 58) : z_mok lL (f272_1 a1 m) ∧ J (zQ [36, 39] [4]) m (B) (f272_1 a1 m) ∧ ((f272_1 a1 m) 4 44 9 = 1 ∨ m 4 44 8 < (f272_1 a1 m) 4 44 8) ∧ (m 4 44 8 ≤ (f272_1 a1 m) 4 44 8) ∧ (m 4 44 9 ≤ (f272_1 a1 m) 4 44 9) := by
  obtain ⟨_, r, m1, _, h2, hk1, h⟩ := c272_2 (s := (0, fun _ => 0)) (S := zQ [36, 39] [4]) (m0 := m) (B := B) (d := 14) (Q := fun r m' => f272_1 a1 m = m' ∧ J (zQ [36, 39] [4]) m (B) m' ∧ (m' 4 44 9 = 1 ∨ m 4 44 8 < m' 4 44 8) ∧ (m 4 44 8 ≤ m' 4 44 8) ∧ (m 4 44 9 ≤ m' 4 44 9)) a1 (Nat.le_refl _) hJ.j hB ha1 (zQ_n rfl) (zQ_n rfl) (zQ_g (by simp)) (fun m' hF hJ' p0 p1 p2 => ⟨hF, hJ', p0, p1, p2⟩) (fun q hq => by
    simp only [List.mem_cons, List.not_mem_nil, or_false] at hq
    rcases hq with rfl | rfl
    · exact zv44
    · exact (show -2147483648 ≤ a1 ∧ a1 ≤ 2147483647 by omega)) (fun _ h => absurd h List.not_mem_nil) hk
  obtain ⟨hF, hJ1, h⟩ := h
  rw [hF]
  exact ⟨hk1, hJ1, h⟩
theorem q274_1 {m : zM} {B : Int} (hk : z_mok lL m) (hJ : JB B m) (hB : B + 0 ≤ 1000000000) : z_mok lL (f274_1 m) ∧ J (zQ [21, 36, 39] [4]) m (B) (f274_1 m) ∧ (m 4 44 8 ≤ (f274_1 m) 4 44 8) ∧ (m 4 44 9 ≤ (f274_1 m) 4 44 9) := by
  obtain ⟨_, r, m1, _, h2, hk1, h⟩ := c274_1 (s := (0, fun _ => 0)) (S := zQ [21, 36, 39] [4]) (m0 := m) (B := B) (d := 15) (Q := fun r m' => f274_1 m = m' ∧ J (zQ [21, 36, 39] [4]) m (B) m' ∧ (m 4 44 8 ≤ m' 4 44 8) ∧ (m 4 44 9 ≤ m' 4 44 9))  (Nat.le_refl _) hJ.j hB (zQ_n rfl) (zQ_n rfl) (zQ_n rfl) (zQ_g (by simp)) (fun m' hF hJ' p0 p1 => ⟨hF, hJ', p0, p1⟩) (fun q hq => by
    simp only [List.mem_cons, List.not_mem_nil, or_false] at hq
    subst hq
    · exact zv44) (fun _ h => absurd h List.not_mem_nil) hk
  obtain ⟨hF, hJ1, h⟩ := h
  rw [hF]
  exact ⟨hk1, hJ1, h⟩
theorem q271_1 {m : zM} {B : Int} (hk : z_mok lL m) (hJ : JB B m) (hB : B + 0 ≤ 1000000000) : z_mok lL (f271_1 m).2 ∧ J (zQ [39] [4]) m (B) (f271_1 m).2 ∧ (0 ≤ (f271_1 m).1 ∧ (f271_1 m).1 ≤ 1) ∧ (m 4 44 8 ≤ (f271_1 m).2 4 44 8) ∧ (m 4 44 9 ≤ (f271_1 m).2 4 44 9) := by
  obtain ⟨_, r, m1, _, h2, hk1, h⟩ := c271_1 (s := (0, fun _ => 0)) (S := zQ [39] [4]) (m0 := m) (B := B) (d := 14) (Q := fun r m' => ∃ v, f271_1 m = (v, m') ∧ J (zQ [39] [4]) m (B) m' ∧ (0 ≤ v ∧ v ≤ 1) ∧ (m 4 44 8 ≤ m' 4 44 8) ∧ (m 4 44 9 ≤ m' 4 44 9))  (Nat.le_refl _) hJ.j hB (zQ_n rfl) (zQ_g (by simp)) (fun v m' hb hF hJ' p0 p1 => ⟨v, hF, hJ', hb, p0, p1⟩) (fun q hq => by
    simp only [List.mem_cons, List.not_mem_nil, or_false] at hq
    subst hq
    · exact zv44) (fun _ h => absurd h List.not_mem_nil) hk
  obtain ⟨v, hF, hJ1, h⟩ := h
  rw [hF]
  exact ⟨hk1, hJ1, h⟩
theorem q273_1 {m : zM} {B : Int} (a1 a2 : Int) (hk : z_mok lL m) (hJ : JB B m) (hB : B + 0 ≤ 1000000000) (ha1 : 0 ≤ a1 ∧ a1 ≤ 7) (ha2 : 0 ≤ a2 ∧ a2 ≤ 86340) : (0 ≤ (f273_1 a1 a2 m) ∧ (f273_1 a1 a2 m) ≤ 1) := by
  obtain ⟨_, r, m1, _, h2, hk1, h⟩ := c273_1 (s := (0, fun _ => 0)) (S := zQ [] []) (m0 := m) (B := B) (d := 13) (Q := fun r m' => ∃ v, r = some (zi v) ∧ f273_1 a1 a2 m = v ∧ (0 ≤ v ∧ v ≤ 1)) a1 a2 (Nat.le_refl _) hJ.j hB ha1 ha2 (fun v hb hF => ⟨v, rfl, hF, hb⟩) (fun q hq => by
    simp only [List.mem_cons, List.not_mem_nil, or_false] at hq
    rcases hq with rfl | rfl | rfl
    · exact zv44
    · exact (show -2147483648 ≤ a1 ∧ a1 ≤ 2147483647 by omega)
    · exact (show -2147483648 ≤ a2 ∧ a2 ≤ 2147483647 by omega)) (fun _ h => absurd h List.not_mem_nil) hk
  obtain ⟨v, hr, hF, h⟩ := h
  rw [hF]
  exact h
theorem q269_1 {m : zM} {B : Int} (hk : z_mok lL m) (hJ : JB B m) (hB : B + 0 ≤ 1000000000) : z_mok lL (f269_1 m) ∧ J (zQ [21, 36, 39] [4]) m (B) (f269_1 m) ∧ (m 4 44 8 ≤ (f269_1 m) 4 44 8) ∧ (m 4 44 9 ≤ (f269_1 m) 4 44 9) := by
  obtain ⟨_, r, m1, _, h2, hk1, h⟩ := c269_1 (s := (0, fun _ => 0)) (S := zQ [21, 36, 39] [4]) (m0 := m) (B := B) (d := 15) (Q := fun r m' => f269_1 m = m' ∧ J (zQ [21, 36, 39] [4]) m (B) m' ∧ (m 4 44 8 ≤ m' 4 44 8) ∧ (m 4 44 9 ≤ m' 4 44 9))  (Nat.le_refl _) hJ.j hB (zQ_n rfl) (zQ_n rfl) (zQ_n rfl) (zQ_g (by simp)) (fun m' hF hJ' p0 p1 => ⟨hF, hJ', p0, p1⟩) (fun q hq => by
    simp only [List.mem_cons, List.not_mem_nil, or_false] at hq
    subst hq
    · exact zv44) (fun _ h => absurd h List.not_mem_nil) hk
  obtain ⟨hF, hJ1, h⟩ := h
  rw [hF]
  exact ⟨hk1, hJ1, h⟩
theorem q264_1 {m : zM} {B : Int} (hk : z_mok lL m) (hJ : JB B m) (hB : B + 0 ≤ 1000000000) : z_mok lL (f264_1 m) ∧ J (zQ [21, 23, 36, 39] [4]) m (B) (f264_1 m) ∧ ((f264_1 m) 4 44 9 = 1 ∨ m 4 44 8 < (f264_1 m) 4 44 8) ∧ (m 4 44 8 ≤ (f264_1 m) 4 44 8) ∧ (m 4 44 9 ≤ (f264_1 m) 4 44 9) := by
  obtain ⟨_, r, m1, _, h2, hk1, h⟩ := c264_1 (s := (0, fun _ => 0)) (S := zQ [21, 23, 36, 39] [4]) (m0 := m) (B := B) (d := 16) (Q := fun r m' => f264_1 m = m' ∧ J (zQ [21, 23, 36, 39] [4]) m (B) m' ∧ (m' 4 44 9 = 1 ∨ m 4 44 8 < m' 4 44 8) ∧ (m 4 44 8 ≤ m' 4 44 8) ∧ (m 4 44 9 ≤ m' 4 44 9))  (Nat.le_refl _) hJ.j hB (zQ_n rfl) (zQ_n rfl) (zQ_n rfl) (zQ_n rfl) (zQ_g (by simp)) (fun m' hF hJ' p0 p1 p2 => ⟨hF, hJ', p0, p1, p2⟩) (fun q hq => by
    simp only [List.mem_cons, List.not_mem_nil, or_false] at hq
    subst hq
    · exact zv44) (fun _ h => absurd h List.not_mem_nil) hk
  obtain ⟨hF, hJ1, h⟩ := h
  rw [hF]
  exact ⟨hk1, hJ1, h⟩
theorem q260_1 {m : zM} {B : Int} (hk : z_mok lL m) (hJ : JB B m) (hB : B + 0 ≤ 1000000000) : z_mok lL (f260_1 m).2 ∧ J (zQ [21, 22, 23, 24, 25, 26, 27, 28, 29, 30, 31, 32, 33, 35, 36, 38, 39] [4]) m (B) (f260_1 m).2 ∧ ((-1) ≤ (f260_1 m).1 ∧ (f260_1 m).1 ≤ 605) := by
  obtain ⟨_, r, m1, _, h2, hk1, h⟩ := c260_1 (s := (0, fun _ => 0)) (S := zQ [21, 22, 23, 24, 25, 26, 27, 28, 29, 30, 31, 32, 33, 35, 36, 38, 39] [4]) (m0 := m) (B := B) (d := 17) (Q := fun r m' => ∃ v, f260_1 m = (v, m') ∧ J (zQ [21, 22, 23, 24, 25, 26, 27, 28, 29, 30, 31, 32, 33, 35, 36, 38, 39] [4]) m (B) m' ∧ ((-1) ≤ v ∧ v ≤ 605))  (Nat.le_refl _) hJ.j hB (zQ_n rfl) (zQ_n rfl) (zQ_n rfl) (zQ_n rfl) (zQ_n rfl) (zQ_n rfl) (zQ_n rfl) (zQ_n rfl) (zQ_n rfl) (zQ_n rfl) (zQ_n rfl) (zQ_n rfl) (zQ_n rfl) (zQ_n rfl) (zQ_n rfl) (zQ_n rfl) (zQ_n rfl) (zQ_g (by simp)) (fun v m' hb hF hJ' => ⟨v, hF, hJ', hb⟩) (fun q hq => by
    simp only [List.mem_cons, List.not_mem_nil, or_false] at hq
    subst hq
    · exact zv44) (fun _ h => absurd h List.not_mem_nil) hk
  obtain ⟨v, hF, hJ1, h⟩ := h
  rw [hF]
  exact ⟨hk1, hJ1, h⟩
theorem q113_1 {m : zM} {B : Int} (a1 : Int) (hk : z_mok lL m) (hJ : JB B m) (hB : B + 0 ≤ 1000000000) (ha1 : (-2147483648) ≤ a1 ∧ a1 ≤ 2147483647) : ((-2147483648) ≤ (f113_1 a1 m) ∧ (f113_1 a1 m) ≤ 2147483647) := by
  obtain ⟨_, r, m1, _, h2, hk1, h⟩ := c113_1 (s := (0, fun _ => 0)) (S := zQ [] []) (m0 := m) (B := B) (d := 13) (Q := fun r m' => ∃ v, r = some (zi v) ∧ f113_1 a1 m = v ∧ ((-2147483648) ≤ v ∧ v ≤ 2147483647)) a1 (Nat.le_refl _) hJ.j hB ha1 (fun v hb hF => ⟨v, rfl, hF, hb⟩) (fun q hq => by
    simp only [List.mem_cons, List.not_mem_nil, or_false] at hq
    rcases hq with rfl | rfl
    · exact zv40
    · exact (show -2147483648 ≤ a1 ∧ a1 ≤ 2147483647 by omega)) (fun _ h => absurd h List.not_mem_nil) hk
  obtain ⟨v, hr, hF, h⟩ := h
  rw [hF]
  exact h
theorem q259_1 {m : zM} {B : Int} (a1 : Int) (hk : z_mok lL m) (hJ : JB B m) (hB : B + 0 ≤ 1000000000) (ha1 : (-2147483648) ≤ a1 ∧ a1 ≤ 2147483647) : ((-2147483648) ≤ (f259_1 a1 m) ∧ (f259_1 a1 m) ≤ 2147483647) := by
  obtain ⟨_, r, m1, _, h2, hk1, h⟩ := c259_1 (s := (0, fun _ => 0)) (S := zQ [] []) (m0 := m) (B := B) (d := 13) (Q := fun r m' => ∃ v, r = some (zi v) ∧ f259_1 a1 m = v ∧ ((-2147483648) ≤ v ∧ v ≤ 2147483647)) a1 (Nat.le_refl _) hJ.j hB ha1 (fun v hb hF => ⟨v, rfl, hF, hb⟩) (fun q hq => by
    simp only [List.mem_cons, List.not_mem_nil, or_false] at hq
    rcases hq with rfl | rfl
    · exact zv44
    · exact (show -2147483648 ≤ a1 ∧ a1 ≤ 2147483647 by omega)) (fun _ h => absurd h List.not_mem_nil) hk
  obtain ⟨v, hr, hF, h⟩ := h
  rw [hF]
  exact h
theorem q115_1 {m : zM} {B : Int} (g0 : Nat) (a1 : Int) (hk : z_mok lL m) (hJ : JB B m) (hB : B + 0 ≤ 1000000000) (hg0 : g0 < 3) (ha1 : (-2147483648) ≤ a1 ∧ a1 ≤ 2147483647) : z_mok lL (f115_1 g0 a1 m).2 ∧ J (zQ [4] [g0]) m (B) (f115_1 g0 a1 m).2 ∧ (0 ≤ (f115_1 g0 a1 m).1 ∧ (f115_1 g0 a1 m).1 ≤ 1) := by
  obtain ⟨_, r, m1, _, h2, hk1, h⟩ := c115_1 (s := (0, fun _ => 0)) (S := zQ [4] [g0]) (m0 := m) (B := B) (d := 13) (Q := fun r m' => ∃ v, f115_1 g0 a1 m = (v, m') ∧ J (zQ [4] [g0]) m (B) m' ∧ (0 ≤ v ∧ v ≤ 1)) g0 a1 (Nat.le_refl _) hJ.j hB ha1 (zQ_n rfl) (zQ_g (by simp)) (fun v m' hb hF hJ' => ⟨v, hF, hJ', hb⟩) (fun q hq => by
    simp only [List.mem_cons, List.not_mem_nil, or_false] at hq
    rcases hq with rfl | rfl
    · exact zv39 hg0
    · exact (show -2147483648 ≤ a1 ∧ a1 ≤ 2147483647 by omega)) (fun _ h => absurd h List.not_mem_nil) hk
  obtain ⟨v, hF, hJ1, h⟩ := h
  rw [hF]
  exact ⟨hk1, hJ1, h⟩
theorem q114_1 {m : zM} {B : Int} (a1 : Int) (hk : z_mok lL m) (hJ : JB B m) (hB : B + 1 ≤ 1000000000) (ha1 : (-2147483648) ≤ a1 ∧ a1 ≤ 2147483647) : z_mok lL (f114_1 a1 m).2 ∧ J (zQ [4, 6] [0]) m (B + 1) (f114_1 a1 m).2 ∧ (0 ≤ (f114_1 a1 m).1 ∧ (f114_1 a1 m).1 ≤ 1) := by
  obtain ⟨_, r, m1, _, h2, hk1, h⟩ := c114_1 (s := (0, fun _ => 0)) (S := zQ [4, 6] [0]) (m0 := m) (B := B) (d := 15) (Q := fun r m' => ∃ v, f114_1 a1 m = (v, m') ∧ J (zQ [4, 6] [0]) m (B + 1) m' ∧ (0 ≤ v ∧ v ≤ 1)) a1 (Nat.le_refl _) hJ.j hB ha1 (zQ_n rfl) (zQ_n rfl) (zQ_g (by simp)) (fun v m' hb hF hJ' => ⟨v, hF, hJ', hb⟩) (fun q hq => by
    simp only [List.mem_cons, List.not_mem_nil, or_false] at hq
    rcases hq with rfl | rfl
    · exact zv40
    · exact (show -2147483648 ≤ a1 ∧ a1 ≤ 2147483647 by omega)) (fun _ h => absurd h List.not_mem_nil) hk
  obtain ⟨v, hF, hJ1, h⟩ := h
  rw [hF]
  exact ⟨hk1, hJ1, h⟩
theorem q276_1 {m : zM} {B : Int} (a1 : Int) (hk : z_mok lL m) (hJ : JB B m) (hB : B + 1 ≤ 1000000000) (ha1 : (-2147483648) ≤ a1 ∧ a1 ≤ 2147483647) : z_mok lL (f276_1 a1 m).2 ∧ J (zQ [24, 26] [4]) m (B + 1) (f276_1 a1 m).2 ∧ (0 ≤ (f276_1 a1 m).1 ∧ (f276_1 a1 m).1 ≤ 1) := by
  obtain ⟨_, r, m1, _, h2, hk1, h⟩ := c276_1 (s := (0, fun _ => 0)) (S := zQ [24, 26] [4]) (m0 := m) (B := B) (d := 14) (Q := fun r m' => ∃ v, f276_1 a1 m = (v, m') ∧ J (zQ [24, 26] [4]) m (B + 1) m' ∧ (0 ≤ v ∧ v ≤ 1)) a1 (Nat.le_refl _) hJ.j hB ha1 (zQ_n rfl) (zQ_n rfl) (zQ_g (by simp)) (fun v m' hb hF hJ' => ⟨v, hF, hJ', hb⟩) (fun q hq => by
    simp only [List.mem_cons, List.not_mem_nil, or_false] at hq
    rcases hq with rfl | rfl
    · exact zv44
    · exact (show -2147483648 ≤ a1 ∧ a1 ≤ 2147483647 by omega)) (fun _ h => absurd h List.not_mem_nil) hk
  obtain ⟨v, hF, hJ1, h⟩ := h
  rw [hF]
  exact ⟨hk1, hJ1, h⟩
theorem q118_1 {m : zM} {B : Int} (g0 : Nat) (a1 : Int) (hk : z_mok lL m) (hJ : JB B m) (hB : B + 0 ≤ 1000000000) (hg0 : g0 < 3) (ha1 : 0 ≤ a1 ∧ a1 ≤ 2000000000) : (0 ≤ (f118_1 g0 a1 m) ∧ (f118_1 g0 a1 m) ≤ 2000000300) := by
  obtain ⟨_, r, m1, _, h2, hk1, h⟩ := c118_1 (s := (0, fun _ => 0)) (S := zQ [] []) (m0 := m) (B := B) (d := 13) (Q := fun r m' => ∃ v, r = some (zi v) ∧ f118_1 g0 a1 m = v ∧ (0 ≤ v ∧ v ≤ 2000000300)) g0 a1 (Nat.le_refl _) hJ.j hB ha1 (fun v hb hF => ⟨v, rfl, hF, hb⟩) (fun q hq => by
    simp only [List.mem_cons, List.not_mem_nil, or_false] at hq
    rcases hq with rfl | rfl
    · exact zv39 hg0
    · exact (show -2147483648 ≤ a1 ∧ a1 ≤ 2147483647 by omega)) (fun _ h => absurd h List.not_mem_nil) hk
  obtain ⟨v, hr, hF, h⟩ := h
  rw [hF]
  exact h
theorem q121_1 {m : zM} {B : Int} (g0 : Nat) (a1 : Int) (hk : z_mok lL m) (hJ : JB B m) (hB : B + 1 ≤ 1000000000) (hg0 : g0 < 3) (ha1 : 0 ≤ a1 ∧ a1 ≤ 2000000000) : z_mok lL (f121_1 g0 a1 m) ∧ J (zQ [4] [g0]) m (B + 1) (f121_1 g0 a1 m) := by
  obtain ⟨_, r, m1, _, h2, hk1, h⟩ := c121_1 (s := (0, fun _ => 0)) (S := zQ [4] [g0]) (m0 := m) (B := B) (d := 13) (Q := fun r m' => f121_1 g0 a1 m = m' ∧ J (zQ [4] [g0]) m (B + 1) m') g0 a1 (Nat.le_refl _) hJ.j hB ha1 (zQ_n rfl) (zQ_g (by simp)) (fun m' hF hJ' => ⟨hF, hJ'⟩) (fun q hq => by
    simp only [List.mem_cons, List.not_mem_nil, or_false] at hq
    rcases hq with rfl | rfl
    · exact zv39 hg0
    · exact (show -2147483648 ≤ a1 ∧ a1 ≤ 2147483647 by omega)) (fun _ h => absurd h List.not_mem_nil) hk
  obtain ⟨hF, hJ1⟩ := h
  rw [hF]
  exact ⟨hk1, hJ1⟩
theorem q119_1 {m : zM} {B : Int} (g0 : Nat) (hk : z_mok lL m) (hJ : JB B m) (hB : B + 1 ≤ 1000000000) (hg0 : g0 < 3) : z_mok lL (f119_1 g0 m) ∧ J (zQ [4] [g0]) m (B + 1) (f119_1 g0 m) := by
  obtain ⟨_, r, m1, _, h2, hk1, h⟩ := c119_1 (s := (0, fun _ => 0)) (S := zQ [4] [g0]) (m0 := m) (B := B) (d := 13) (Q := fun r m' => f119_1 g0 m = m' ∧ J (zQ [4] [g0]) m (B + 1) m') g0 (Nat.le_refl _) hJ.j hB (zQ_n rfl) (zQ_g (by simp)) (fun m' hF hJ' => ⟨hF, hJ'⟩) (fun q hq => by
    simp only [List.mem_cons, List.not_mem_nil, or_false] at hq
    subst hq
    · exact zv39 hg0) (fun _ h => absurd h List.not_mem_nil) hk
  obtain ⟨hF, hJ1⟩ := h
  rw [hF]
  exact ⟨hk1, hJ1⟩
theorem q117_1 {m : zM} {B : Int} (g0 : Nat) (a1 : Int) (hk : z_mok lL m) (hJ : JB B m) (hB : B + 4 ≤ 1000000000) (hg0 : g0 < 3) (ha1 : (-2147483648) ≤ a1 ∧ a1 ≤ 2147483647) : z_mok lL (f117_1 g0 a1 m).2 ∧ J (zQ [4, 6] [g0]) m (B + 4) (f117_1 g0 a1 m).2 ∧ (0 ≤ (f117_1 g0 a1 m).1 ∧ (f117_1 g0 a1 m).1 ≤ 1) := by
  obtain ⟨_, r, m1, _, h2, hk1, h⟩ := c117_1 (s := (0, fun _ => 0)) (S := zQ [4, 6] [g0]) (m0 := m) (B := B) (d := 15) (Q := fun r m' => ∃ v, f117_1 g0 a1 m = (v, m') ∧ J (zQ [4, 6] [g0]) m (B + 4) m' ∧ (0 ≤ v ∧ v ≤ 1)) g0 a1 (Nat.le_refl _) hJ.j hB ha1 (zQ_n rfl) (zQ_n rfl) (zQ_g (by simp)) (fun v m' hb hF hJ' => ⟨v, hF, hJ', hb⟩) (fun q hq => by
    simp only [List.mem_cons, List.not_mem_nil, or_false] at hq
    rcases hq with rfl | rfl
    · exact zv8 hg0
    · exact (show -2147483648 ≤ a1 ∧ a1 ≤ 2147483647 by omega)) (fun _ h => absurd h List.not_mem_nil) hk
  obtain ⟨v, hF, hJ1, h⟩ := h
  rw [hF]
  exact ⟨hk1, hJ1, h⟩
theorem q116_1 {m : zM} {B : Int} (a1 : Int) (hk : z_mok lL m) (hJ : JB B m) (hB : B + 4 ≤ 1000000000) (ha1 : (-2147483648) ≤ a1 ∧ a1 ≤ 2147483647) : z_mok lL (f116_1 a1 m).2 ∧ J (zQ [4, 6] [0]) m (B + 4) (f116_1 a1 m).2 ∧ (0 ≤ (f116_1 a1 m).1 ∧ (f116_1 a1 m).1 ≤ 1) := by
  obtain ⟨_, r, m1, _, h2, hk1, h⟩ := c116_1 (s := (0, fun _ => 0)) (S := zQ [4, 6] [0]) (m0 := m) (B := B) (d := 16) (Q := fun r m' => ∃ v, f116_1 a1 m = (v, m') ∧ J (zQ [4, 6] [0]) m (B + 4) m' ∧ (0 ≤ v ∧ v ≤ 1)) a1 (Nat.le_refl _) hJ.j hB ha1 (zQ_n rfl) (zQ_n rfl) (zQ_g (by simp)) (fun v m' hb hF hJ' => ⟨v, hF, hJ', hb⟩) (fun q hq => by
    simp only [List.mem_cons, List.not_mem_nil, or_false] at hq
    rcases hq with rfl | rfl
    · exact zv40
    · exact (show -2147483648 ≤ a1 ∧ a1 ≤ 2147483647 by omega)) (fun _ h => absurd h List.not_mem_nil) hk
  obtain ⟨v, hF, hJ1, h⟩ := h
  rw [hF]
  exact ⟨hk1, hJ1, h⟩
theorem q278_1 {m : zM} {B : Int} (hk : z_mok lL m) (hJ : JB B m) (hB : B + 0 ≤ 1000000000) : ((-1999999999) ≤ (f278_1 m) ∧ (f278_1 m) ≤ 2000000300) := by
  obtain ⟨_, r, m1, _, h2, hk1, h⟩ := c278_1 (s := (0, fun _ => 0)) (S := zQ [] []) (m0 := m) (B := B) (d := 13) (Q := fun r m' => ∃ v, r = some (zl v) ∧ f278_1 m = v ∧ ((-1999999999) ≤ v ∧ v ≤ 2000000300))  (Nat.le_refl _) hJ.j hB  (fun v hb hF => ⟨v, rfl, hF, hb⟩) (fun q hq => by
    simp only [List.mem_cons, List.not_mem_nil, or_false] at hq
    subst hq
    · exact zv44) (fun _ h => absurd h List.not_mem_nil) hk
  obtain ⟨v, hr, hF, h⟩ := h
  rw [hF]
  exact h
theorem q277_1 {m : zM} {B : Int} (a1 : Int) (hk : z_mok lL m) (hJ : JB B m) (hB : B + 4 ≤ 1000000000) (ha1 : (-2147483648) ≤ a1 ∧ a1 ≤ 2147483647) : z_mok lL (f277_1 a1 m).2 ∧ J (zQ [24, 26] [4]) m (B + 4) (f277_1 a1 m).2 ∧ (0 ≤ (f277_1 a1 m).1 ∧ (f277_1 a1 m).1 ≤ 1) := by
  obtain ⟨_, r, m1, _, h2, hk1, h⟩ := c277_1 (s := (0, fun _ => 0)) (S := zQ [24, 26] [4]) (m0 := m) (B := B) (d := 14) (Q := fun r m' => ∃ v, f277_1 a1 m = (v, m') ∧ J (zQ [24, 26] [4]) m (B + 4) m' ∧ (0 ≤ v ∧ v ≤ 1)) a1 (Nat.le_refl _) hJ.j hB ha1 (zQ_n rfl) (zQ_n rfl) (zQ_g (by simp)) (fun v m' hb hF hJ' => ⟨v, hF, hJ', hb⟩) (fun q hq => by
    simp only [List.mem_cons, List.not_mem_nil, or_false] at hq
    rcases hq with rfl | rfl
    · exact zv44
    · exact (show -2147483648 ≤ a1 ∧ a1 ≤ 2147483647 by omega)) (fun _ h => absurd h List.not_mem_nil) hk
  obtain ⟨v, hF, hJ1, h⟩ := h
  rw [hF]
  exact ⟨hk1, hJ1, h⟩
theorem q122_1 {m : zM} {B : Int} (a1 a2 : Int) (hk : z_mok lL m) (hJ : JB B m) (hB : B + 0 ≤ 1000000000) (ha1 : (-2147483648) ≤ a1 ∧ a1 ≤ 2147483647) (ha2 : (-2147483648) ≤ a2 ∧ a2 ≤ 2147483647) : z_mok lL (f122_1 a1 a2 m).2 ∧ J (zQ [1, 4] [0]) m (B) (f122_1 a1 a2 m).2 ∧ (0 ≤ (f122_1 a1 a2 m).1 ∧ (f122_1 a1 a2 m).1 ≤ 1) := by
  obtain ⟨_, r, m1, _, h2, hk1, h⟩ := c122_1 (s := (0, fun _ => 0)) (S := zQ [1, 4] [0]) (m0 := m) (B := B) (d := 14) (Q := fun r m' => ∃ v, f122_1 a1 a2 m = (v, m') ∧ J (zQ [1, 4] [0]) m (B) m' ∧ (0 ≤ v ∧ v ≤ 1)) a1 a2 (Nat.le_refl _) hJ.j hB ha1 ha2 (zQ_n rfl) (zQ_n rfl) (zQ_g (by simp)) (fun v m' hb hF hJ' => ⟨v, hF, hJ', hb⟩) (fun q hq => by
    simp only [List.mem_cons, List.not_mem_nil, or_false] at hq
    rcases hq with rfl | rfl | rfl
    · exact zv40
    · exact (show -2147483648 ≤ a1 ∧ a1 ≤ 2147483647 by omega)
    · exact (show -2147483648 ≤ a2 ∧ a2 ≤ 2147483647 by omega)) (fun _ h => absurd h List.not_mem_nil) hk
  obtain ⟨v, hF, hJ1, h⟩ := h
  rw [hF]
  exact ⟨hk1, hJ1, h⟩
theorem q245_1 {m : zM} {B : Int} (a1 a2 : Int) (hk : z_mok lL m) (hJ : JB B m) (hB : B + 0 ≤ 1000000000) (ha1 : (-2147483648) ≤ a1 ∧ a1 ≤ 2147483647) (ha2 : (-2147483648) ≤ a2 ∧ a2 ≤ 2147483647) : z_mok lL (f245_1 a1 a2 m).2 ∧ J (zQ [21, 24] [4]) m (B) (f245_1 a1 a2 m).2 ∧ (0 ≤ (f245_1 a1 a2 m).1 ∧ (f245_1 a1 a2 m).1 ≤ 1) := by
  obtain ⟨_, r, m1, _, h2, hk1, h⟩ := c245_1 (s := (0, fun _ => 0)) (S := zQ [21, 24] [4]) (m0 := m) (B := B) (d := 14) (Q := fun r m' => ∃ v, f245_1 a1 a2 m = (v, m') ∧ J (zQ [21, 24] [4]) m (B) m' ∧ (0 ≤ v ∧ v ≤ 1)) a1 a2 (Nat.le_refl _) hJ.j hB ha1 ha2 (zQ_n rfl) (zQ_n rfl) (zQ_g (by simp)) (fun v m' hb hF hJ' => ⟨v, hF, hJ', hb⟩) (fun q hq => by
    simp only [List.mem_cons, List.not_mem_nil, or_false] at hq
    rcases hq with rfl | rfl | rfl
    · exact zv44
    · exact (show -2147483648 ≤ a1 ∧ a1 ≤ 2147483647 by omega)
    · exact (show -2147483648 ≤ a2 ∧ a2 ≤ 2147483647 by omega)) (fun _ h => absurd h List.not_mem_nil) hk
  obtain ⟨v, hF, hJ1, h⟩ := h
  rw [hF]
  exact ⟨hk1, hJ1, h⟩
theorem q124_1 {m : zM} {B : Int} (a1 a2 a3 : Int) (hk : z_mok lL m) (hJ : JB B m) (hB : B + 0 ≤ 1000000000) (ha1 : (-2147483648) ≤ a1 ∧ a1 ≤ 2147483647) (ha2 : (-2147483648) ≤ a2 ∧ a2 ≤ 2147483647) (ha3 : (-2147483648) ≤ a3 ∧ a3 ≤ 2147483647) : z_mok lL (f124_1 a1 a2 a3 m).2 ∧ J (zQ [1, 4] [0]) m (B) (f124_1 a1 a2 a3 m).2 ∧ (0 ≤ (f124_1 a1 a2 a3 m).1 ∧ (f124_1 a1 a2 a3 m).1 ≤ 1) := by
  obtain ⟨_, r, m1, _, h2, hk1, h⟩ := c124_1 (s := (0, fun _ => 0)) (S := zQ [1, 4] [0]) (m0 := m) (B := B) (d := 14) (Q := fun r m' => ∃ v, f124_1 a1 a2 a3 m = (v, m') ∧ J (zQ [1, 4] [0]) m (B) m' ∧ (0 ≤ v ∧ v ≤ 1)) a1 a2 a3 (Nat.le_refl _) hJ.j hB ha1 ha2 ha3 (zQ_n rfl) (zQ_n rfl) (zQ_g (by simp)) (fun v m' hb hF hJ' => ⟨v, hF, hJ', hb⟩) (fun q hq => by
    simp only [List.mem_cons, List.not_mem_nil, or_false] at hq
    rcases hq with rfl | rfl | rfl | rfl
    · exact zv40
    · exact (show -2147483648 ≤ a1 ∧ a1 ≤ 2147483647 by omega)
    · exact (show -2147483648 ≤ a2 ∧ a2 ≤ 2147483647 by omega)
    · exact (show -2147483648 ≤ a3 ∧ a3 ≤ 2147483647 by omega)) (fun _ h => absurd h List.not_mem_nil) hk
  obtain ⟨v, hF, hJ1, h⟩ := h
  rw [hF]
  exact ⟨hk1, hJ1, h⟩
theorem q247_1 {m : zM} {B : Int} (a1 a2 a3 : Int) (hk : z_mok lL m) (hJ : JB B m) (hB : B + 0 ≤ 1000000000) (ha1 : (-2147483648) ≤ a1 ∧ a1 ≤ 2147483647) (ha2 : (-2147483648) ≤ a2 ∧ a2 ≤ 2147483647) (ha3 : (-2147483648) ≤ a3 ∧ a3 ≤ 2147483647) : z_mok lL (f247_1 a1 a2 a3 m).2 ∧ J (zQ [21, 24] [4]) m (B) (f247_1 a1 a2 a3 m).2 ∧ (0 ≤ (f247_1 a1 a2 a3 m).1 ∧ (f247_1 a1 a2 a3 m).1 ≤ 1) := by
  obtain ⟨_, r, m1, _, h2, hk1, h⟩ := c247_1 (s := (0, fun _ => 0)) (S := zQ [21, 24] [4]) (m0 := m) (B := B) (d := 14) (Q := fun r m' => ∃ v, f247_1 a1 a2 a3 m = (v, m') ∧ J (zQ [21, 24] [4]) m (B) m' ∧ (0 ≤ v ∧ v ≤ 1)) a1 a2 a3 (Nat.le_refl _) hJ.j hB ha1 ha2 ha3 (zQ_n rfl) (zQ_n rfl) (zQ_g (by simp)) (fun v m' hb hF hJ' => ⟨v, hF, hJ', hb⟩) (fun q hq => by
    simp only [List.mem_cons, List.not_mem_nil, or_false] at hq
    rcases hq with rfl | rfl | rfl | rfl
    · exact zv44
    · exact (show -2147483648 ≤ a1 ∧ a1 ≤ 2147483647 by omega)
    · exact (show -2147483648 ≤ a2 ∧ a2 ≤ 2147483647 by omega)
    · exact (show -2147483648 ≤ a3 ∧ a3 ≤ 2147483647 by omega)) (fun _ h => absurd h List.not_mem_nil) hk
  obtain ⟨v, hF, hJ1, h⟩ := h
  rw [hF]
  exact ⟨hk1, hJ1, h⟩
theorem q126_1 {m : zM} {B : Int} (g0 : Nat) (a1 : Int) (hk : z_mok lL m) (hJ : JB B m) (hB : B + 0 ≤ 1000000000) (hg0 : g0 < 4) (ha1 : 0 ≤ a1 ∧ a1 ≤ 364) : z_mok lL (f126_1 g0 a1 m).2 ∧ J (zQ [1] [g0]) m (B) (f126_1 g0 a1 m).2 ∧ (0 ≤ (f126_1 g0 a1 m).1 ∧ (f126_1 g0 a1 m).1 ≤ 1) := by
  obtain ⟨_, r, m1, _, h2, hk1, h⟩ := c126_1 (s := (0, fun _ => 0)) (S := zQ [1] [g0]) (m0 := m) (B := B) (d := 14) (Q := fun r m' => ∃ v, f126_1 g0 a1 m = (v, m') ∧ J (zQ [1] [g0]) m (B) m' ∧ (0 ≤ v ∧ v ≤ 1)) g0 a1 (Nat.le_refl _) hJ.j hB ha1 (zQ_n rfl) (zQ_g (by simp)) (fun v m' hb hF hJ' => ⟨v, hF, hJ', hb⟩) (fun q hq => by
    simp only [List.mem_cons, List.not_mem_nil, or_false] at hq
    rcases hq with rfl | rfl
    · exact zv11 hg0
    · exact (show -2147483648 ≤ a1 ∧ a1 ≤ 2147483647 by omega)) (fun _ h => absurd h List.not_mem_nil) hk
  obtain ⟨v, hF, hJ1, h⟩ := h
  rw [hF]
  exact ⟨hk1, hJ1, h⟩
theorem q125_1 {m : zM} {B : Int} (a1 a2 : Int) (hk : z_mok lL m) (hJ : JB B m) (hB : B + 0 ≤ 1000000000) (ha1 : (-2147483648) ≤ a1 ∧ a1 ≤ 2147483647) (ha2 : (-2147483648) ≤ a2 ∧ a2 ≤ 2147483647) : z_mok lL (f125_1 a1 a2 m).2 ∧ J (zQ [1, 4] [0]) m (B) (f125_1 a1 a2 m).2 ∧ (0 ≤ (f125_1 a1 a2 m).1 ∧ (f125_1 a1 a2 m).1 ≤ 1) := by
  obtain ⟨_, r, m1, _, h2, hk1, h⟩ := c125_1 (s := (0, fun _ => 0)) (S := zQ [1, 4] [0]) (m0 := m) (B := B) (d := 15) (Q := fun r m' => ∃ v, f125_1 a1 a2 m = (v, m') ∧ J (zQ [1, 4] [0]) m (B) m' ∧ (0 ≤ v ∧ v ≤ 1)) a1 a2 (Nat.le_refl _) hJ.j hB ha1 ha2 (zQ_n rfl) (zQ_n rfl) (zQ_g (by simp)) (fun v m' hb hF hJ' => ⟨v, hF, hJ', hb⟩) (fun q hq => by
    simp only [List.mem_cons, List.not_mem_nil, or_false] at hq
    rcases hq with rfl | rfl | rfl
    · exact zv40
    · exact (show -2147483648 ≤ a1 ∧ a1 ≤ 2147483647 by omega)
    · exact (show -2147483648 ≤ a2 ∧ a2 ≤ 2147483647 by omega)) (fun _ h => absurd h List.not_mem_nil) hk
  obtain ⟨v, hF, hJ1, h⟩ := h
  rw [hF]
  exact ⟨hk1, hJ1, h⟩
theorem q249_1 {m : zM} {B : Int} (hk : z_mok lL m) (hJ : JB B m) (hB : B + 0 ≤ 1000000000) : (0 ≤ (f249_1 m) ∧ (f249_1 m) ≤ 365) := by
  obtain ⟨_, r, m1, _, h2, hk1, h⟩ := c249_1 (s := (0, fun _ => 0)) (S := zQ [] []) (m0 := m) (B := B) (d := 13) (Q := fun r m' => ∃ v, r = some (zi v) ∧ f249_1 m = v ∧ (0 ≤ v ∧ v ≤ 365))  (Nat.le_refl _) hJ.j hB  (fun v hb hF => ⟨v, rfl, hF, hb⟩) (fun q hq => by
    simp only [List.mem_cons, List.not_mem_nil, or_false] at hq
    subst hq
    · exact zv44) (fun _ h => absurd h List.not_mem_nil) hk
  obtain ⟨v, hr, hF, h⟩ := h
  rw [hF]
  exact h
theorem q248_1 {m : zM} {B : Int} (a1 a2 : Int) (hk : z_mok lL m) (hJ : JB B m) (hB : B + 0 ≤ 1000000000) (ha1 : (-2147483648) ≤ a1 ∧ a1 ≤ 2147483647) (ha2 : (-2147483648) ≤ a2 ∧ a2 ≤ 2147483647) : z_mok lL (f248_1 a1 a2 m).2 ∧ J (zQ [21, 24] [4]) m (B) (f248_1 a1 a2 m).2 ∧ (0 ≤ (f248_1 a1 a2 m).1 ∧ (f248_1 a1 a2 m).1 ≤ 1) := by
  obtain ⟨_, r, m1, _, h2, hk1, h⟩ := c248_1 (s := (0, fun _ => 0)) (S := zQ [21, 24] [4]) (m0 := m) (B := B) (d := 14) (Q := fun r m' => ∃ v, f248_1 a1 a2 m = (v, m') ∧ J (zQ [21, 24] [4]) m (B) m' ∧ (0 ≤ v ∧ v ≤ 1)) a1 a2 (Nat.le_refl _) hJ.j hB ha1 ha2 (zQ_n rfl) (zQ_n rfl) (zQ_g (by simp)) (fun v m' hb hF hJ' => ⟨v, hF, hJ', hb⟩) (fun q hq => by
    simp only [List.mem_cons, List.not_mem_nil, or_false] at hq
    rcases hq with rfl | rfl | rfl
    · exact zv44
    · exact (show -2147483648 ≤ a1 ∧ a1 ≤ 2147483647 by omega)
    · exact (show -2147483648 ≤ a2 ∧ a2 ≤ 2147483647 by omega)) (fun _ h => absurd h List.not_mem_nil) hk
  obtain ⟨v, hF, hJ1, h⟩ := h
  rw [hF]
  exact ⟨hk1, hJ1, h⟩
theorem q129_1 {m : zM} {B : Int} (g0 : Nat) (a1 : Int) (hk : z_mok lL m) (hJ : JB B m) (hB : B + 2 ≤ 1000000000) (hg0 : g0 < 3) (ha1 : 0 ≤ a1 ∧ a1 ≤ 2000000000) : z_mok lL (f129_1 g0 a1 m).2 ∧ J (zQ [6, 7, 11] [g0]) m (B + 2) (f129_1 g0 a1 m).2 ∧ (0 ≤ (f129_1 g0 a1 m).1 ∧ (f129_1 g0 a1 m).1 ≤ 2000000000) := by
  obtain ⟨_, r, m1, _, h2, hk1, h⟩ := c129_1 (s := (0, fun _ => 0)) (S := zQ [6, 7, 11] [g0]) (m0 := m) (B := B) (d := 15) (Q := fun r m' => ∃ v, f129_1 g0 a1 m = (v, m') ∧ J (zQ [6, 7, 11] [g0]) m (B + 2) m' ∧ (0 ≤ v ∧ v ≤ 2000000000)) g0 a1 (Nat.le_refl _) hJ.j hB ha1 (zQ_n rfl) (zQ_n rfl) (zQ_n rfl) (zQ_g (by simp)) (fun v m' hb hF hJ' => ⟨v, hF, hJ', hb⟩) (fun q hq => by
    simp only [List.mem_cons, List.not_mem_nil, or_false] at hq
    rcases hq with rfl | rfl
    · exact zv8 hg0
    · exact (show -2147483648 ≤ a1 ∧ a1 ≤ 2147483647 by omega)) (fun _ h => absurd h List.not_mem_nil) hk
  obtain ⟨v, hF, hJ1, h⟩ := h
  rw [hF]
  exact ⟨hk1, hJ1, h⟩
theorem q127_1 {m : zM} {B : Int} (a1 : Int) (hk : z_mok lL m) (hJ : JB B m) (hB : B + 2 ≤ 1000000000) (ha1 : (-2147483648) ≤ a1 ∧ a1 ≤ 2147483647) : z_mok lL (f127_1 a1 m).2 ∧ J (zQ [4, 6, 7, 11] [0]) m (B + 2) (f127_1 a1 m).2 ∧ ((-1) ≤ (f127_1 a1 m).1 ∧ (f127_1 a1 m).1 ≤ 2000000000) := by
  obtain ⟨_, r, m1, _, h2, hk1, h⟩ := c127_1 (s := (0, fun _ => 0)) (S := zQ [4, 6, 7, 11] [0]) (m0 := m) (B := B) (d := 16) (Q := fun r m' => ∃ v, f127_1 a1 m = (v, m') ∧ J (zQ [4, 6, 7, 11] [0]) m (B + 2) m' ∧ ((-1) ≤ v ∧ v ≤ 2000000000)) a1 (Nat.le_refl _) hJ.j hB ha1 (zQ_n rfl) (zQ_n rfl) (zQ_n rfl) (zQ_n rfl) (zQ_g (by simp)) (fun v m' hb hF hJ' => ⟨v, hF, hJ', hb⟩) (fun q hq => by
    simp only [List.mem_cons, List.not_mem_nil, or_false] at hq
    rcases hq with rfl | rfl
    · exact zv40
    · exact (show -2147483648 ≤ a1 ∧ a1 ≤ 2147483647 by omega)) (fun _ h => absurd h List.not_mem_nil) hk
  obtain ⟨v, hF, hJ1, h⟩ := h
  rw [hF]
  exact ⟨hk1, hJ1, h⟩
theorem q281_1 {m : zM} {B : Int} (a1 : Int) (hk : z_mok lL m) (hJ : JB B m) (hB : B + 2 ≤ 1000000000) (ha1 : (-2147483648) ≤ a1 ∧ a1 ≤ 2147483647) : z_mok lL (f281_1 a1 m).2 ∧ J (zQ [24, 26, 27, 28, 31] [4]) m (B + 2) (f281_1 a1 m).2 ∧ ((-1) ≤ (f281_1 a1 m).1 ∧ (f281_1 a1 m).1 ≤ 2000000000) := by
  obtain ⟨_, r, m1, _, h2, hk1, h⟩ := c281_1 (s := (0, fun _ => 0)) (S := zQ [24, 26, 27, 28, 31] [4]) (m0 := m) (B := B) (d := 18) (Q := fun r m' => ∃ v, f281_1 a1 m = (v, m') ∧ J (zQ [24, 26, 27, 28, 31] [4]) m (B + 2) m' ∧ ((-1) ≤ v ∧ v ≤ 2000000000)) a1 (Nat.le_refl _) hJ.j hB ha1 (zQ_n rfl) (zQ_n rfl) (zQ_n rfl) (zQ_n rfl) (zQ_n rfl) (zQ_g (by simp)) (fun v m' hb hF hJ' => ⟨v, hF, hJ', hb⟩) (fun q hq => by
    simp only [List.mem_cons, List.not_mem_nil, or_false] at hq
    rcases hq with rfl | rfl
    · exact zv44
    · exact (show -2147483648 ≤ a1 ∧ a1 ≤ 2147483647 by omega)) (fun _ h => absurd h List.not_mem_nil) hk
  obtain ⟨v, hF, hJ1, h⟩ := h
  rw [hF]
  exact ⟨hk1, hJ1, h⟩
theorem q132_1 {m : zM} {B : Int} (g0 g1 : Nat) (a2 : Int) (hk : z_mok lL m) (hJ : JB B m) (hB : B + 4 ≤ 1000000000) (hg0 : g0 < 3) (hg1 : g1 < 3) (ha2 : 0 ≤ a2 ∧ a2 ≤ 2000000000) : z_mok lL (f132_1 g0 g1 a2 m) ∧ J (zQ [6, 9] [g0, g1]) m (B + 4) (f132_1 g0 g1 a2 m) := by
  obtain ⟨_, r, m1, _, h2, hk1, h⟩ := c132_1 (s := (0, fun _ => 0)) (S := zQ [6, 9] [g0, g1]) (m0 := m) (B := B) (d := 15) (Q := fun r m' => f132_1 g0 g1 a2 m = m' ∧ J (zQ [6, 9] [g0, g1]) m (B + 4) m') g0 g1 a2 (Nat.le_refl _) hJ.j hB ha2 (zQ_n rfl) (zQ_n rfl) (zQ_g (by simp)) (zQ_g (by simp)) (fun m' hF hJ' => ⟨hF, hJ'⟩) (fun q hq => by
    simp only [List.mem_cons, List.not_mem_nil, or_false] at hq
    rcases hq with rfl | rfl | rfl
    · exact zv33 hg0
    · exact zv37 hg1
    · exact (show -2147483648 ≤ a2 ∧ a2 ≤ 2147483647 by omega)) (fun _ h => absurd h List.not_mem_nil) hk
  obtain ⟨hF, hJ1⟩ := h
  rw [hF]
  exact ⟨hk1, hJ1⟩
theorem q133_1 {m : zM} {B : Int} (g0 : Nat) (a1 a2 : Int) (hk : z_mok lL m) (hJ : JB B m) (hB : B + 0 ≤ 1000000000) (hg0 : g0 < 3) (ha1 : (-999998) ≤ a1 ∧ a1 ≤ 1000000) (ha2 : (-2147483648) ≤ a2 ∧ a2 ≤ 2147483647) : z_mok lL (f133_1 g0 a1 a2 m) ∧ J (zQ [7] [g0]) m (B) (f133_1 g0 a1 a2 m) := by
  obtain ⟨_, r, m1, _, h2, hk1, h⟩ := c133_1 (s := (0, fun _ => 0)) (S := zQ [7] [g0]) (m0 := m) (B := B) (d := 13) (Q := fun r m' => f133_1 g0 a1 a2 m = m' ∧ J (zQ [7] [g0]) m (B) m') g0 a1 a2 (Nat.le_refl _) hJ.j hB ha1 ha2 (zQ_n rfl) (zQ_g (by simp)) (fun m' hF hJ' => ⟨hF, hJ'⟩) (fun q hq => by
    simp only [List.mem_cons, List.not_mem_nil, or_false] at hq
    rcases hq with rfl | rfl | rfl
    · exact zv27 hg0
    · exact (show -2147483648 ≤ a1 ∧ a1 ≤ 2147483647 by omega)
    · exact (show -2147483648 ≤ a2 ∧ a2 ≤ 2147483647 by omega)) (fun _ h => absurd h List.not_mem_nil) hk
  obtain ⟨hF, hJ1⟩ := h
  rw [hF]
  exact ⟨hk1, hJ1⟩
theorem q131_1 {m : zM} {B : Int} (g0 : Nat) (a1 : Int) (hk : z_mok lL m) (hJ : JB B m) (hB : B + 100006 ≤ 1000000000) (hg0 : g0 < 3) (ha1 : 1 ≤ a1 ∧ a1 ≤ 100000) (hp0 : m g0 8 9 + a1 ≤ 2000000000) : z_mok lL (f131_1 g0 a1 m) ∧ J (zQ [2, 6, 7, 8, 9, 11, 13] [g0]) m (B + 100006) (f131_1 g0 a1 m) := by
  obtain ⟨_, r, m1, _, h2, hk1, h⟩ := c131_1 (s := (0, fun _ => 0)) (S := zQ [2, 6, 7, 8, 9, 11, 13] [g0]) (m0 := m) (B := B) (d := 17) (Q := fun r m' => f131_1 g0 a1 m = m' ∧ J (zQ [2, 6, 7, 8, 9, 11, 13] [g0]) m (B + 100006) m') g0 a1 (Nat.le_refl _) hJ.j hB ha1 hp0 (zQ_n rfl) (zQ_n rfl) (zQ_n rfl) (zQ_n rfl) (zQ_n rfl) (zQ_n rfl) (zQ_n rfl) (zQ_g (by simp)) (fun m' hF hJ' => ⟨hF, hJ'⟩) (fun q hq => by
    simp only [List.mem_cons, List.not_mem_nil, or_false] at hq
    rcases hq with rfl | rfl
    · exact zv8 hg0
    · exact (show -2147483648 ≤ a1 ∧ a1 ≤ 2147483647 by omega)) (fun _ h => absurd h List.not_mem_nil) hk
  obtain ⟨hF, hJ1⟩ := h
  rw [hF]
  exact ⟨hk1, hJ1⟩
theorem q130_1 {m : zM} {B : Int} (a1 : Int) (hk : z_mok lL m) (hJ : JB B m) (hB : B + 100006 ≤ 1000000000) (ha1 : (-2147483648) ≤ a1 ∧ a1 ≤ 2147483647) : z_mok lL (f130_1 a1 m).2 ∧ J (zQ [2, 6, 7, 8, 9, 11, 13] [0]) m (B + 100006) (f130_1 a1 m).2 ∧ ((-1) ≤ (f130_1 a1 m).1 ∧ (f130_1 a1 m).1 ≤ 2000000000) := by
  obtain ⟨_, r, m1, _, h2, hk1, h⟩ := c130_1 (s := (0, fun _ => 0)) (S := zQ [2, 6, 7, 8, 9, 11, 13] [0]) (m0 := m) (B := B) (d := 18) (Q := fun r m' => ∃ v, f130_1 a1 m = (v, m') ∧ J (zQ [2, 6, 7, 8, 9, 11, 13] [0]) m (B + 100006) m' ∧ ((-1) ≤ v ∧ v ≤ 2000000000)) a1 (Nat.le_refl _) hJ.j hB ha1 (zQ_n rfl) (zQ_n rfl) (zQ_n rfl) (zQ_n rfl) (zQ_n rfl) (zQ_n rfl) (zQ_n rfl) (zQ_g (by simp)) (fun v m' hb hF hJ' => ⟨v, hF, hJ', hb⟩) (fun q hq => by
    simp only [List.mem_cons, List.not_mem_nil, or_false] at hq
    rcases hq with rfl | rfl
    · exact zv40
    · exact (show -2147483648 ≤ a1 ∧ a1 ≤ 2147483647 by omega)) (fun _ h => absurd h List.not_mem_nil) hk
  obtain ⟨v, hF, hJ1, h⟩ := h
  rw [hF]
  exact ⟨hk1, hJ1, h⟩
theorem q282_1 {m : zM} {B : Int} (a1 : Int) (hk : z_mok lL m) (hJ : JB B m) (hB : B + 100006 ≤ 1000000000) (ha1 : (-2147483648) ≤ a1 ∧ a1 ≤ 2147483647) : z_mok lL (f282_1 a1 m).2 ∧ J (zQ [22, 26, 27, 28, 29, 31, 33] [4]) m (B + 100006) (f282_1 a1 m).2 ∧ ((-1) ≤ (f282_1 a1 m).1 ∧ (f282_1 a1 m).1 ≤ 2000000000) := by
  obtain ⟨_, r, m1, _, h2, hk1, h⟩ := c282_1 (s := (0, fun _ => 0)) (S := zQ [22, 26, 27, 28, 29, 31, 33] [4]) (m0 := m) (B := B) (d := 19) (Q := fun r m' => ∃ v, f282_1 a1 m = (v, m') ∧ J (zQ [22, 26, 27, 28, 29, 31, 33] [4]) m (B + 100006) m' ∧ ((-1) ≤ v ∧ v ≤ 2000000000)) a1 (Nat.le_refl _) hJ.j hB ha1 (zQ_n rfl) (zQ_n rfl) (zQ_n rfl) (zQ_n rfl) (zQ_n rfl) (zQ_n rfl) (zQ_n rfl) (zQ_g (by simp)) (fun v m' hb hF hJ' => ⟨v, hF, hJ', hb⟩) (fun q hq => by
    simp only [List.mem_cons, List.not_mem_nil, or_false] at hq
    rcases hq with rfl | rfl
    · exact zv44
    · exact (show -2147483648 ≤ a1 ∧ a1 ≤ 2147483647 by omega)) (fun _ h => absurd h List.not_mem_nil) hk
  obtain ⟨v, hF, hJ1, h⟩ := h
  rw [hF]
  exact ⟨hk1, hJ1, h⟩
theorem q134_1 {m : zM} {B : Int} (a1 a2 : Int) (hk : z_mok lL m) (hJ : JB B m) (hB : B + 1 ≤ 1000000000) (ha1 : (-2147483648) ≤ a1 ∧ a1 ≤ 2147483647) (ha2 : 0 ≤ a2 ∧ a2 ≤ 1) : z_mok lL (f134_1 a1 a2 m).2 ∧ J (zQ [6, 9] [0]) m (B + 1) (f134_1 a1 a2 m).2 ∧ (0 ≤ (f134_1 a1 a2 m).1 ∧ (f134_1 a1 a2 m).1 ≤ 1) := by
  obtain ⟨_, r, m1, _, h2, hk1, h⟩ := c134_1 (s := (0, fun _ => 0)) (S := zQ [6, 9] [0]) (m0 := m) (B := B) (d := 15) (Q := fun r m' => ∃ v, f134_1 a1 a2 m = (v, m') ∧ J (zQ [6, 9] [0]) m (B + 1) m' ∧ (0 ≤ v ∧ v ≤ 1)) a1 a2 (Nat.le_refl _) hJ.j hB ha1 ha2 (zQ_n rfl) (zQ_n rfl) (zQ_g (by simp)) (fun v m' hb hF hJ' => ⟨v, hF, hJ', hb⟩) (fun q hq => by
    simp only [List.mem_cons, List.not_mem_nil, or_false] at hq
    rcases hq with rfl | rfl | rfl
    · exact zv40
    · exact (show -2147483648 ≤ a1 ∧ a1 ≤ 2147483647 by omega)
    · exact (show -2147483648 ≤ a2 ∧ a2 ≤ 2147483647 by omega)) (fun _ h => absurd h List.not_mem_nil) hk
  obtain ⟨v, hF, hJ1, h⟩ := h
  rw [hF]
  exact ⟨hk1, hJ1, h⟩
theorem q283_1 {m : zM} {B : Int} (a1 a2 : Int) (hk : z_mok lL m) (hJ : JB B m) (hB : B + 1 ≤ 1000000000) (ha1 : (-2147483648) ≤ a1 ∧ a1 ≤ 2147483647) (ha2 : 0 ≤ a2 ∧ a2 ≤ 1) : z_mok lL (f283_1 a1 a2 m).2 ∧ J (zQ [26, 29] [4]) m (B + 1) (f283_1 a1 a2 m).2 ∧ (0 ≤ (f283_1 a1 a2 m).1 ∧ (f283_1 a1 a2 m).1 ≤ 1) := by
  obtain ⟨_, r, m1, _, h2, hk1, h⟩ := c283_1 (s := (0, fun _ => 0)) (S := zQ [26, 29] [4]) (m0 := m) (B := B) (d := 15) (Q := fun r m' => ∃ v, f283_1 a1 a2 m = (v, m') ∧ J (zQ [26, 29] [4]) m (B + 1) m' ∧ (0 ≤ v ∧ v ≤ 1)) a1 a2 (Nat.le_refl _) hJ.j hB ha1 ha2 (zQ_n rfl) (zQ_n rfl) (zQ_g (by simp)) (fun v m' hb hF hJ' => ⟨v, hF, hJ', hb⟩) (fun q hq => by
    simp only [List.mem_cons, List.not_mem_nil, or_false] at hq
    rcases hq with rfl | rfl | rfl
    · exact zv44
    · exact (show -2147483648 ≤ a1 ∧ a1 ≤ 2147483647 by omega)
    · exact (show -2147483648 ≤ a2 ∧ a2 ≤ 2147483647 by omega)) (fun _ h => absurd h List.not_mem_nil) hk
  obtain ⟨v, hF, hJ1, h⟩ := h
  rw [hF]
  exact ⟨hk1, hJ1, h⟩
theorem q135_1 {m : zM} {B : Int} (a1 : Int) (hk : z_mok lL m) (hJ : JB B m) (hB : B + 1 ≤ 1000000000) (ha1 : 0 ≤ a1 ∧ a1 ≤ 1) : z_mok lL (f135_1 a1 m).2 ∧ J (zQ [6, 12] [0]) m (B + 1) (f135_1 a1 m).2 ∧ (0 ≤ (f135_1 a1 m).1 ∧ (f135_1 a1 m).1 ≤ 1) := by
  obtain ⟨_, r, m1, _, h2, hk1, h⟩ := c135_1 (s := (0, fun _ => 0)) (S := zQ [6, 12] [0]) (m0 := m) (B := B) (d := 16) (Q := fun r m' => ∃ v, f135_1 a1 m = (v, m') ∧ J (zQ [6, 12] [0]) m (B + 1) m' ∧ (0 ≤ v ∧ v ≤ 1)) a1 (Nat.le_refl _) hJ.j hB ha1 (zQ_n rfl) (zQ_n rfl) (zQ_g (by simp)) (fun v m' hb hF hJ' => ⟨v, hF, hJ', hb⟩) (fun q hq => by
    simp only [List.mem_cons, List.not_mem_nil, or_false] at hq
    rcases hq with rfl | rfl
    · exact zv40
    · exact (show -2147483648 ≤ a1 ∧ a1 ≤ 2147483647 by omega)) (fun _ h => absurd h List.not_mem_nil) hk
  obtain ⟨v, hF, hJ1, h⟩ := h
  rw [hF]
  exact ⟨hk1, hJ1, h⟩
theorem q284_1 {m : zM} {B : Int} (a1 : Int) (hk : z_mok lL m) (hJ : JB B m) (hB : B + 1 ≤ 1000000000) (ha1 : 0 ≤ a1 ∧ a1 ≤ 1) : z_mok lL (f284_1 a1 m).2 ∧ J (zQ [26, 32] [4]) m (B + 1) (f284_1 a1 m).2 ∧ (0 ≤ (f284_1 a1 m).1 ∧ (f284_1 a1 m).1 ≤ 1) := by
  obtain ⟨_, r, m1, _, h2, hk1, h⟩ := c284_1 (s := (0, fun _ => 0)) (S := zQ [26, 32] [4]) (m0 := m) (B := B) (d := 15) (Q := fun r m' => ∃ v, f284_1 a1 m = (v, m') ∧ J (zQ [26, 32] [4]) m (B + 1) m' ∧ (0 ≤ v ∧ v ≤ 1)) a1 (Nat.le_refl _) hJ.j hB ha1 (zQ_n rfl) (zQ_n rfl) (zQ_g (by simp)) (fun v m' hb hF hJ' => ⟨v, hF, hJ', hb⟩) (fun q hq => by
    simp only [List.mem_cons, List.not_mem_nil, or_false] at hq
    rcases hq with rfl | rfl
    · exact zv44
    · exact (show -2147483648 ≤ a1 ∧ a1 ≤ 2147483647 by omega)) (fun _ h => absurd h List.not_mem_nil) hk
  obtain ⟨v, hF, hJ1, h⟩ := h
  rw [hF]
  exact ⟨hk1, hJ1, h⟩
theorem q136_1 {m : zM} {B : Int} (a1 : Int) (hk : z_mok lL m) (hJ : JB B m) (hB : B + 1 ≤ 1000000000) (ha1 : (-2147483648) ≤ a1 ∧ a1 ≤ 2147483647) : z_mok lL (f136_1 a1 m).2 ∧ J (zQ [6, 12] [0]) m (B + 1) (f136_1 a1 m).2 ∧ (-9223372036854775808 ≤ (f136_1 a1 m).1 ∧ (f136_1 a1 m).1 ≤ 9223372036854775807) := by
  obtain ⟨_, r, m1, _, h2, hk1, h⟩ := c136_1 (s := (0, fun _ => 0)) (S := zQ [6, 12] [0]) (m0 := m) (B := B) (d := 16) (Q := fun r m' => ∃ v, r = some (zl v) ∧ f136_1 a1 m = (v, m') ∧ J (zQ [6, 12] [0]) m (B + 1) m' ∧ (True)) a1 (Nat.le_refl _) hJ.j hB ha1 (zQ_n rfl) (zQ_n rfl) (zQ_g (by simp)) (fun v m' hb hF hJ' => ⟨v, rfl, hF, hJ', hb⟩) (fun q hq => by
    simp only [List.mem_cons, List.not_mem_nil, or_false] at hq
    rcases hq with rfl | rfl
    · exact zv40
    · exact (show -2147483648 ≤ a1 ∧ a1 ≤ 2147483647 by omega)) (fun _ h => absurd h List.not_mem_nil) hk
  obtain ⟨v, hr, hF, hJ1, h⟩ := h
  rw [hF]
  exact ⟨hk1, hJ1, h2 _ hr⟩
theorem q285_1 {m : zM} {B : Int} (a1 : Int) (hk : z_mok lL m) (hJ : JB B m) (hB : B + 1 ≤ 1000000000) (ha1 : (-2147483648) ≤ a1 ∧ a1 ≤ 2147483647) : z_mok lL (f285_1 a1 m).2 ∧ J (zQ [26, 32] [4]) m (B + 1) (f285_1 a1 m).2 ∧ (-9223372036854775808 ≤ (f285_1 a1 m).1 ∧ (f285_1 a1 m).1 ≤ 9223372036854775807) := by
  obtain ⟨_, r, m1, _, h2, hk1, h⟩ := c285_1 (s := (0, fun _ => 0)) (S := zQ [26, 32] [4]) (m0 := m) (B := B) (d := 15) (Q := fun r m' => ∃ v, r = some (zl v) ∧ f285_1 a1 m = (v, m') ∧ J (zQ [26, 32] [4]) m (B + 1) m' ∧ (True)) a1 (Nat.le_refl _) hJ.j hB ha1 (zQ_n rfl) (zQ_n rfl) (zQ_g (by simp)) (fun v m' hb hF hJ' => ⟨v, rfl, hF, hJ', hb⟩) (fun q hq => by
    simp only [List.mem_cons, List.not_mem_nil, or_false] at hq
    rcases hq with rfl | rfl
    · exact zv44
    · exact (show -2147483648 ≤ a1 ∧ a1 ≤ 2147483647 by omega)) (fun _ h => absurd h List.not_mem_nil) hk
  obtain ⟨v, hr, hF, hJ1, h⟩ := h
  rw [hF]
  exact ⟨hk1, hJ1, h2 _ hr⟩
theorem q139_1 {m : zM} {B : Int} (g0 g2 : Nat) (a1 : Int) (hk : z_mok lL m) (hJ : JB B m) (hB : B + 1 ≤ 1000000000) (hg0 : g0 < 3) (hg2 : g2 < 3) (ha1 : 0 ≤ a1 ∧ a1 ≤ 2000000000) : z_mok lL (f139_1 g0 g2 a1 m) ∧ J (zQ [5] [g0]) m (B + 1) (f139_1 g0 g2 a1 m) := by
  obtain ⟨_, r, m1, _, h2, hk1, h⟩ := c139_1 (s := (0, fun _ => 0)) (S := zQ [5] [g0]) (m0 := m) (B := B) (d := 13) (Q := fun r m' => f139_1 g0 g2 a1 m = m' ∧ J (zQ [5] [g0]) m (B + 1) m') g0 g2 a1 (Nat.le_refl _) hJ.j hB ha1 (zQ_n rfl) (zQ_g (by simp)) (fun m' hF hJ' => ⟨hF, hJ'⟩) (fun q hq => by
    simp only [List.mem_cons, List.not_mem_nil, or_false] at hq
    rcases hq with rfl | rfl | rfl
    · exact zv23 hg0
    · exact (show -2147483648 ≤ a1 ∧ a1 ≤ 2147483647 by omega)
    · exact zv30 hg2) (fun _ h => absurd h List.not_mem_nil) hk
  obtain ⟨hF, hJ1⟩ := h
  rw [hF]
  exact ⟨hk1, hJ1⟩
theorem q11_2 {m : zM} {B : Int} (g0 : Nat) (a1 : Int) (hk : z_mok lL m) (hJ : JB B m) (hB : B + 0 ≤ 1000000000) (hg0 : g0 < 3) (ha1 : (-1) ≤ a1 ∧ a1 ≤ (-1)) : z_mok lL (f11_2 g0 a1 m) ∧ J (zQ [8] [g0]) m (B) (f11_2 g0 a1 m) := by
  obtain ⟨_, r, m1, _, h2, hk1, h⟩ := c11_2 (s := (0, fun _ => 0)) (S := zQ [8] [g0]) (m0 := m) (B := B) (d := 13) (Q := fun r m' => f11_2 g0 a1 m = m' ∧ J (zQ [8] [g0]) m (B) m') g0 a1 (Nat.le_refl _) hJ.j hB ha1 (zQ_n rfl) (zQ_g (by simp)) (fun m' hF hJ' => ⟨hF, hJ'⟩) (fun q hq => by
    simp only [List.mem_cons, List.not_mem_nil, or_false] at hq
    rcases hq with rfl | rfl
    · exact zv31 hg0
    · exact (show -9223372036854775808 ≤ a1 ∧ a1 ≤ 9223372036854775807 by omega)) (fun _ h => absurd h List.not_mem_nil) hk
  obtain ⟨hF, hJ1⟩ := h
  rw [hF]
  exact ⟨hk1, hJ1⟩
theorem q5_4 {m : zM} {B : Int} (g0 : Nat) (a1 : Int) (hk : z_mok lL m) (hJ : JB B m) (hB : B + 0 ≤ 1000000000) (hg0 : g0 < 3) (ha1 : (-1) ≤ a1 ∧ a1 ≤ (-1)) : z_mok lL (f5_4 g0 a1 m) ∧ J (zQ [8] [g0]) m (B) (f5_4 g0 a1 m) := by
  obtain ⟨_, r, m1, _, h2, hk1, h⟩ := c5_4 (s := (0, fun _ => 0)) (S := zQ [8] [g0]) (m0 := m) (B := B) (d := 13) (Q := fun r m' => f5_4 g0 a1 m = m' ∧ J (zQ [8] [g0]) m (B) m') g0 a1 (Nat.le_refl _) hJ.j hB ha1 (zQ_n rfl) (zQ_g (by simp)) (fun m' hF hJ' => ⟨hF, hJ'⟩) (fun q hq => by
    simp only [List.mem_cons, List.not_mem_nil, or_false] at hq
    rcases hq with rfl | rfl
    · exact zv32 hg0
    · exact (show -2147483648 ≤ a1 ∧ a1 ≤ 2147483647 by omega)) (fun _ h => absurd h List.not_mem_nil) hk
  obtain ⟨hF, hJ1⟩ := h
  rw [hF]
  exact ⟨hk1, hJ1⟩
theorem q10_1 {m : zM} {B : Int} (g0 : Nat) (hk : z_mok lL m) (hJ : JB B m) (hB : B + 0 ≤ 1000000000) (hg0 : g0 < 3) : z_mok lL (f10_1 g0 m) ∧ J (zQ [8] [g0]) m (B) (f10_1 g0 m) := by
  obtain ⟨_, r, m1, _, h2, hk1, h⟩ := c10_1 (s := (0, fun _ => 0)) (S := zQ [8] [g0]) (m0 := m) (B := B) (d := 14) (Q := fun r m' => f10_1 g0 m = m' ∧ J (zQ [8] [g0]) m (B) m') g0 (Nat.le_refl _) hJ.j hB (zQ_n rfl) (zQ_g (by simp)) (fun m' hF hJ' => ⟨hF, hJ'⟩) (fun q hq => by
    simp only [List.mem_cons, List.not_mem_nil, or_false] at hq
    subst hq
    · exact zv30 hg0) (fun _ h => absurd h List.not_mem_nil) hk
  obtain ⟨hF, hJ1⟩ := h
  rw [hF]
  exact ⟨hk1, hJ1⟩
theorem q138_1 {m : zM} {B : Int} (g0 : Nat) (hk : z_mok lL m) (hJ : JB B m) (hB : B + 2 ≤ 1000000000) (hg0 : g0 < 3) : z_mok lL (f138_1 g0 m) ∧ J (zQ [5, 6, 8] [g0]) m (B + 2) (f138_1 g0 m) := by
  obtain ⟨_, r, m1, _, h2, hk1, h⟩ := c138_1 (s := (0, fun _ => 0)) (S := zQ [5, 6, 8] [g0]) (m0 := m) (B := B) (d := 15) (Q := fun r m' => f138_1 g0 m = m' ∧ J (zQ [5, 6, 8] [g0]) m (B + 2) m') g0 (Nat.le_refl _) hJ.j hB (zQ_n rfl) (zQ_n rfl) (zQ_n rfl) (zQ_g (by simp)) (fun m' hF hJ' => ⟨hF, hJ'⟩) (fun q hq => by
    simp only [List.mem_cons, List.not_mem_nil, or_false] at hq
    subst hq
    · exact zv8 hg0) (fun _ h => absurd h List.not_mem_nil) hk
  obtain ⟨hF, hJ1⟩ := h
  rw [hF]
  exact ⟨hk1, hJ1⟩
theorem q137_1 {m : zM} {B : Int} (hk : z_mok lL m) (hJ : JB B m) (hB : B + 2 ≤ 1000000000) : z_mok lL (f137_1 m).2 ∧ J (zQ [5, 6, 8] [0]) m (B + 2) (f137_1 m).2 ∧ (0 ≤ (f137_1 m).1 ∧ (f137_1 m).1 ≤ 1000000000) := by
  obtain ⟨_, r, m1, _, h2, hk1, h⟩ := c137_1 (s := (0, fun _ => 0)) (S := zQ [5, 6, 8] [0]) (m0 := m) (B := B) (d := 16) (Q := fun r m' => ∃ v, f137_1 m = (v, m') ∧ J (zQ [5, 6, 8] [0]) m (B + 2) m' ∧ (0 ≤ v ∧ v ≤ 1000000000))  (Nat.le_refl _) hJ.j hB (zQ_n rfl) (zQ_n rfl) (zQ_n rfl) (zQ_g (by simp)) (fun v m' hb hF hJ' => ⟨v, hF, hJ', hb⟩) (fun q hq => by
    simp only [List.mem_cons, List.not_mem_nil, or_false] at hq
    subst hq
    · exact zv40) (fun _ h => absurd h List.not_mem_nil) hk
  obtain ⟨v, hF, hJ1, h⟩ := h
  rw [hF]
  exact ⟨hk1, hJ1, h⟩
theorem q286_1 {m : zM} {B : Int} (hk : z_mok lL m) (hJ : JB B m) (hB : B + 2 ≤ 1000000000) : z_mok lL (f286_1 m).2 ∧ J (zQ [25, 26, 28] [4]) m (B + 2) (f286_1 m).2 ∧ (0 ≤ (f286_1 m).1 ∧ (f286_1 m).1 ≤ 1000000000) := by
  obtain ⟨_, r, m1, _, h2, hk1, h⟩ := c286_1 (s := (0, fun _ => 0)) (S := zQ [25, 26, 28] [4]) (m0 := m) (B := B) (d := 14) (Q := fun r m' => ∃ v, f286_1 m = (v, m') ∧ J (zQ [25, 26, 28] [4]) m (B + 2) m' ∧ (0 ≤ v ∧ v ≤ 1000000000))  (Nat.le_refl _) hJ.j hB (zQ_n rfl) (zQ_n rfl) (zQ_n rfl) (zQ_g (by simp)) (fun v m' hb hF hJ' => ⟨v, hF, hJ', hb⟩) (fun q hq => by
    simp only [List.mem_cons, List.not_mem_nil, or_false] at hq
    subst hq
    · exact zv44) (fun _ h => absurd h List.not_mem_nil) hk
  obtain ⟨v, hF, hJ1, h⟩ := h
  rw [hF]
  exact ⟨hk1, hJ1, h⟩
theorem q142_1 {m : zM} {B : Int} (g0 : Nat) (a1 a2 : Int) (hk : z_mok lL m) (hJ : JB B m) (hB : B + 0 ≤ 1000000000) (hg0 : g0 < 3) (ha1 : 2 ≤ a1 ∧ a1 ≤ 3) (ha2 : (-1) ≤ a2 ∧ a2 ≤ 2) : (-9223372036854775808 ≤ (f142_1 g0 a1 a2 m) ∧ (f142_1 g0 a1 a2 m) ≤ 9223372036854775807) := by
  obtain ⟨_, r, m1, _, h2, hk1, h⟩ := c142_1 (s := (0, fun _ => 0)) (S := zQ [] []) (m0 := m) (B := B) (d := 14) (Q := fun r m' => ∃ v, r = some (zl v) ∧ f142_1 g0 a1 a2 m = v ∧ (True)) g0 a1 a2 (Nat.le_refl _) hJ.j hB ha1 ha2 (fun v hb hF => ⟨v, rfl, hF, hb⟩) (fun q hq => by
    simp only [List.mem_cons, List.not_mem_nil, or_false] at hq
    rcases hq with rfl | rfl | rfl
    · exact zv19 hg0
    · exact (show -2147483648 ≤ a1 ∧ a1 ≤ 2147483647 by omega)
    · exact (show -2147483648 ≤ a2 ∧ a2 ≤ 2147483647 by omega)) (fun _ h => absurd h List.not_mem_nil) hk
  obtain ⟨v, hr, hF, h⟩ := h
  rw [hF]
  exact h2 _ hr
theorem q143_1 {m : zM} {B : Int} (a0 a1 : Int) (hk : z_mok lL m) (hJ : JB B m) (hB : B + 0 ≤ 1000000000) (ha0 : -9223372036854775808 ≤ a0 ∧ a0 ≤ 9223372036854775807) (ha1 : -9223372036854775808 ≤ a1 ∧ a1 ≤ 9223372036854775807) : (-9223372036854775808 ≤ (f143_1 a0 a1 m) ∧ (f143_1 a0 a1 m) ≤ 9223372036854775807) := by
  obtain ⟨_, r, m1, _, h2, hk1, h⟩ := c143_1 (s := (0, fun _ => 0)) (S := zQ [] []) (m0 := m) (B := B) (d := 13) (Q := fun r m' => ∃ v, r = some (zl v) ∧ f143_1 a0 a1 m = v ∧ (True)) a0 a1 (Nat.le_refl _) hJ.j hB  (fun v hb hF => ⟨v, rfl, hF, hb⟩) (fun q hq => by
    simp only [List.mem_cons, List.not_mem_nil, or_false] at hq
    rcases hq with rfl | rfl
    · exact (show -9223372036854775808 ≤ a0 ∧ a0 ≤ 9223372036854775807 by omega)
    · exact (show -9223372036854775808 ≤ a1 ∧ a1 ≤ 9223372036854775807 by omega)) (fun _ h => absurd h List.not_mem_nil) hk
  obtain ⟨v, hr, hF, h⟩ := h
  rw [hF]
  exact h2 _ hr
theorem q141_1 {m : zM} {B : Int} (g0 : Nat) (a1 a2 : Int) (hk : z_mok lL m) (hJ : JB B m) (hB : B + 0 ≤ 1000000000) (hg0 : g0 < 3) (ha1 : (-1) ≤ a1 ∧ a1 ≤ 2) (ha2 : 0 ≤ a2 ∧ a2 ≤ 8) : (-9223372036854775808 ≤ (f141_1 g0 a1 a2 m) ∧ (f141_1 g0 a1 a2 m) ≤ 9223372036854775807) := by
  obtain ⟨_, r, m1, _, h2, hk1, h⟩ := c141_1 (s := (0, fun _ => 0)) (S := zQ [] []) (m0 := m) (B := B) (d := 15) (Q := fun r m' => ∃ v, r = some (zl v) ∧ f141_1 g0 a1 a2 m = v ∧ (True)) g0 a1 a2 (Nat.le_refl _) hJ.j hB ha1 ha2 (fun v hb hF => ⟨v, rfl, hF, hb⟩) (fun q hq => by
    simp only [List.mem_cons, List.not_mem_nil, or_false] at hq
    rcases hq with rfl | rfl | rfl
    · exact zv19 hg0
    · exact (show -2147483648 ≤ a1 ∧ a1 ≤ 2147483647 by omega)
    · exact (show -2147483648 ≤ a2 ∧ a2 ≤ 2147483647 by omega)) (fun _ h => absurd h List.not_mem_nil) hk
  obtain ⟨v, hr, hF, h⟩ := h
  rw [hF]
  exact h2 _ hr
theorem q140_1 {m : zM} {B : Int} (a1 a2 : Int) (hk : z_mok lL m) (hJ : JB B m) (hB : B + 0 ≤ 1000000000) (ha1 : (-2147483648) ≤ a1 ∧ a1 ≤ 2147483647) (ha2 : (-2147483648) ≤ a2 ∧ a2 ≤ 2147483647) : (-9223372036854775808 ≤ (f140_1 a1 a2 m) ∧ (f140_1 a1 a2 m) ≤ 9223372036854775807) := by
  obtain ⟨_, r, m1, _, h2, hk1, h⟩ := c140_1 (s := (0, fun _ => 0)) (S := zQ [] []) (m0 := m) (B := B) (d := 16) (Q := fun r m' => ∃ v, r = some (zl v) ∧ f140_1 a1 a2 m = v ∧ (True)) a1 a2 (Nat.le_refl _) hJ.j hB ha1 ha2 (fun v hb hF => ⟨v, rfl, hF, hb⟩) (fun q hq => by
    simp only [List.mem_cons, List.not_mem_nil, or_false] at hq
    rcases hq with rfl | rfl | rfl
    · exact zv40
    · exact (show -2147483648 ≤ a1 ∧ a1 ≤ 2147483647 by omega)
    · exact (show -2147483648 ≤ a2 ∧ a2 ≤ 2147483647 by omega)) (fun _ h => absurd h List.not_mem_nil) hk
  obtain ⟨v, hr, hF, h⟩ := h
  rw [hF]
  exact h2 _ hr
theorem q238_1 {m : zM} {B : Int} (a1 : Int) (hk : z_mok lL m) (hJ : JB B m) (hB : B + 0 ≤ 1000000000) (ha1 : 95 ≤ a1 ∧ a1 ≤ 95) : (0 ≤ (f238_1 a1 m) ∧ (f238_1 a1 m) ≤ 3000000000) := by
  obtain ⟨_, r, m1, _, h2, hk1, h⟩ := c238_1 (s := (0, fun _ => 0)) (S := zQ [] []) (m0 := m) (B := B) (d := 14) (Q := fun r m' => ∃ v, r = some (zl v) ∧ f238_1 a1 m = v ∧ (0 ≤ v ∧ v ≤ 3000000000)) a1 (Nat.le_refl _) hJ.j hB ha1 (fun v hb hF => ⟨v, rfl, hF, hb⟩) (fun q hq => by
    simp only [List.mem_cons, List.not_mem_nil, or_false] at hq
    rcases hq with rfl | rfl
    · exact zv44
    · exact (show -2147483648 ≤ a1 ∧ a1 ≤ 2147483647 by omega)) (fun _ h => absurd h List.not_mem_nil) hk
  obtain ⟨v, hr, hF, h⟩ := h
  rw [hF]
  exact h
theorem q238_2 {m : zM} {B : Int} (a1 : Int) (hk : z_mok lL m) (hJ : JB B m) (hB : B + 0 ≤ 1000000000) (ha1 : 143 ≤ a1 ∧ a1 ≤ 143) : (0 ≤ (f238_1 a1 m) ∧ (f238_1 a1 m) ≤ 3000000000) := by
  obtain ⟨_, r, m1, _, h2, hk1, h⟩ := c238_2 (s := (0, fun _ => 0)) (S := zQ [] []) (m0 := m) (B := B) (d := 14) (Q := fun r m' => ∃ v, r = some (zl v) ∧ f238_1 a1 m = v ∧ (0 ≤ v ∧ v ≤ 3000000000)) a1 (Nat.le_refl _) hJ.j hB ha1 (fun v hb hF => ⟨v, rfl, hF, hb⟩) (fun q hq => by
    simp only [List.mem_cons, List.not_mem_nil, or_false] at hq
    rcases hq with rfl | rfl
    · exact zv44
    · exact (show -2147483648 ≤ a1 ∧ a1 ≤ 2147483647 by omega)) (fun _ h => absurd h List.not_mem_nil) hk
  obtain ⟨v, hr, hF, h⟩ := h
  rw [hF]
  exact h
theorem q239_1 {m : zM} {B : Int} (a0 a1 : Int) (hk : z_mok lL m) (hJ : JB B m) (hB : B + 0 ≤ 1000000000) (ha0 : (-12000000) ≤ a0 ∧ a0 ≤ 12000000) (ha1 : 0 ≤ a1 ∧ a1 ≤ 3000000000) : ((-12000000000) ≤ (f239_1 a0 a1 m) ∧ (f239_1 a0 a1 m) ≤ 12000000000) := by
  obtain ⟨_, r, m1, _, h2, hk1, h⟩ := c239_1 (s := (0, fun _ => 0)) (S := zQ [] []) (m0 := m) (B := B) (d := 13) (Q := fun r m' => ∃ v, r = some (zl v) ∧ f239_1 a0 a1 m = v ∧ ((-12000000000) ≤ v ∧ v ≤ 12000000000)) a0 a1 (Nat.le_refl _) hJ.j hB ha0 ha1 (fun v hb hF => ⟨v, rfl, hF, hb⟩) (fun q hq => by
    simp only [List.mem_cons, List.not_mem_nil, or_false] at hq
    rcases hq with rfl | rfl
    · exact (show -9223372036854775808 ≤ a0 ∧ a0 ≤ 9223372036854775807 by omega)
    · exact (show -9223372036854775808 ≤ a1 ∧ a1 ≤ 9223372036854775807 by omega)) (fun _ h => absurd h List.not_mem_nil) hk
  obtain ⟨v, hr, hF, h⟩ := h
  rw [hF]
  exact h
theorem q237_1 {m : zM} {B : Int} (a1 a2 : Int) (hk : z_mok lL m) (hJ : JB B m) (hB : B + 0 ≤ 1000000000) (ha1 : (-2147483648) ≤ a1 ∧ a1 ≤ 2147483647) (ha2 : (-2147483648) ≤ a2 ∧ a2 ≤ 2147483647) : ((-12000000000) ≤ (f237_1 a1 a2 m) ∧ (f237_1 a1 a2 m) ≤ 12000000000) := by
  obtain ⟨_, r, m1, _, h2, hk1, h⟩ := c237_1 (s := (0, fun _ => 0)) (S := zQ [] []) (m0 := m) (B := B) (d := 15) (Q := fun r m' => ∃ v, r = some (zl v) ∧ f237_1 a1 a2 m = v ∧ ((-12000000000) ≤ v ∧ v ≤ 12000000000)) a1 a2 (Nat.le_refl _) hJ.j hB ha1 ha2 (fun v hb hF => ⟨v, rfl, hF, hb⟩) (fun q hq => by
    simp only [List.mem_cons, List.not_mem_nil, or_false] at hq
    rcases hq with rfl | rfl | rfl
    · exact zv44
    · exact (show -2147483648 ≤ a1 ∧ a1 ≤ 2147483647 by omega)
    · exact (show -2147483648 ≤ a2 ∧ a2 ≤ 2147483647 by omega)) (fun _ h => absurd h List.not_mem_nil) hk
  obtain ⟨v, hr, hF, h⟩ := h
  rw [hF]
  exact h
theorem q144_1 {m : zM} {B : Int} (a1 a2 : Int) (hk : z_mok lL m) (hJ : JB B m) (hB : B + 0 ≤ 1000000000) (ha1 : (-2147483648) ≤ a1 ∧ a1 ≤ 2147483647) (ha2 : (-2147483648) ≤ a2 ∧ a2 ≤ 2147483647) : (-9223372036854775808 ≤ (f144_1 a1 a2 m) ∧ (f144_1 a1 a2 m) ≤ 9223372036854775807) := by
  obtain ⟨_, r, m1, _, h2, hk1, h⟩ := c144_1 (s := (0, fun _ => 0)) (S := zQ [] []) (m0 := m) (B := B) (d := 15) (Q := fun r m' => ∃ v, r = some (zl v) ∧ f144_1 a1 a2 m = v ∧ (True)) a1 a2 (Nat.le_refl _) hJ.j hB ha1 ha2 (fun v hb hF => ⟨v, rfl, hF, hb⟩) (fun q hq => by
    simp only [List.mem_cons, List.not_mem_nil, or_false] at hq
    rcases hq with rfl | rfl | rfl
    · exact zv40
    · exact (show -2147483648 ≤ a1 ∧ a1 ≤ 2147483647 by omega)
    · exact (show -2147483648 ≤ a2 ∧ a2 ≤ 2147483647 by omega)) (fun _ h => absurd h List.not_mem_nil) hk
  obtain ⟨v, hr, hF, h⟩ := h
  rw [hF]
  exact h2 _ hr
theorem q291_1 {m : zM} {B : Int} (a0 a1 : Int) (hk : z_mok lL m) (hJ : JB B m) (hB : B + 0 ≤ 1000000000) (ha0 : 0 ≤ a0 ∧ a0 ≤ 6) (ha1 : (-1) ≤ a1 ∧ a1 ≤ 3) : (0 ≤ (f291_1 a0 a1 m) ∧ (f291_1 a0 a1 m) ≤ 34) := by
  obtain ⟨_, r, m1, _, h2, hk1, h⟩ := c291_1 (s := (0, fun _ => 0)) (S := zQ [] []) (m0 := m) (B := B) (d := 13) (Q := fun r m' => ∃ v, r = some (zi v) ∧ f291_1 a0 a1 m = v ∧ (0 ≤ v ∧ v ≤ 34)) a0 a1 (Nat.le_refl _) hJ.j hB ha0 ha1 (fun v hb hF => ⟨v, rfl, hF, hb⟩) (fun q hq => by
    simp only [List.mem_cons, List.not_mem_nil, or_false] at hq
    rcases hq with rfl | rfl
    · exact (show -2147483648 ≤ a0 ∧ a0 ≤ 2147483647 by omega)
    · exact (show -2147483648 ≤ a1 ∧ a1 ≤ 2147483647 by omega)) (fun _ h => absurd h List.not_mem_nil) hk
  obtain ⟨v, hr, hF, h⟩ := h
  rw [hF]
  exact h
theorem q295_1 {m : zM} {B : Int} (a1 a2 : Int) (hk : z_mok lL m) (hJ : JB B m) (hB : B + 0 ≤ 1000000000) (ha1 : (-2147483648) ≤ a1 ∧ a1 ≤ 2147483647) (ha2 : (-2147483648) ≤ a2 ∧ a2 ≤ 2147483647) : (-9223372036854775808 ≤ (f295_1 a1 a2 m) ∧ (f295_1 a1 a2 m) ≤ 9223372036854775807) := by
  obtain ⟨_, r, m1, _, h2, hk1, h⟩ := c295_1 (s := (0, fun _ => 0)) (S := zQ [] []) (m0 := m) (B := B) (d := 14) (Q := fun r m' => ∃ v, r = some (zl v) ∧ f295_1 a1 a2 m = v ∧ (True)) a1 a2 (Nat.le_refl _) hJ.j hB ha1 ha2 (fun v hb hF => ⟨v, rfl, hF, hb⟩) (fun q hq => by
    simp only [List.mem_cons, List.not_mem_nil, or_false] at hq
    rcases hq with rfl | rfl | rfl
    · exact zv44
    · exact (show -2147483648 ≤ a1 ∧ a1 ≤ 2147483647 by omega)
    · exact (show -2147483648 ≤ a2 ∧ a2 ≤ 2147483647 by omega)) (fun _ h => absurd h List.not_mem_nil) hk
  obtain ⟨v, hr, hF, h⟩ := h
  rw [hF]
  exact h2 _ hr
theorem q147_1 {m : zM} {B : Int} (a1 a2 : Int) (hk : z_mok lL m) (hJ : JB B m) (hB : B + 0 ≤ 1000000000) (ha1 : (-2147483648) ≤ a1 ∧ a1 ≤ 2147483647) (ha2 : (-2147483648) ≤ a2 ∧ a2 ≤ 2147483647) : (-9223372036854775808 ≤ (f147_1 a1 a2 m) ∧ (f147_1 a1 a2 m) ≤ 9223372036854775807) := by
  obtain ⟨_, r, m1, _, h2, hk1, h⟩ := c147_1 (s := (0, fun _ => 0)) (S := zQ [] []) (m0 := m) (B := B) (d := 15) (Q := fun r m' => ∃ v, r = some (zl v) ∧ f147_1 a1 a2 m = v ∧ (True)) a1 a2 (Nat.le_refl _) hJ.j hB ha1 ha2 (fun v hb hF => ⟨v, rfl, hF, hb⟩) (fun q hq => by
    simp only [List.mem_cons, List.not_mem_nil, or_false] at hq
    rcases hq with rfl | rfl | rfl
    · exact zv40
    · exact (show -2147483648 ≤ a1 ∧ a1 ≤ 2147483647 by omega)
    · exact (show -2147483648 ≤ a2 ∧ a2 ≤ 2147483647 by omega)) (fun _ h => absurd h List.not_mem_nil) hk
  obtain ⟨v, hr, hF, h⟩ := h
  rw [hF]
  exact h2 _ hr
theorem q296_1 {m : zM} {B : Int} (a1 a2 : Int) (hk : z_mok lL m) (hJ : JB B m) (hB : B + 0 ≤ 1000000000) (ha1 : (-2147483648) ≤ a1 ∧ a1 ≤ 2147483647) (ha2 : (-2147483648) ≤ a2 ∧ a2 ≤ 2147483647) : (-9223372036854775808 ≤ (f296_1 a1 a2 m) ∧ (f296_1 a1 a2 m) ≤ 9223372036854775807) := by
  obtain ⟨_, r, m1, _, h2, hk1, h⟩ := c296_1 (s := (0, fun _ => 0)) (S := zQ [] []) (m0 := m) (B := B) (d := 14) (Q := fun r m' => ∃ v, r = some (zl v) ∧ f296_1 a1 a2 m = v ∧ (True)) a1 a2 (Nat.le_refl _) hJ.j hB ha1 ha2 (fun v hb hF => ⟨v, rfl, hF, hb⟩) (fun q hq => by
    simp only [List.mem_cons, List.not_mem_nil, or_false] at hq
    rcases hq with rfl | rfl | rfl
    · exact zv44
    · exact (show -2147483648 ≤ a1 ∧ a1 ≤ 2147483647 by omega)
    · exact (show -2147483648 ≤ a2 ∧ a2 ≤ 2147483647 by omega)) (fun _ h => absurd h List.not_mem_nil) hk
  obtain ⟨v, hr, hF, h⟩ := h
  rw [hF]
  exact h2 _ hr
theorem q148_1 {m : zM} {B : Int} (a1 : Int) (hk : z_mok lL m) (hJ : JB B m) (hB : B + 0 ≤ 1000000000) (ha1 : (-2147483648) ≤ a1 ∧ a1 ≤ 2147483647) : ((-1) ≤ (f148_1 a1 m) ∧ (f148_1 a1 m) ≤ 3) := by
  obtain ⟨_, r, m1, _, h2, hk1, h⟩ := c148_1 (s := (0, fun _ => 0)) (S := zQ [] []) (m0 := m) (B := B) (d := 16) (Q := fun r m' => ∃ v, r = some (zi v) ∧ f148_1 a1 m = v ∧ ((-1) ≤ v ∧ v ≤ 3)) a1 (Nat.le_refl _) hJ.j hB ha1 (fun v hb hF => ⟨v, rfl, hF, hb⟩) (fun q hq => by
    simp only [List.mem_cons, List.not_mem_nil, or_false] at hq
    rcases hq with rfl | rfl
    · exact zv40
    · exact (show -2147483648 ≤ a1 ∧ a1 ≤ 2147483647 by omega)) (fun _ h => absurd h List.not_mem_nil) hk
  obtain ⟨v, hr, hF, h⟩ := h
  rw [hF]
  exact h
theorem q250_1 {m : zM} {B : Int} (a1 : Int) (hk : z_mok lL m) (hJ : JB B m) (hB : B + 0 ≤ 1000000000) (ha1 : (-2147483648) ≤ a1 ∧ a1 ≤ 2147483647) : ((-1) ≤ (f250_1 a1 m) ∧ (f250_1 a1 m) ≤ 3) := by
  obtain ⟨_, r, m1, _, h2, hk1, h⟩ := c250_1 (s := (0, fun _ => 0)) (S := zQ [] []) (m0 := m) (B := B) (d := 16) (Q := fun r m' => ∃ v, r = some (zi v) ∧ f250_1 a1 m = v ∧ ((-1) ≤ v ∧ v ≤ 3)) a1 (Nat.le_refl _) hJ.j hB ha1 (fun v hb hF => ⟨v, rfl, hF, hb⟩) (fun q hq => by
    simp only [List.mem_cons, List.not_mem_nil, or_false] at hq
    rcases hq with rfl | rfl
    · exact zv44
    · exact (show -2147483648 ≤ a1 ∧ a1 ≤ 2147483647 by omega)) (fun _ h => absurd h List.not_mem_nil) hk
  obtain ⟨v, hr, hF, h⟩ := h
  rw [hF]
  exact h
theorem q149_1 {m : zM} {B : Int} (a1 : Int) (hk : z_mok lL m) (hJ : JB B m) (hB : B + 0 ≤ 1000000000) (ha1 : (-2147483648) ≤ a1 ∧ a1 ≤ 2147483647) : ((-1) ≤ (f149_1 a1 m) ∧ (f149_1 a1 m) ≤ 7) := by
  obtain ⟨_, r, m1, _, h2, hk1, h⟩ := c149_1 (s := (0, fun _ => 0)) (S := zQ [] []) (m0 := m) (B := B) (d := 15) (Q := fun r m' => ∃ v, r = some (zi v) ∧ f149_1 a1 m = v ∧ ((-1) ≤ v ∧ v ≤ 7)) a1 (Nat.le_refl _) hJ.j hB ha1 (fun v hb hF => ⟨v, rfl, hF, hb⟩) (fun q hq => by
    simp only [List.mem_cons, List.not_mem_nil, or_false] at hq
    rcases hq with rfl | rfl
    · exact zv40
    · exact (show -2147483648 ≤ a1 ∧ a1 ≤ 2147483647 by omega)) (fun _ h => absurd h List.not_mem_nil) hk
  obtain ⟨v, hr, hF, h⟩ := h
  rw [hF]
  exact h
theorem q251_1 {m : zM} {B : Int} (a1 : Int) (hk : z_mok lL m) (hJ : JB B m) (hB : B + 0 ≤ 1000000000) (ha1 : (-2147483648) ≤ a1 ∧ a1 ≤ 2147483647) : ((-1) ≤ (f251_1 a1 m) ∧ (f251_1 a1 m) ≤ 7) := by
  obtain ⟨_, r, m1, _, h2, hk1, h⟩ := c251_1 (s := (0, fun _ => 0)) (S := zQ [] []) (m0 := m) (B := B) (d := 15) (Q := fun r m' => ∃ v, r = some (zi v) ∧ f251_1 a1 m = v ∧ ((-1) ≤ v ∧ v ≤ 7)) a1 (Nat.le_refl _) hJ.j hB ha1 (fun v hb hF => ⟨v, rfl, hF, hb⟩) (fun q hq => by
    simp only [List.mem_cons, List.not_mem_nil, or_false] at hq
    rcases hq with rfl | rfl
    · exact zv44
    · exact (show -2147483648 ≤ a1 ∧ a1 ≤ 2147483647 by omega)) (fun _ h => absurd h List.not_mem_nil) hk
  obtain ⟨v, hr, hF, h⟩ := h
  rw [hF]
  exact h
theorem q151_1 {m : zM} {B : Int} (a1 a2 a3 : Int) (hk : z_mok lL m) (hJ : JB B m) (hB : B + 0 ≤ 1000000000) (ha1 : (-2147483648) ≤ a1 ∧ a1 ≤ 2147483647) (ha2 : (-2147483648) ≤ a2 ∧ a2 ≤ 2147483647) (ha3 : (-2147483648) ≤ a3 ∧ a3 ≤ 2147483647) : ((-1) ≤ (f151_1 a1 a2 a3 m) ∧ (f151_1 a1 a2 a3 m) ≤ 86399) := by
  obtain ⟨_, r, m1, _, h2, hk1, h⟩ := c151_1 (s := (0, fun _ => 0)) (S := zQ [] []) (m0 := m) (B := B) (d := 13) (Q := fun r m' => ∃ v, r = some (zi v) ∧ f151_1 a1 a2 a3 m = v ∧ ((-1) ≤ v ∧ v ≤ 86399)) a1 a2 a3 (Nat.le_refl _) hJ.j hB ha1 ha2 ha3 (fun v hb hF => ⟨v, rfl, hF, hb⟩) (fun q hq => by
    simp only [List.mem_cons, List.not_mem_nil, or_false] at hq
    rcases hq with rfl | rfl | rfl | rfl
    · exact zv40
    · exact (show -2147483648 ≤ a1 ∧ a1 ≤ 2147483647 by omega)
    · exact (show -2147483648 ≤ a2 ∧ a2 ≤ 2147483647 by omega)
    · exact (show -2147483648 ≤ a3 ∧ a3 ≤ 2147483647 by omega)) (fun _ h => absurd h List.not_mem_nil) hk
  obtain ⟨v, hr, hF, h⟩ := h
  rw [hF]
  exact h
theorem q252_1 {m : zM} {B : Int} (a1 a2 a3 : Int) (hk : z_mok lL m) (hJ : JB B m) (hB : B + 0 ≤ 1000000000) (ha1 : (-2147483648) ≤ a1 ∧ a1 ≤ 2147483647) (ha2 : (-2147483648) ≤ a2 ∧ a2 ≤ 2147483647) (ha3 : (-2147483648) ≤ a3 ∧ a3 ≤ 2147483647) : ((-1) ≤ (f252_1 a1 a2 a3 m) ∧ (f252_1 a1 a2 a3 m) ≤ 86399) := by
  obtain ⟨_, r, m1, _, h2, hk1, h⟩ := c252_1 (s := (0, fun _ => 0)) (S := zQ [] []) (m0 := m) (B := B) (d := 13) (Q := fun r m' => ∃ v, r = some (zi v) ∧ f252_1 a1 a2 a3 m = v ∧ ((-1) ≤ v ∧ v ≤ 86399)) a1 a2 a3 (Nat.le_refl _) hJ.j hB ha1 ha2 ha3 (fun v hb hF => ⟨v, rfl, hF, hb⟩) (fun q hq => by
    simp only [List.mem_cons, List.not_mem_nil, or_false] at hq
    rcases hq with rfl | rfl | rfl | rfl
    · exact zv44
    · exact (show -2147483648 ≤ a1 ∧ a1 ≤ 2147483647 by omega)
    · exact (show -2147483648 ≤ a2 ∧ a2 ≤ 2147483647 by omega)
    · exact (show -2147483648 ≤ a3 ∧ a3 ≤ 2147483647 by omega)) (fun _ h => absurd h List.not_mem_nil) hk
  obtain ⟨v, hr, hF, h⟩ := h
  rw [hF]
  exact h
theorem q153_1 {m : zM} {B : Int} (g0 : Nat) (a1 : Int) (hk : z_mok lL m) (hJ : JB B m) (hB : B + 0 ≤ 1000000000) (hg0 : g0 < 4) (ha1 : 0 ≤ a1 ∧ a1 ≤ 2000000000) : ((-1) ≤ (f153_1 g0 a1 m) ∧ (f153_1 g0 a1 m) ≤ 2000000000) := by
  obtain ⟨_, r, m1, _, h2, hk1, h⟩ := c153_1 (s := (0, fun _ => 0)) (S := zQ [] []) (m0 := m) (B := B) (d := 16) (Q := fun r m' => ∃ v, r = some (zi v) ∧ f153_1 g0 a1 m = v ∧ ((-1) ≤ v ∧ v ≤ 2000000000)) g0 a1 (Nat.le_refl _) hJ.j hB ha1 (fun v hb hF => ⟨v, rfl, hF, hb⟩) (fun q hq => by
    simp only [List.mem_cons, List.not_mem_nil, or_false] at hq
    rcases hq with rfl | rfl
    · exact zv11 hg0
    · exact (show -2147483648 ≤ a1 ∧ a1 ≤ 2147483647 by omega)) (fun _ h => absurd h List.not_mem_nil) hk
  obtain ⟨v, hr, hF, h⟩ := h
  rw [hF]
  exact h
theorem q152_1 {m : zM} {B : Int} (a1 : Int) (hk : z_mok lL m) (hJ : JB B m) (hB : B + 0 ≤ 1000000000) (ha1 : (-2147483648) ≤ a1 ∧ a1 ≤ 2147483647) : ((-1) ≤ (f152_1 a1 m) ∧ (f152_1 a1 m) ≤ 2000000000) := by
  obtain ⟨_, r, m1, _, h2, hk1, h⟩ := c152_1 (s := (0, fun _ => 0)) (S := zQ [] []) (m0 := m) (B := B) (d := 17) (Q := fun r m' => ∃ v, r = some (zi v) ∧ f152_1 a1 m = v ∧ ((-1) ≤ v ∧ v ≤ 2000000000)) a1 (Nat.le_refl _) hJ.j hB ha1 (fun v hb hF => ⟨v, rfl, hF, hb⟩) (fun q hq => by
    simp only [List.mem_cons, List.not_mem_nil, or_false] at hq
    rcases hq with rfl | rfl
    · exact zv40
    · exact (show -2147483648 ≤ a1 ∧ a1 ≤ 2147483647 by omega)) (fun _ h => absurd h List.not_mem_nil) hk
  obtain ⟨v, hr, hF, h⟩ := h
  rw [hF]
  exact h
theorem q255_1 {m : zM} {B : Int} (hk : z_mok lL m) (hJ : JB B m) (hB : B + 0 ≤ 1000000000) : ((-1) ≤ (f255_1 m) ∧ (f255_1 m) ≤ 2000000000) := by
  obtain ⟨_, r, m1, _, h2, hk1, h⟩ := c255_1 (s := (0, fun _ => 0)) (S := zQ [] []) (m0 := m) (B := B) (d := 16) (Q := fun r m' => ∃ v, r = some (zi v) ∧ f255_1 m = v ∧ ((-1) ≤ v ∧ v ≤ 2000000000))  (Nat.le_refl _) hJ.j hB  (fun v hb hF => ⟨v, rfl, hF, hb⟩) (fun q hq => by
    simp only [List.mem_cons, List.not_mem_nil, or_false] at hq
    subst hq
    · exact zv44) (fun _ h => absurd h List.not_mem_nil) hk
  obtain ⟨v, hr, hF, h⟩ := h
  rw [hF]
  exact h
theorem q254_1 {m : zM} {B : Int} (a1 : Int) (hk : z_mok lL m) (hJ : JB B m) (hB : B + 0 ≤ 1000000000) (ha1 : (-2147483648) ≤ a1 ∧ a1 ≤ 2147483647) : ((-1) ≤ (f254_1 a1 m) ∧ (f254_1 a1 m) ≤ 2000000000) := by
  obtain ⟨_, r, m1, _, h2, hk1, h⟩ := c254_1 (s := (0, fun _ => 0)) (S := zQ [] []) (m0 := m) (B := B) (d := 17) (Q := fun r m' => ∃ v, r = some (zi v) ∧ f254_1 a1 m = v ∧ ((-1) ≤ v ∧ v ≤ 2000000000)) a1 (Nat.le_refl _) hJ.j hB ha1 (fun v hb hF => ⟨v, rfl, hF, hb⟩) (fun q hq => by
    simp only [List.mem_cons, List.not_mem_nil, or_false] at hq
    rcases hq with rfl | rfl
    · exact zv44
    · exact (show -2147483648 ≤ a1 ∧ a1 ≤ 2147483647 by omega)) (fun _ h => absurd h List.not_mem_nil) hk
  obtain ⟨v, hr, hF, h⟩ := h
  rw [hF]
  exact h
theorem q154_1 {m : zM} {B : Int} (a1 a2 : Int) (hk : z_mok lL m) (hJ : JB B m) (hB : B + 0 ≤ 1000000000) (ha1 : (-2147483648) ≤ a1 ∧ a1 ≤ 2147483647) (ha2 : (-2147483648) ≤ a2 ∧ a2 ≤ 2147483647) : ((-2147483648) ≤ (f154_1 a1 a2 m) ∧ (f154_1 a1 a2 m) ≤ 2147483647) := by
  obtain ⟨_, r, m1, _, h2, hk1, h⟩ := c154_1 (s := (0, fun _ => 0)) (S := zQ [] []) (m0 := m) (B := B) (d := 14) (Q := fun r m' => ∃ v, r = some (zi v) ∧ f154_1 a1 a2 m = v ∧ ((-2147483648) ≤ v ∧ v ≤ 2147483647)) a1 a2 (Nat.le_refl _) hJ.j hB ha1 ha2 (fun v hb hF => ⟨v, rfl, hF, hb⟩) (fun q hq => by
    simp only [List.mem_cons, List.not_mem_nil, or_false] at hq
    rcases hq with rfl | rfl | rfl
    · exact zv40
    · exact (show -2147483648 ≤ a1 ∧ a1 ≤ 2147483647 by omega)
    · exact (show -2147483648 ≤ a2 ∧ a2 ≤ 2147483647 by omega)) (fun _ h => absurd h List.not_mem_nil) hk
  obtain ⟨v, hr, hF, h⟩ := h
  rw [hF]
  exact h
theorem q297_1 {m : zM} {B : Int} (a1 a2 : Int) (hk : z_mok lL m) (hJ : JB B m) (hB : B + 0 ≤ 1000000000) (ha1 : (-2147483648) ≤ a1 ∧ a1 ≤ 2147483647) (ha2 : (-2147483648) ≤ a2 ∧ a2 ≤ 2147483647) : ((-2147483648) ≤ (f297_1 a1 a2 m) ∧ (f297_1 a1 a2 m) ≤ 2147483647) := by
  obtain ⟨_, r, m1, _, h2, hk1, h⟩ := c297_1 (s := (0, fun _ => 0)) (S := zQ [] []) (m0 := m) (B := B) (d := 13) (Q := fun r m' => ∃ v, r = some (zi v) ∧ f297_1 a1 a2 m = v ∧ ((-2147483648) ≤ v ∧ v ≤ 2147483647)) a1 a2 (Nat.le_refl _) hJ.j hB ha1 ha2 (fun v hb hF => ⟨v, rfl, hF, hb⟩) (fun q hq => by
    simp only [List.mem_cons, List.not_mem_nil, or_false] at hq
    rcases hq with rfl | rfl | rfl
    · exact zv44
    · exact (show -2147483648 ≤ a1 ∧ a1 ≤ 2147483647 by omega)
    · exact (show -2147483648 ≤ a2 ∧ a2 ≤ 2147483647 by omega)) (fun _ h => absurd h List.not_mem_nil) hk
  obtain ⟨v, hr, hF, h⟩ := h
  rw [hF]
  exact h
theorem q155_1 {m : zM} {B : Int} (a1 a2 : Int) (hk : z_mok lL m) (hJ : JB B m) (hB : B + 0 ≤ 1000000000) (ha1 : (-2147483648) ≤ a1 ∧ a1 ≤ 2147483647) (ha2 : (-2147483648) ≤ a2 ∧ a2 ≤ 2147483647) : (-9223372036854775808 ≤ (f155_1 a1 a2 m) ∧ (f155_1 a1 a2 m) ≤ 9223372036854775807) := by
  obtain ⟨_, r, m1, _, h2, hk1, h⟩ := c155_1 (s := (0, fun _ => 0)) (S := zQ [] []) (m0 := m) (B := B) (d := 14) (Q := fun r m' => ∃ v, r = some (zl v) ∧ f155_1 a1 a2 m = v ∧ (True)) a1 a2 (Nat.le_refl _) hJ.j hB ha1 ha2 (fun v hb hF => ⟨v, rfl, hF, hb⟩) (fun q hq => by
    simp only [List.mem_cons, List.not_mem_nil, or_false] at hq
    rcases hq with rfl | rfl | rfl
    · exact zv40
    · exact (show -2147483648 ≤ a1 ∧ a1 ≤ 2147483647 by omega)
    · exact (show -2147483648 ≤ a2 ∧ a2 ≤ 2147483647 by omega)) (fun _ h => absurd h List.not_mem_nil) hk
  obtain ⟨v, hr, hF, h⟩ := h
  rw [hF]
  exact h2 _ hr
theorem q298_1 {m : zM} {B : Int} (a1 a2 : Int) (hk : z_mok lL m) (hJ : JB B m) (hB : B + 0 ≤ 1000000000) (ha1 : (-2147483648) ≤ a1 ∧ a1 ≤ 2147483647) (ha2 : (-2147483648) ≤ a2 ∧ a2 ≤ 2147483647) : (-9223372036854775808 ≤ (f298_1 a1 a2 m) ∧ (f298_1 a1 a2 m) ≤ 9223372036854775807) := by
  obtain ⟨_, r, m1, _, h2, hk1, h⟩ := c298_1 (s := (0, fun _ => 0)) (S := zQ [] []) (m0 := m) (B := B) (d := 14) (Q := fun r m' => ∃ v, r = some (zl v) ∧ f298_1 a1 a2 m = v ∧ (True)) a1 a2 (Nat.le_refl _) hJ.j hB ha1 ha2 (fun v hb hF => ⟨v, rfl, hF, hb⟩) (fun q hq => by
    simp only [List.mem_cons, List.not_mem_nil, or_false] at hq
    rcases hq with rfl | rfl | rfl
    · exact zv44
    · exact (show -2147483648 ≤ a1 ∧ a1 ≤ 2147483647 by omega)
    · exact (show -2147483648 ≤ a2 ∧ a2 ≤ 2147483647 by omega)) (fun _ h => absurd h List.not_mem_nil) hk
  obtain ⟨v, hr, hF, h⟩ := h
  rw [hF]
  exact h2 _ hr
theorem q156_1 {m : zM} {B : Int} (a1 : Int) (hk : z_mok lL m) (hJ : JB B m) (hB : B + 0 ≤ 1000000000) (ha1 : (-2147483648) ≤ a1 ∧ a1 ≤ 2147483647) : (-9223372036854775808 ≤ (f156_1 a1 m) ∧ (f156_1 a1 m) ≤ 9223372036854775807) := by
  obtain ⟨_, r, m1, _, h2, hk1, h⟩ := c156_1 (s := (0, fun _ => 0)) (S := zQ [] []) (m0 := m) (B := B) (d := 14) (Q := fun r m' => ∃ v, r = some (zl v) ∧ f156_1 a1 m = v ∧ (True)) a1 (Nat.le_refl _) hJ.j hB ha1 (fun v hb hF => ⟨v, rfl, hF, hb⟩) (fun q hq => by
    simp only [List.mem_cons, List.not_mem_nil, or_false] at hq
    rcases hq with rfl | rfl
    · exact zv40
    · exact (show -2147483648 ≤ a1 ∧ a1 ≤ 2147483647 by omega)) (fun _ h => absurd h List.not_mem_nil) hk
  obtain ⟨v, hr, hF, h⟩ := h
  rw [hF]
  exact h2 _ hr
theorem q299_1 {m : zM} {B : Int} (a1 : Int) (hk : z_mok lL m) (hJ : JB B m) (hB : B + 0 ≤ 1000000000) (ha1 : (-2147483648) ≤ a1 ∧ a1 ≤ 2147483647) : (-9223372036854775808 ≤ (f299_1 a1 m) ∧ (f299_1 a1 m) ≤ 9223372036854775807) := by
  obtain ⟨_, r, m1, _, h2, hk1, h⟩ := c299_1 (s := (0, fun _ => 0)) (S := zQ [] []) (m0 := m) (B := B) (d := 13) (Q := fun r m' => ∃ v, r = some (zl v) ∧ f299_1 a1 m = v ∧ (True)) a1 (Nat.le_refl _) hJ.j hB ha1 (fun v hb hF => ⟨v, rfl, hF, hb⟩) (fun q hq => by
    simp only [List.mem_cons, List.not_mem_nil, or_false] at hq
    rcases hq with rfl | rfl
    · exact zv44
    · exact (show -2147483648 ≤ a1 ∧ a1 ≤ 2147483647 by omega)) (fun _ h => absurd h List.not_mem_nil) hk
  obtain ⟨v, hr, hF, h⟩ := h
  rw [hF]
  exact h2 _ hr
theorem q157_1 {m : zM} {B : Int} (a1 : Int) (hk : z_mok lL m) (hJ : JB B m) (hB : B + 0 ≤ 1000000000) (ha1 : (-2147483648) ≤ a1 ∧ a1 ≤ 2147483647) : (-9223372036854775808 ≤ (f157_1 a1 m) ∧ (f157_1 a1 m) ≤ 9223372036854775807) := by
  obtain ⟨_, r, m1, _, h2, hk1, h⟩ := c157_1 (s := (0, fun _ => 0)) (S := zQ [] []) (m0 := m) (B := B) (d := 13) (Q := fun r m' => ∃ v, r = some (zl v) ∧ f157_1 a1 m = v ∧ (True)) a1 (Nat.le_refl _) hJ.j hB ha1 (fun v hb hF => ⟨v, rfl, hF, hb⟩) (fun q hq => by
    simp only [List.mem_cons, List.not_mem_nil, or_false] at hq
    rcases hq with rfl | rfl
    · exact zv40
    · exact (show -2147483648 ≤ a1 ∧ a1 ≤ 2147483647 by omega)) (fun _ h => absurd h List.not_mem_nil) hk
  obtain ⟨v, hr, hF, h⟩ := h
  rw [hF]
  exact h2 _ hr
theorem q300_1 {m : zM} {B : Int} (a1 : Int) (hk : z_mok lL m) (hJ : JB B m) (hB : B + 0 ≤ 1000000000) (ha1 : (-2147483648) ≤ a1 ∧ a1 ≤ 2147483647) : (-9223372036854775808 ≤ (f300_1 a1 m) ∧ (f300_1 a1 m) ≤ 9223372036854775807) := by
  obtain ⟨_, r, m1, _, h2, hk1, h⟩ := c300_1 (s := (0, fun _ => 0)) (S := zQ [] []) (m0 := m) (B := B) (d := 13) (Q := fun r m' => ∃ v, r = some (zl v) ∧ f300_1 a1 m = v ∧ (True)) a1 (Nat.le_refl _) hJ.j hB ha1 (fun v hb hF => ⟨v, rfl, hF, hb⟩) (fun q hq => by
    simp only [List.mem_cons, List.not_mem_nil, or_false] at hq
    rcases hq with rfl | rfl
    · exact zv44
    · exact (show -2147483648 ≤ a1 ∧ a1 ≤ 2147483647 by omega)) (fun _ h => absurd h List.not_mem_nil) hk
  obtain ⟨v, hr, hF, h⟩ := h
  rw [hF]
  exact h2 _ hr
theorem q158_1 {m : zM} {B : Int} (a1 a2 : Int) (hk : z_mok lL m) (hJ : JB B m) (hB : B + 0 ≤ 1000000000) (ha1 : (-2147483648) ≤ a1 ∧ a1 ≤ 2147483647) (ha2 : (-2147483648) ≤ a2 ∧ a2 ≤ 2147483647) : (-9223372036854775808 ≤ (f158_1 a1 a2 m) ∧ (f158_1 a1 a2 m) ≤ 9223372036854775807) := by
  obtain ⟨_, r, m1, _, h2, hk1, h⟩ := c158_1 (s := (0, fun _ => 0)) (S := zQ [] []) (m0 := m) (B := B) (d := 13) (Q := fun r m' => ∃ v, r = some (zl v) ∧ f158_1 a1 a2 m = v ∧ (True)) a1 a2 (Nat.le_refl _) hJ.j hB ha1 ha2 (fun v hb hF => ⟨v, rfl, hF, hb⟩) (fun q hq => by
    simp only [List.mem_cons, List.not_mem_nil, or_false] at hq
    rcases hq with rfl | rfl | rfl
    · exact zv40
    · exact (show -2147483648 ≤ a1 ∧ a1 ≤ 2147483647 by omega)
    · exact (show -2147483648 ≤ a2 ∧ a2 ≤ 2147483647 by omega)) (fun _ h => absurd h List.not_mem_nil) hk
  obtain ⟨v, hr, hF, h⟩ := h
  rw [hF]
  exact h2 _ hr
theorem q301_1 {m : zM} {B : Int} (a1 a2 : Int) (hk : z_mok lL m) (hJ : JB B m) (hB : B + 0 ≤ 1000000000) (ha1 : (-2147483648) ≤ a1 ∧ a1 ≤ 2147483647) (ha2 : (-2147483648) ≤ a2 ∧ a2 ≤ 2147483647) : (-9223372036854775808 ≤ (f301_1 a1 a2 m) ∧ (f301_1 a1 a2 m) ≤ 9223372036854775807) := by
  obtain ⟨_, r, m1, _, h2, hk1, h⟩ := c301_1 (s := (0, fun _ => 0)) (S := zQ [] []) (m0 := m) (B := B) (d := 13) (Q := fun r m' => ∃ v, r = some (zl v) ∧ f301_1 a1 a2 m = v ∧ (True)) a1 a2 (Nat.le_refl _) hJ.j hB ha1 ha2 (fun v hb hF => ⟨v, rfl, hF, hb⟩) (fun q hq => by
    simp only [List.mem_cons, List.not_mem_nil, or_false] at hq
    rcases hq with rfl | rfl | rfl
    · exact zv44
    · exact (show -2147483648 ≤ a1 ∧ a1 ≤ 2147483647 by omega)
    · exact (show -2147483648 ≤ a2 ∧ a2 ≤ 2147483647 by omega)) (fun _ h => absurd h List.not_mem_nil) hk
  obtain ⟨v, hr, hF, h⟩ := h
  rw [hF]
  exact h2 _ hr
theorem q72_2 {m : zM} {B : Int} (g0 : Nat) (a1 a2 : Int) (hk : z_mok lL m) (hJ : JB B m) (hB : B + 0 ≤ 1000000000) (hg0 : g0 < 3) (ha1 : 0 ≤ a1 ∧ a1 ≤ 194) (ha2 : (-1) ≤ a2 ∧ a2 ≤ 3) : (-9223372036854775808 ≤ (f72_2 g0 a1 a2 m) ∧ (f72_2 g0 a1 a2 m) ≤ 9223372036854775807) := by
  obtain ⟨_, r, m1, _, h2, hk1, h⟩ := c72_2 (s := (0, fun _ => 0)) (S := zQ [] []) (m0 := m) (B := B) (d := 13) (Q := fun r m' => ∃ v, r = some (zl v) ∧ f72_2 g0 a1 a2 m = v ∧ (True)) g0 a1 a2 (Nat.le_refl _) hJ.j hB ha1 ha2 (fun v hb hF => ⟨v, rfl, hF, hb⟩) (fun q hq => by
    simp only [List.mem_cons, List.not_mem_nil, or_false] at hq
    rcases hq with rfl | rfl | rfl
    · exact zv26 hg0
    · exact (show -2147483648 ≤ a1 ∧ a1 ≤ 2147483647 by omega)
    · exact (show -2147483648 ≤ a2 ∧ a2 ≤ 2147483647 by omega)) (fun _ h => absurd h List.not_mem_nil) hk
  obtain ⟨v, hr, hF, h⟩ := h
  rw [hF]
  exact h2 _ hr
theorem q161_1 {m : zM} {B : Int} (g0 : Nat) (a1 a2 a3 : Int) (hk : z_mok lL m) (hJ : JB B m) (hB : B + 0 ≤ 1000000000) (hg0 : g0 < 3) (ha1 : 0 ≤ a1 ∧ a1 ≤ 5) (ha2 : 0 ≤ a2 ∧ a2 ≤ 6) (ha3 : (-1) ≤ a3 ∧ a3 ≤ 3) (hp0 : 0 ≤ a1) (hp1 : a1 < m g0 23 3) : (-9223372036854775808 ≤ (f161_1 g0 a1 a2 a3 m) ∧ (f161_1 g0 a1 a2 a3 m) ≤ 9223372036854775807) := by
  obtain ⟨_, r, m1, _, h2, hk1, h⟩ := c161_1 (s := (0, fun _ => 0)) (S := zQ [] []) (m0 := m) (B := B) (d := 14) (Q := fun r m' => ∃ v, r = some (zl v) ∧ f161_1 g0 a1 a2 a3 m = v ∧ (True)) g0 a1 a2 a3 (Nat.le_refl _) hJ.j hB ha1 ha2 ha3 hp0 hp1 (fun v hb hF => ⟨v, rfl, hF, hb⟩) (fun q hq => by
    simp only [List.mem_cons, List.not_mem_nil, or_false] at hq
    rcases hq with rfl | rfl | rfl | rfl
    · exact zv23 hg0
    · exact (show -2147483648 ≤ a1 ∧ a1 ≤ 2147483647 by omega)
    · exact (show -2147483648 ≤ a2 ∧ a2 ≤ 2147483647 by omega)
    · exact (show -2147483648 ≤ a3 ∧ a3 ≤ 2147483647 by omega)) (fun _ h => absurd h List.not_mem_nil) hk
  obtain ⟨v, hr, hF, h⟩ := h
  rw [hF]
  exact h2 _ hr
theorem q159_1 {m : zM} {B : Int} (a1 a2 a3 : Int) (hk : z_mok lL m) (hJ : JB B m) (hB : B + 0 ≤ 1000000000) (ha1 : (-2147483648) ≤ a1 ∧ a1 ≤ 2147483647) (ha2 : (-2147483648) ≤ a2 ∧ a2 ≤ 2147483647) (ha3 : (-2147483648) ≤ a3 ∧ a3 ≤ 2147483647) : (-9223372036854775808 ≤ (f159_1 a1 a2 a3 m) ∧ (f159_1 a1 a2 a3 m) ≤ 9223372036854775807) := by
  obtain ⟨_, r, m1, _, h2, hk1, h⟩ := c159_1 (s := (0, fun _ => 0)) (S := zQ [] []) (m0 := m) (B := B) (d := 15) (Q := fun r m' => ∃ v, r = some (zl v) ∧ f159_1 a1 a2 a3 m = v ∧ (True)) a1 a2 a3 (Nat.le_refl _) hJ.j hB ha1 ha2 ha3 (fun v hb hF => ⟨v, rfl, hF, hb⟩) (fun q hq => by
    simp only [List.mem_cons, List.not_mem_nil, or_false] at hq
    rcases hq with rfl | rfl | rfl | rfl
    · exact zv40
    · exact (show -2147483648 ≤ a1 ∧ a1 ≤ 2147483647 by omega)
    · exact (show -2147483648 ≤ a2 ∧ a2 ≤ 2147483647 by omega)
    · exact (show -2147483648 ≤ a3 ∧ a3 ≤ 2147483647 by omega)) (fun _ h => absurd h List.not_mem_nil) hk
  obtain ⟨v, hr, hF, h⟩ := h
  rw [hF]
  exact h2 _ hr
theorem q289_1 {m : zM} {B : Int} (a1 : Int) (hk : z_mok lL m) (hJ : JB B m) (hB : B + 0 ≤ 1000000000) (ha1 : (-2147483648) ≤ a1 ∧ a1 ≤ 2147483647) : ((-1) ≤ (f289_1 a1 m) ∧ (f289_1 a1 m) ≤ 1442) ∧ ((f289_1 a1 m) = -1 ∨ (f289_1 a1 m) = 1172 ∨ 1217 ≤ (f289_1 a1 m)) := by
  obtain ⟨_, r, m1, _, h2, hk1, h⟩ := c289_1 (s := (0, fun _ => 0)) (S := zQ [] []) (m0 := m) (B := B) (d := 13) (Q := fun r m' => ∃ v, r = some (zi v) ∧ f289_1 a1 m = v ∧ ((-1) ≤ v ∧ v ≤ 1442) ∧ (v = -1 ∨ v = 1172 ∨ 1217 ≤ v)) a1 (Nat.le_refl _) hJ.j hB ha1 (fun v hb hF p0 => ⟨v, rfl, hF, hb, p0⟩) (fun q hq => by
    simp only [List.mem_cons, List.not_mem_nil, or_false] at hq
    rcases hq with rfl | rfl
    · exact zv44
    · exact (show -2147483648 ≤ a1 ∧ a1 ≤ 2147483647 by omega)) (fun _ h => absurd h List.not_mem_nil) hk
  obtain ⟨v, hr, hF, h⟩ := h
  rw [hF]
  exact h
theorem q288_1 {m : zM} {B : Int} (a1 a2 a3 : Int) (hk : z_mok lL m) (hJ : JB B m) (hB : B + 0 ≤ 1000000000) (ha1 : (-2147483648) ≤ a1 ∧ a1 ≤ 2147483647) (ha2 : (-2147483648) ≤ a2 ∧ a2 ≤ 2147483647) (ha3 : (-2147483648) ≤ a3 ∧ a3 ≤ 2147483647) : (-9223372036854775808 ≤ (f288_1 a1 a2 a3 m) ∧ (f288_1 a1 a2 a3 m) ≤ 9223372036854775807) := by
  obtain ⟨_, r, m1, _, h2, hk1, h⟩ := c288_1 (s := (0, fun _ => 0)) (S := zQ [] []) (m0 := m) (B := B) (d := 14) (Q := fun r m' => ∃ v, r = some (zl v) ∧ f288_1 a1 a2 a3 m = v ∧ (True)) a1 a2 a3 (Nat.le_refl _) hJ.j hB ha1 ha2 ha3 (fun v hb hF => ⟨v, rfl, hF, hb⟩) (fun q hq => by
    simp only [List.mem_cons, List.not_mem_nil, or_false] at hq
    rcases hq with rfl | rfl | rfl | rfl
    · exact zv44
    · exact (show -2147483648 ≤ a1 ∧ a1 ≤ 2147483647 by omega)
    · exact (show -2147483648 ≤ a2 ∧ a2 ≤ 2147483647 by omega)
    · exact (show -2147483648 ≤ a3 ∧ a3 ≤ 2147483647 by omega)) (fun _ h => absurd h List.not_mem_nil) hk
  obtain ⟨v, hr, hF, h⟩ := h
  rw [hF]
  exact h2 _ hr
theorem q163_1 {m : zM} {B : Int} (a1 a2 : Int) (hk : z_mok lL m) (hJ : JB B m) (hB : B + 0 ≤ 1000000000) (ha1 : (-2147483648) ≤ a1 ∧ a1 ≤ 2147483647) (ha2 : (-2147483648) ≤ a2 ∧ a2 ≤ 2147483647) : (-9223372036854775808 ≤ (f163_1 a1 a2 m) ∧ (f163_1 a1 a2 m) ≤ 9223372036854775807) := by
  obtain ⟨_, r, m1, _, h2, hk1, h⟩ := c163_1 (s := (0, fun _ => 0)) (S := zQ [] []) (m0 := m) (B := B) (d := 14) (Q := fun r m' => ∃ v, r = some (zl v) ∧ f163_1 a1 a2 m = v ∧ (True)) a1 a2 (Nat.le_refl _) hJ.j hB ha1 ha2 (fun v hb hF => ⟨v, rfl, hF, hb⟩) (fun q hq => by
    simp only [List.mem_cons, List.not_mem_nil, or_false] at hq
    rcases hq with rfl | rfl | rfl
    · exact zv40
    · exact (show -2147483648 ≤ a1 ∧ a1 ≤ 2147483647 by omega)
    · exact (show -2147483648 ≤ a2 ∧ a2 ≤ 2147483647 by omega)) (fun _ h => absurd h List.not_mem_nil) hk
  obtain ⟨v, hr, hF, h⟩ := h
  rw [hF]
  exact h2 _ hr
theorem q292_1 {m : zM} {B : Int} (a1 a2 : Int) (hk : z_mok lL m) (hJ : JB B m) (hB : B + 0 ≤ 1000000000) (ha1 : (-2147483648) ≤ a1 ∧ a1 ≤ 2147483647) (ha2 : (-2147483648) ≤ a2 ∧ a2 ≤ 2147483647) : (-9223372036854775808 ≤ (f292_1 a1 a2 m) ∧ (f292_1 a1 a2 m) ≤ 9223372036854775807) := by
  obtain ⟨_, r, m1, _, h2, hk1, h⟩ := c292_1 (s := (0, fun _ => 0)) (S := zQ [] []) (m0 := m) (B := B) (d := 14) (Q := fun r m' => ∃ v, r = some (zl v) ∧ f292_1 a1 a2 m = v ∧ (True)) a1 a2 (Nat.le_refl _) hJ.j hB ha1 ha2 (fun v hb hF => ⟨v, rfl, hF, hb⟩) (fun q hq => by
    simp only [List.mem_cons, List.not_mem_nil, or_false] at hq
    rcases hq with rfl | rfl | rfl
    · exact zv44
    · exact (show -2147483648 ≤ a1 ∧ a1 ≤ 2147483647 by omega)
    · exact (show -2147483648 ≤ a2 ∧ a2 ≤ 2147483647 by omega)) (fun _ h => absurd h List.not_mem_nil) hk
  obtain ⟨v, hr, hF, h⟩ := h
  rw [hF]
  exact h2 _ hr
theorem q168_1 {m : zM} {B : Int} (g0 : Nat) (a1 : Int) (hk : z_mok lL m) (hJ : JB B m) (hB : B + 0 ≤ 1000000000) (hg0 : g0 < 3) (ha1 : 20 ≤ a1 ∧ a1 ≤ 20) : ((-1) ≤ (f168_1 g0 a1 m) ∧ (f168_1 g0 a1 m) ≤ 1000000) := by
  obtain ⟨_, r, m1, _, h2, hk1, h⟩ := c168_1 (s := (0, fun _ => 0)) (S := zQ [] []) (m0 := m) (B := B) (d := 14) (Q := fun r m' => ∃ v, r = some (zi v) ∧ f168_1 g0 a1 m = v ∧ ((-1) ≤ v ∧ v ≤ 1000000)) g0 a1 (Nat.le_refl _) hJ.j hB ha1 (fun v hb hF => ⟨v, rfl, hF, hb⟩) (fun q hq => by
    simp only [List.mem_cons, List.not_mem_nil, or_false] at hq
    rcases hq with rfl | rfl
    · exact zv9 hg0
    · exact (show -2147483648 ≤ a1 ∧ a1 ≤ 2147483647 by omega)) (fun _ h => absurd h List.not_mem_nil) hk
  obtain ⟨v, hr, hF, h⟩ := h
  rw [hF]
  exact h
theorem q168_2 {m : zM} {B : Int} (g0 : Nat) (a1 : Int) (hk : z_mok lL m) (hJ : JB B m) (hB : B + 0 ≤ 1000000000) (hg0 : g0 < 3) (ha1 : 21 ≤ a1 ∧ a1 ≤ 21) : ((-1) ≤ (f168_1 g0 a1 m) ∧ (f168_1 g0 a1 m) ≤ 1000000) := by
  obtain ⟨_, r, m1, _, h2, hk1, h⟩ := c168_2 (s := (0, fun _ => 0)) (S := zQ [] []) (m0 := m) (B := B) (d := 14) (Q := fun r m' => ∃ v, r = some (zi v) ∧ f168_1 g0 a1 m = v ∧ ((-1) ≤ v ∧ v ≤ 1000000)) g0 a1 (Nat.le_refl _) hJ.j hB ha1 (fun v hb hF => ⟨v, rfl, hF, hb⟩) (fun q hq => by
    simp only [List.mem_cons, List.not_mem_nil, or_false] at hq
    rcases hq with rfl | rfl
    · exact zv9 hg0
    · exact (show -2147483648 ≤ a1 ∧ a1 ≤ 2147483647 by omega)) (fun _ h => absurd h List.not_mem_nil) hk
  obtain ⟨v, hr, hF, h⟩ := h
  rw [hF]
  exact h
theorem q168_3 {m : zM} {B : Int} (g0 : Nat) (a1 : Int) (hk : z_mok lL m) (hJ : JB B m) (hB : B + 0 ≤ 1000000000) (hg0 : g0 < 3) (ha1 : 22 ≤ a1 ∧ a1 ≤ 22) : ((-1) ≤ (f168_1 g0 a1 m) ∧ (f168_1 g0 a1 m) ≤ 1000000) := by
  obtain ⟨_, r, m1, _, h2, hk1, h⟩ := c168_3 (s := (0, fun _ => 0)) (S := zQ [] []) (m0 := m) (B := B) (d := 14) (Q := fun r m' => ∃ v, r = some (zi v) ∧ f168_1 g0 a1 m = v ∧ ((-1) ≤ v ∧ v ≤ 1000000)) g0 a1 (Nat.le_refl _) hJ.j hB ha1 (fun v hb hF => ⟨v, rfl, hF, hb⟩) (fun q hq => by
    simp only [List.mem_cons, List.not_mem_nil, or_false] at hq
    rcases hq with rfl | rfl
    · exact zv9 hg0
    · exact (show -2147483648 ≤ a1 ∧ a1 ≤ 2147483647 by omega)) (fun _ h => absurd h List.not_mem_nil) hk
  obtain ⟨v, hr, hF, h⟩ := h
  rw [hF]
  exact h
theorem q168_4 {m : zM} {B : Int} (g0 : Nat) (a1 : Int) (hk : z_mok lL m) (hJ : JB B m) (hB : B + 0 ≤ 1000000000) (hg0 : g0 < 3) (ha1 : 0 ≤ a1 ∧ a1 ≤ 22) : ((-1) ≤ (f168_1 g0 a1 m) ∧ (f168_1 g0 a1 m) ≤ 1000000) := by
  obtain ⟨_, r, m1, _, h2, hk1, h⟩ := c168_4 (s := (0, fun _ => 0)) (S := zQ [] []) (m0 := m) (B := B) (d := 14) (Q := fun r m' => ∃ v, r = some (zi v) ∧ f168_1 g0 a1 m = v ∧ ((-1) ≤ v ∧ v ≤ 1000000)) g0 a1 (Nat.le_refl _) hJ.j hB ha1 (fun v hb hF => ⟨v, rfl, hF, hb⟩) (fun q hq => by
    simp only [List.mem_cons, List.not_mem_nil, or_false] at hq
    rcases hq with rfl | rfl
    · exact zv9 hg0
    · exact (show -2147483648 ≤ a1 ∧ a1 ≤ 2147483647 by omega)) (fun _ h => absurd h List.not_mem_nil) hk
  obtain ⟨v, hr, hF, h⟩ := h
  rw [hF]
  exact h
theorem q167_1 {m : zM} {B : Int} (g0 g2 : Nat) (a1 : Int) (hk : z_mok lL m) (hJ : JB B m) (hB : B + 0 ≤ 1000000000) (hg0 : g0 < 3) (hg2 : g2 < 3) (ha1 : 0 ≤ a1 ∧ a1 ≤ 5) (hp0 : 0 ≤ a1) (hp1 : a1 < m g0 23 3) : (-9223372036854775808 ≤ (f167_1 g0 g2 a1 m) ∧ (f167_1 g0 g2 a1 m) ≤ 9223372036854775807) := by
  obtain ⟨_, r, m1, _, h2, hk1, h⟩ := c167_1 (s := (0, fun _ => 0)) (S := zQ [] []) (m0 := m) (B := B) (d := 15) (Q := fun r m' => ∃ v, r = some (zl v) ∧ f167_1 g0 g2 a1 m = v ∧ (True)) g0 g2 a1 (Nat.le_refl _) hJ.j hB ha1 hp0 hp1 (fun v hb hF => ⟨v, rfl, hF, hb⟩) (fun q hq => by
    simp only [List.mem_cons, List.not_mem_nil, or_false] at hq
    rcases hq with rfl | rfl | rfl
    · exact zv23 hg0
    · exact (show -2147483648 ≤ a1 ∧ a1 ≤ 2147483647 by omega)
    · exact zv9 hg2) (fun _ h => absurd h List.not_mem_nil) hk
  obtain ⟨v, hr, hF, h⟩ := h
  rw [hF]
  exact h2 _ hr
theorem q169_1 {m : zM} {B : Int} (a0 a1 : Int) (hk : z_mok lL m) (hJ : JB B m) (hB : B + 0 ≤ 1000000000) (ha0 : -9223372036854775808 ≤ a0 ∧ a0 ≤ 9223372036854775807) (ha1 : 100 ≤ a1 ∧ a1 ≤ 100000000) : (1 ≤ (f169_1 a0 a1 m)) := by
  obtain ⟨_, r, m1, _, h2, hk1, h⟩ := c169_1 (s := (0, fun _ => 0)) (S := zQ [] []) (m0 := m) (B := B) (d := 13) (Q := fun r m' => ∃ v, r = some (zl v) ∧ f169_1 a0 a1 m = v ∧ (1 ≤ v)) a0 a1 (Nat.le_refl _) hJ.j hB ha1 (fun v hb hF => ⟨v, rfl, hF, hb⟩) (fun q hq => by
    simp only [List.mem_cons, List.not_mem_nil, or_false] at hq
    rcases hq with rfl | rfl
    · exact (show -9223372036854775808 ≤ a0 ∧ a0 ≤ 9223372036854775807 by omega)
    · exact (show -9223372036854775808 ≤ a1 ∧ a1 ≤ 9223372036854775807 by omega)) (fun _ h => absurd h List.not_mem_nil) hk
  obtain ⟨v, hr, hF, h⟩ := h
  rw [hF]
  exact h
theorem q166_1 {m : zM} {B : Int} (a1 a2 : Int) (hk : z_mok lL m) (hJ : JB B m) (hB : B + 0 ≤ 1000000000) (ha1 : (-2147483648) ≤ a1 ∧ a1 ≤ 2147483647) (ha2 : (-2147483648) ≤ a2 ∧ a2 ≤ 2147483647) : (-9223372036854775808 ≤ (f166_1 a1 a2 m) ∧ (f166_1 a1 a2 m) ≤ 9223372036854775807) := by
  obtain ⟨_, r, m1, _, h2, hk1, h⟩ := c166_1 (s := (0, fun _ => 0)) (S := zQ [] []) (m0 := m) (B := B) (d := 16) (Q := fun r m' => ∃ v, r = some (zl v) ∧ f166_1 a1 a2 m = v ∧ (True)) a1 a2 (Nat.le_refl _) hJ.j hB ha1 ha2 (fun v hb hF => ⟨v, rfl, hF, hb⟩) (fun q hq => by
    simp only [List.mem_cons, List.not_mem_nil, or_false] at hq
    rcases hq with rfl | rfl | rfl
    · exact zv40
    · exact (show -2147483648 ≤ a1 ∧ a1 ≤ 2147483647 by omega)
    · exact (show -2147483648 ≤ a2 ∧ a2 ≤ 2147483647 by omega)) (fun _ h => absurd h List.not_mem_nil) hk
  obtain ⟨v, hr, hF, h⟩ := h
  rw [hF]
  exact h2 _ hr
theorem q293_1 {m : zM} {B : Int} (a1 a2 : Int) (hk : z_mok lL m) (hJ : JB B m) (hB : B + 0 ≤ 1000000000) (ha1 : (-2147483648) ≤ a1 ∧ a1 ≤ 2147483647) (ha2 : (-2147483648) ≤ a2 ∧ a2 ≤ 2147483647) : (-9223372036854775808 ≤ (f293_1 a1 a2 m) ∧ (f293_1 a1 a2 m) ≤ 9223372036854775807) := by
  obtain ⟨_, r, m1, _, h2, hk1, h⟩ := c293_1 (s := (0, fun _ => 0)) (S := zQ [] []) (m0 := m) (B := B) (d := 132) (Q := fun r m' => ∃ v, r = some (zl v) ∧ f293_1 a1 a2 m = v ∧ (True)) a1 a2 (Nat.le_refl _) hJ.j hB ha1 ha2 (fun v hb hF => ⟨v, rfl, hF, hb⟩) (fun q hq => by
    simp only [List.mem_cons, List.not_mem_nil, or_false] at hq
    rcases hq with rfl | rfl | rfl
    · exact zv44
    · exact (show -2147483648 ≤ a1 ∧ a1 ≤ 2147483647 by omega)
    · exact (show -2147483648 ≤ a2 ∧ a2 ≤ 2147483647 by omega)) (fun _ h => absurd h List.not_mem_nil) hk
  obtain ⟨v, hr, hF, h⟩ := h
  rw [hF]
  exact h2 _ hr
theorem q173_1 {m : zM} {B : Int} (g0 g1 : Nat) (hk : z_mok lL m) (hJ : JB B m) (hB : B + 0 ≤ 1000000000) (hg0 : g0 < 3) (hg1 : g1 < 3) : z_mok lL (f173_1 g0 g1 m) ∧ J (zQ [2] [g0]) m (B) (f173_1 g0 g1 m) := by
  obtain ⟨_, r, m1, _, h2, hk1, h⟩ := c173_1 (s := (0, fun _ => 0)) (S := zQ [2] [g0]) (m0 := m) (B := B) (d := 13) (Q := fun r m' => f173_1 g0 g1 m = m' ∧ J (zQ [2] [g0]) m (B) m') g0 g1 (Nat.le_refl _) hJ.j hB (zQ_n rfl) (zQ_g (by simp)) (fun m' hF hJ' => ⟨hF, hJ'⟩) (fun q hq => by
    simp only [List.mem_cons, List.not_mem_nil, or_false] at hq
    rcases hq with rfl | rfl
    · exact zv19 hg0
    · exact zv19 hg1) (fun _ h => absurd h List.not_mem_nil) hk
  obtain ⟨hF, hJ1⟩ := h
  rw [hF]
  exact ⟨hk1, hJ1⟩
theorem q175_1 {m : zM} {B : Int} (g0 g1 : Nat) (hk : z_mok lL m) (hJ : JB B m) (hB : B + 1 ≤ 1000000000) (hg0 : g0 < 3) (hg1 : g1 < 3) : z_mok lL (f175_1 g0 g1 m) ∧ J (zQ [7] [g0]) m (B + 1) (f175_1 g0 g1 m) := by
  obtain ⟨_, r, m1, _, h2, hk1, h⟩ := c175_1 (s := (0, fun _ => 0)) (S := zQ [7] [g0]) (m0 := m) (B := B) (d := 13) (Q := fun r m' => f175_1 g0 g1 m = m' ∧ J (zQ [7] [g0]) m (B + 1) m') g0 g1 (Nat.le_refl _) hJ.j hB (zQ_n rfl) (zQ_g (by simp)) (fun m' hF hJ' => ⟨hF, hJ'⟩) (fun q hq => by
    simp only [List.mem_cons, List.not_mem_nil, or_false] at hq
    rcases hq with rfl | rfl
    · exact zv27 hg0
    · exact zv27 hg1) (fun _ h => absurd h List.not_mem_nil) hk
  obtain ⟨hF, hJ1⟩ := h
  rw [hF]
  exact ⟨hk1, hJ1⟩
theorem q171_1 {m : zM} {B : Int} (g0 g1 : Nat) (hk : z_mok lL m) (hJ : JB B m) (hB : B + 4 ≤ 1000000000) (hg0 : g0 < 3) (hg1 : g1 < 3) : z_mok lL (f171_1 g0 g1 m) ∧ J (zQ [1, 2, 3, 4, 5, 6, 7, 8, 9, 10, 11, 12, 13] [g0]) m (B + 4) (f171_1 g0 g1 m) := by
  obtain ⟨_, r, m1, _, h2, hk1, h⟩ := c171_1 (s := (0, fun _ => 0)) (S := zQ [1, 2, 3, 4, 5, 6, 7, 8, 9, 10, 11, 12, 13] [g0]) (m0 := m) (B := B) (d := 14) (Q := fun r m' => f171_1 g0 g1 m = m' ∧ J (zQ [1, 2, 3, 4, 5, 6, 7, 8, 9, 10, 11, 12, 13] [g0]) m (B + 4) m') g0 g1 (Nat.le_refl _) hJ.j hB (zQ_n rfl) (zQ_n rfl) (zQ_n rfl) (zQ_n rfl) (zQ_n rfl) (zQ_n rfl) (zQ_n rfl) (zQ_n rfl) (zQ_n rfl) (zQ_n rfl) (zQ_n rfl) (zQ_n rfl) (zQ_n rfl) (zQ_g (by simp)) (fun m' hF hJ' => ⟨hF, hJ'⟩) (fun q hq => by
    simp only [List.mem_cons, List.not_mem_nil, or_false] at hq
    rcases hq with rfl | rfl
    · exact zv8 hg0
    · exact zv8 hg1) (fun _ h => absurd h List.not_mem_nil) hk
  obtain ⟨hF, hJ1⟩ := h
  rw [hF]
  exact ⟨hk1, hJ1⟩
theorem q180_1 {m : zM} {B : Int} (g0 : Nat) (hk : z_mok lL m) (hJ : JB B m) (hB : B + 0 ≤ 1000000000) (hg0 : g0 < 3) : ((-1) ≤ (f180_1 g0 m)) := by
  obtain ⟨_, r, m1, _, h2, hk1, h⟩ := c180_1 (s := (0, fun _ => 0)) (S := zQ [] []) (m0 := m) (B := B) (d := 13) (Q := fun r m' => ∃ v, r = some (zl v) ∧ f180_1 g0 m = v ∧ ((-1) ≤ v)) g0 (Nat.le_refl _) hJ.j hB  (fun v hb hF => ⟨v, rfl, hF, hb⟩) (fun q hq => by
    simp only [List.mem_cons, List.not_mem_nil, or_false] at hq
    subst hq
    · exact zv30 hg0) (fun _ h => absurd h List.not_mem_nil) hk
  obtain ⟨v, hr, hF, h⟩ := h
  rw [hF]
  exact h
theorem q170_1 {m : zM} {B : Int} (a1 a2 : Int) (hk : z_mok lL m) (hJ : JB B m) (hB : B + 7212 ≤ 1000000000) (ha1 : (-2147483648) ≤ a1 ∧ a1 ≤ 2147483647) (ha2 : (-2147483648) ≤ a2 ∧ a2 ≤ 2147483647) : z_mok lL (f170_1 a1 a2 m).2 ∧ J (zQ [1, 2, 3, 4, 5, 6, 7, 8, 9, 10, 11, 12, 13] [2]) m (B + 7212) (f170_1 a1 a2 m).2 ∧ (-9223372036854775808 ≤ (f170_1 a1 a2 m).1 ∧ (f170_1 a1 a2 m).1 ≤ 9223372036854775807) := by
  obtain ⟨_, r, m1, _, h2, hk1, h⟩ := c170_1 (s := (0, fun _ => 0)) (S := zQ [1, 2, 3, 4, 5, 6, 7, 8, 9, 10, 11, 12, 13] [2]) (m0 := m) (B := B) (d := 19) (Q := fun r m' => ∃ v, r = some (zl v) ∧ f170_1 a1 a2 m = (v, m') ∧ J (zQ [1, 2, 3, 4, 5, 6, 7, 8, 9, 10, 11, 12, 13] [2]) m (B + 7212) m' ∧ (True)) a1 a2 (Nat.le_refl _) hJ.j hB ha1 ha2 (zQ_n rfl) (zQ_n rfl) (zQ_n rfl) (zQ_n rfl) (zQ_n rfl) (zQ_n rfl) (zQ_n rfl) (zQ_n rfl) (zQ_n rfl) (zQ_n rfl) (zQ_n rfl) (zQ_n rfl) (zQ_n rfl) (zQ_g (by simp)) (fun v m' hb hF hJ' => ⟨v, rfl, hF, hJ', hb⟩) (fun q hq => by
    simp only [List.mem_cons, List.not_mem_nil, or_false] at hq
    rcases hq with rfl | rfl | rfl
    · exact zv40
    · exact (show -2147483648 ≤ a1 ∧ a1 ≤ 2147483647 by omega)
    · exact (show -2147483648 ≤ a2 ∧ a2 ≤ 2147483647 by omega)) (fun _ h => absurd h List.not_mem_nil) hk
  obtain ⟨v, hr, hF, hJ1, h⟩ := h
  rw [hF]
  exact ⟨hk1, hJ1, h2 _ hr⟩
theorem q304_1 {m : zM} {B : Int} (hk : z_mok lL m) (hJ : JB B m) (hB : B + 0 ≤ 1000000000) : ((-1) ≤ (f304_1 m)) := by
  obtain ⟨_, r, m1, _, h2, hk1, h⟩ := c304_1 (s := (0, fun _ => 0)) (S := zQ [] []) (m0 := m) (B := B) (d := 13) (Q := fun r m' => ∃ v, r = some (zl v) ∧ f304_1 m = v ∧ ((-1) ≤ v))  (Nat.le_refl _) hJ.j hB  (fun v hb hF => ⟨v, rfl, hF, hb⟩) (fun q hq => by
    simp only [List.mem_cons, List.not_mem_nil, or_false] at hq
    subst hq
    · exact zv44) (fun _ h => absurd h List.not_mem_nil) hk
  obtain ⟨v, hr, hF, h⟩ := h
  rw [hF]
  exact h
theorem q303_1 {m : zM} {B : Int} (a1 : Int) (hk : z_mok lL m) (hJ : JB B m) (hB : B + 0 ≤ 1000000000) (ha1 : 0 ≤ a1 ∧ a1 ≤ 6) : (-9223372036854775808 ≤ (f303_1 a1 m) ∧ (f303_1 a1 m) ≤ 9223372036854775807) := by
  obtain ⟨_, r, m1, _, h2, hk1, h⟩ := c303_1 (s := (0, fun _ => 0)) (S := zQ [] []) (m0 := m) (B := B) (d := 14) (Q := fun r m' => ∃ v, r = some (zl v) ∧ f303_1 a1 m = v ∧ (True)) a1 (Nat.le_refl _) hJ.j hB ha1 (fun v hb hF => ⟨v, rfl, hF, hb⟩) (fun q hq => by
    simp only [List.mem_cons, List.not_mem_nil, or_false] at hq
    rcases hq with rfl | rfl
    · exact zv44
    · exact (show -2147483648 ≤ a1 ∧ a1 ≤ 2147483647 by omega)) (fun _ h => absurd h List.not_mem_nil) hk
  obtain ⟨v, hr, hF, h⟩ := h
  rw [hF]
  exact h2 _ hr
theorem q302_1 {m : zM} {B : Int} (a1 a2 : Int) (hk : z_mok lL m) (hJ : JB B m) (hB : B + 9911 ≤ 1000000000) (ha1 : (-2147483648) ≤ a1 ∧ a1 ≤ 2147483647) (ha2 : (-2147483648) ≤ a2 ∧ a2 ≤ 2147483647) : z_mok lL (f302_1 a1 a2 m).2 ∧ J (zQ [21, 22, 23, 24, 25, 26, 27, 28, 29, 30, 31, 32, 33, 38] [4]) m (B + 9911) (f302_1 a1 a2 m).2 ∧ (-9223372036854775808 ≤ (f302_1 a1 a2 m).1 ∧ (f302_1 a1 a2 m).1 ≤ 9223372036854775807) := by
  obtain ⟨_, r, m1, _, h2, hk1, h⟩ := c302_1 (s := (0, fun _ => 0)) (S := zQ [21, 22, 23, 24, 25, 26, 27, 28, 29, 30, 31, 32, 33, 38] [4]) (m0 := m) (B := B) (d := 20) (Q := fun r m' => ∃ v, r = some (zl v) ∧ f302_1 a1 a2 m = (v, m') ∧ J (zQ [21, 22, 23, 24, 25, 26, 27, 28, 29, 30, 31, 32, 33, 38] [4]) m (B + 9911) m' ∧ (True)) a1 a2 (Nat.le_refl _) hJ.j hB ha1 ha2 (zQ_n rfl) (zQ_n rfl) (zQ_n rfl) (zQ_n rfl) (zQ_n rfl) (zQ_n rfl) (zQ_n rfl) (zQ_n rfl) (zQ_n rfl) (zQ_n rfl) (zQ_n rfl) (zQ_n rfl) (zQ_n rfl) (zQ_n rfl) (zQ_g (by simp)) (fun v m' hb hF hJ' => ⟨v, rfl, hF, hJ', hb⟩) (fun q hq => by
    simp only [List.mem_cons, List.not_mem_nil, or_false] at hq
    rcases hq with rfl | rfl | rfl
    · exact zv44
    · exact (show -2147483648 ≤ a1 ∧ a1 ≤ 2147483647 by omega)
    · exact (show -2147483648 ≤ a2 ∧ a2 ≤ 2147483647 by omega)) (fun _ h => absurd h List.not_mem_nil) hk
  obtain ⟨v, hr, hF, hJ1, h⟩ := h
  rw [hF]
  exact ⟨hk1, hJ1, h2 _ hr⟩
theorem q182_1 {m : zM} {B : Int} (g0 g3 : Nat) (a1 a2 : Int) (hk : z_mok lL m) (hJ : JB B m) (hB : B + 0 ≤ 1000000000) (hg0 : g0 < 4) (hg3 : g3 < 3) (ha1 : 0 ≤ a1 ∧ a1 ≤ 2000000000) (ha2 : 1 ≤ a2 ∧ a2 ≤ 100000) : (-9223372036854775808 ≤ (f182_1 g0 g3 a1 a2 m) ∧ (f182_1 g0 g3 a1 a2 m) ≤ 9223372036854775807) := by
  obtain ⟨_, r, m1, _, h2, hk1, h⟩ := c182_1 (s := (0, fun _ => 0)) (S := zQ [] []) (m0 := m) (B := B) (d := 16) (Q := fun r m' => ∃ v, r = some (zl v) ∧ f182_1 g0 g3 a1 a2 m = v ∧ (True)) g0 g3 a1 a2 (Nat.le_refl _) hJ.j hB ha1 ha2 (fun v hb hF => ⟨v, rfl, hF, hb⟩) (fun q hq => by
    simp only [List.mem_cons, List.not_mem_nil, or_false] at hq
    rcases hq with rfl | rfl | rfl | rfl
    · exact zv11 hg0
    · exact (show -2147483648 ≤ a1 ∧ a1 ≤ 2147483647 by omega)
    · exact (show -2147483648 ≤ a2 ∧ a2 ≤ 2147483647 by omega)
    · exact zv9 hg3) (fun _ h => absurd h List.not_mem_nil) hk
  obtain ⟨v, hr, hF, h⟩ := h
  rw [hF]
  exact h2 _ hr
theorem q182_2 {m : zM} {B : Int} (g0 g3 : Nat) (a1 a2 : Int) (hk : z_mok lL m) (hJ : JB B m) (hB : B + 0 ≤ 1000000000) (hg0 : g0 < 4) (hg3 : g3 < 3) (ha1 : 900 ≤ a1 ∧ a1 ≤ 2000085500) (ha2 : 1 ≤ a2 ∧ a2 ≤ 100000) : (-9223372036854775808 ≤ (f182_1 g0 g3 a1 a2 m) ∧ (f182_1 g0 g3 a1 a2 m) ≤ 9223372036854775807) := by
  obtain ⟨_, r, m1, _, h2, hk1, h⟩ := c182_2 (s := (0, fun _ => 0)) (S := zQ [] []) (m0 := m) (B := B) (d := 16) (Q := fun r m' => ∃ v, r = some (zl v) ∧ f182_1 g0 g3 a1 a2 m = v ∧ (True)) g0 g3 a1 a2 (Nat.le_refl _) hJ.j hB ha1 ha2 (fun v hb hF => ⟨v, rfl, hF, hb⟩) (fun q hq => by
    simp only [List.mem_cons, List.not_mem_nil, or_false] at hq
    rcases hq with rfl | rfl | rfl | rfl
    · exact zv11 hg0
    · exact (show -2147483648 ≤ a1 ∧ a1 ≤ 2147483647 by omega)
    · exact (show -2147483648 ≤ a2 ∧ a2 ≤ 2147483647 by omega)
    · exact zv9 hg3) (fun _ h => absurd h List.not_mem_nil) hk
  obtain ⟨v, hr, hF, h⟩ := h
  rw [hF]
  exact h2 _ hr
theorem q181_1 {m : zM} {B : Int} (a1 : Int) (hk : z_mok lL m) (hJ : JB B m) (hB : B + 0 ≤ 1000000000) (ha1 : (-2147483648) ≤ a1 ∧ a1 ≤ 2147483647) : (-9223372036854775808 ≤ (f181_1 a1 m) ∧ (f181_1 a1 m) ≤ 9223372036854775807) := by
  obtain ⟨_, r, m1, _, h2, hk1, h⟩ := c181_1 (s := (0, fun _ => 0)) (S := zQ [] []) (m0 := m) (B := B) (d := 17) (Q := fun r m' => ∃ v, r = some (zl v) ∧ f181_1 a1 m = v ∧ (True)) a1 (Nat.le_refl _) hJ.j hB ha1 (fun v hb hF => ⟨v, rfl, hF, hb⟩) (fun q hq => by
    simp only [List.mem_cons, List.not_mem_nil, or_false] at hq
    rcases hq with rfl | rfl
    · exact zv40
    · exact (show -2147483648 ≤ a1 ∧ a1 ≤ 2147483647 by omega)) (fun _ h => absurd h List.not_mem_nil) hk
  obtain ⟨v, hr, hF, h⟩ := h
  rw [hF]
  exact h2 _ hr
theorem q307_1 {m : zM} {B : Int} (a1 a2 a3 : Int) (hk : z_mok lL m) (hJ : JB B m) (hB : B + 0 ≤ 1000000000) (ha1 : 0 ≤ a1 ∧ a1 ≤ 23150) (ha2 : 0 ≤ a2 ∧ a2 ≤ 86399) (ha3 : 1 ≤ a3 ∧ a3 ≤ 86400) : (-9223372036854775808 ≤ (f307_1 a1 a2 a3 m) ∧ (f307_1 a1 a2 a3 m) ≤ 9223372036854775807) := by
  obtain ⟨_, r, m1, _, h2, hk1, h⟩ := c307_1 (s := (0, fun _ => 0)) (S := zQ [] []) (m0 := m) (B := B) (d := 15) (Q := fun r m' => ∃ v, r = some (zl v) ∧ f307_1 a1 a2 a3 m = v ∧ (True)) a1 a2 a3 (Nat.le_refl _) hJ.j hB ha1 ha2 ha3 (fun v hb hF => ⟨v, rfl, hF, hb⟩) (fun q hq => by
    simp only [List.mem_cons, List.not_mem_nil, or_false] at hq
    rcases hq with rfl | rfl | rfl | rfl
    · exact zv44
    · exact (show -2147483648 ≤ a1 ∧ a1 ≤ 2147483647 by omega)
    · exact (show -2147483648 ≤ a2 ∧ a2 ≤ 2147483647 by omega)
    · exact (show -2147483648 ≤ a3 ∧ a3 ≤ 2147483647 by omega)) (fun _ h => absurd h List.not_mem_nil) hk
  obtain ⟨v, hr, hF, h⟩ := h
  rw [hF]
  exact h2 _ hr
theorem q307_2 {m : zM} {B : Int} (a1 a2 a3 : Int) (hk : z_mok lL m) (hJ : JB B m) (hB : B + 0 ≤ 1000000000) (ha1 : 0 ≤ a1 ∧ a1 ≤ 23150) (ha2 : 0 ≤ a2 ∧ a2 ≤ 86399) (ha3 : 1 ≤ a3 ∧ a3 ≤ 86400) : (-9223372036854775808 ≤ (f307_1 a1 a2 a3 m) ∧ (f307_1 a1 a2 a3 m) ≤ 9223372036854775807) := by
  obtain ⟨_, r, m1, _, h2, hk1, h⟩ := c307_2 (s := (0, fun _ => 0)) (S := zQ [] []) (m0 := m) (B := B) (d := 15) (Q := fun r m' => ∃ v, r = some (zl v) ∧ f307_1 a1 a2 a3 m = v ∧ (True)) a1 a2 a3 (Nat.le_refl _) hJ.j hB ha1 ha2 ha3 (fun v hb hF => ⟨v, rfl, hF, hb⟩) (fun q hq => by
    simp only [List.mem_cons, List.not_mem_nil, or_false] at hq
    rcases hq with rfl | rfl | rfl | rfl
    · exact zv44
    · exact (show -2147483648 ≤ a1 ∧ a1 ≤ 2147483647 by omega)
    · exact (show -2147483648 ≤ a2 ∧ a2 ≤ 2147483647 by omega)
    · exact (show -2147483648 ≤ a3 ∧ a3 ≤ 2147483647 by omega)) (fun _ h => absurd h List.not_mem_nil) hk
  obtain ⟨v, hr, hF, h⟩ := h
  rw [hF]
  exact h2 _ hr
theorem q307_3 {m : zM} {B : Int} (a1 a2 a3 : Int) (hk : z_mok lL m) (hJ : JB B m) (hB : B + 0 ≤ 1000000000) (ha1 : 0 ≤ a1 ∧ a1 ≤ 23150) (ha2 : 0 ≤ a2 ∧ a2 ≤ 86399) (ha3 : 1 ≤ a3 ∧ a3 ≤ 86400) : (-9223372036854775808 ≤ (f307_1 a1 a2 a3 m) ∧ (f307_1 a1 a2 a3 m) ≤ 9223372036854775807) := by
  obtain ⟨_, r, m1, _, h2, hk1, h⟩ := c307_3 (s := (0, fun _ => 0)) (S := zQ [] []) (m0 := m) (B := B) (d := 15) (Q := fun r m' => ∃ v, r = some (zl v) ∧ f307_1 a1 a2 a3 m = v ∧ (True)) a1 a2 a3 (Nat.le_refl _) hJ.j hB ha1 ha2 ha3 (fun v hb hF => ⟨v, rfl, hF, hb⟩) (fun q hq => by
    simp only [List.mem_cons, List.not_mem_nil, or_false] at hq
    rcases hq with rfl | rfl | rfl | rfl
    · exact zv44
    · exact (show -2147483648 ≤ a1 ∧ a1 ≤ 2147483647 by omega)
    · exact (show -2147483648 ≤ a2 ∧ a2 ≤ 2147483647 by omega)
    · exact (show -2147483648 ≤ a3 ∧ a3 ≤ 2147483647 by omega)) (fun _ h => absurd h List.not_mem_nil) hk
  obtain ⟨v, hr, hF, h⟩ := h
  rw [hF]
  exact h2 _ hr
theorem q307_4 {m : zM} {B : Int} (a1 a2 a3 : Int) (hk : z_mok lL m) (hJ : JB B m) (hB : B + 0 ≤ 1000000000) (ha1 : 0 ≤ a1 ∧ a1 ≤ 23150) (ha2 : 0 ≤ a2 ∧ a2 ≤ 86399) (ha3 : 1 ≤ a3 ∧ a3 ≤ 86400) : (-9223372036854775808 ≤ (f307_1 a1 a2 a3 m) ∧ (f307_1 a1 a2 a3 m) ≤ 9223372036854775807) := by
  obtain ⟨_, r, m1, _, h2, hk1, h⟩ := c307_4 (s := (0, fun _ => 0)) (S := zQ [] []) (m0 := m) (B := B) (d := 15) (Q := fun r m' => ∃ v, r = some (zl v) ∧ f307_1 a1 a2 a3 m = v ∧ (True)) a1 a2 a3 (Nat.le_refl _) hJ.j hB ha1 ha2 ha3 (fun v hb hF => ⟨v, rfl, hF, hb⟩) (fun q hq => by
    simp only [List.mem_cons, List.not_mem_nil, or_false] at hq
    rcases hq with rfl | rfl | rfl | rfl
    · exact zv44
    · exact (show -2147483648 ≤ a1 ∧ a1 ≤ 2147483647 by omega)
    · exact (show -2147483648 ≤ a2 ∧ a2 ≤ 2147483647 by omega)
    · exact (show -2147483648 ≤ a3 ∧ a3 ≤ 2147483647 by omega)) (fun _ h => absurd h List.not_mem_nil) hk
  obtain ⟨v, hr, hF, h⟩ := h
  rw [hF]
  exact h2 _ hr
theorem q307_5 {m : zM} {B : Int} (a1 a2 a3 : Int) (hk : z_mok lL m) (hJ : JB B m) (hB : B + 0 ≤ 1000000000) (ha1 : 0 ≤ a1 ∧ a1 ≤ 23150) (ha2 : 0 ≤ a2 ∧ a2 ≤ 86399) (ha3 : 1 ≤ a3 ∧ a3 ≤ 86400) : (-9223372036854775808 ≤ (f307_1 a1 a2 a3 m) ∧ (f307_1 a1 a2 a3 m) ≤ 9223372036854775807) := by
  obtain ⟨_, r, m1, _, h2, hk1, h⟩ := c307_5 (s := (0, fun _ => 0)) (S := zQ [] []) (m0 := m) (B := B) (d := 15) (Q := fun r m' => ∃ v, r = some (zl v) ∧ f307_1 a1 a2 a3 m = v ∧ (True)) a1 a2 a3 (Nat.le_refl _) hJ.j hB ha1 ha2 ha3 (fun v hb hF => ⟨v, rfl, hF, hb⟩) (fun q hq => by
    simp only [List.mem_cons, List.not_mem_nil, or_false] at hq
    rcases hq with rfl | rfl | rfl | rfl
    · exact zv44
    · exact (show -2147483648 ≤ a1 ∧ a1 ≤ 2147483647 by omega)
    · exact (show -2147483648 ≤ a2 ∧ a2 ≤ 2147483647 by omega)
    · exact (show -2147483648 ≤ a3 ∧ a3 ≤ 2147483647 by omega)) (fun _ h => absurd h List.not_mem_nil) hk
  obtain ⟨v, hr, hF, h⟩ := h
  rw [hF]
  exact h2 _ hr
theorem q307_6 {m : zM} {B : Int} (a1 a2 a3 : Int) (hk : z_mok lL m) (hJ : JB B m) (hB : B + 0 ≤ 1000000000) (ha1 : 0 ≤ a1 ∧ a1 ≤ 23150) (ha2 : 0 ≤ a2 ∧ a2 ≤ 86399) (ha3 : 1 ≤ a3 ∧ a3 ≤ 86400) : (-9223372036854775808 ≤ (f307_1 a1 a2 a3 m) ∧ (f307_1 a1 a2 a3 m) ≤ 9223372036854775807) := by
  obtain ⟨_, r, m1, _, h2, hk1, h⟩ := c307_6 (s := (0, fun _ => 0)) (S := zQ [] []) (m0 := m) (B := B) (d := 15) (Q := fun r m' => ∃ v, r = some (zl v) ∧ f307_1 a1 a2 a3 m = v ∧ (True)) a1 a2 a3 (Nat.le_refl _) hJ.j hB ha1 ha2 ha3 (fun v hb hF => ⟨v, rfl, hF, hb⟩) (fun q hq => by
    simp only [List.mem_cons, List.not_mem_nil, or_false] at hq
    rcases hq with rfl | rfl | rfl | rfl
    · exact zv44
    · exact (show -2147483648 ≤ a1 ∧ a1 ≤ 2147483647 by omega)
    · exact (show -2147483648 ≤ a2 ∧ a2 ≤ 2147483647 by omega)
    · exact (show -2147483648 ≤ a3 ∧ a3 ≤ 2147483647 by omega)) (fun _ h => absurd h List.not_mem_nil) hk
  obtain ⟨v, hr, hF, h⟩ := h
  rw [hF]
  exact h2 _ hr
theorem q307_7 {m : zM} {B : Int} (a1 a2 a3 : Int) (hk : z_mok lL m) (hJ : JB B m) (hB : B + 0 ≤ 1000000000) (ha1 : 0 ≤ a1 ∧ a1 ≤ 23150) (ha2 : 0 ≤ a2 ∧ a2 ≤ 86399) (ha3 : 1 ≤ a3 ∧ a3 ≤ 86400) : (-9223372036854775808 ≤ (f307_1 a1 a2 a3 m) ∧ (f307_1 a1 a2 a3 m) ≤ 9223372036854775807) := by
  obtain ⟨_, r, m1, _, h2, hk1, h⟩ := c307_7 (s := (0, fun _ => 0)) (S := zQ [] []) (m0 := m) (B := B) (d := 15) (Q := fun r m' => ∃ v, r = some (zl v) ∧ f307_1 a1 a2 a3 m = v ∧ (True)) a1 a2 a3 (Nat.le_refl _) hJ.j hB ha1 ha2 ha3 (fun v hb hF => ⟨v, rfl, hF, hb⟩) (fun q hq => by
    simp only [List.mem_cons, List.not_mem_nil, or_false] at hq
    rcases hq with rfl | rfl | rfl | rfl
    · exact zv44
    · exact (show -2147483648 ≤ a1 ∧ a1 ≤ 2147483647 by omega)
    · exact (show -2147483648 ≤ a2 ∧ a2 ≤ 2147483647 by omega)
    · exact (show -2147483648 ≤ a3 ∧ a3 ≤ 2147483647 by omega)) (fun _ h => absurd h List.not_mem_nil) hk
  obtain ⟨v, hr, hF, h⟩ := h
  rw [hF]
  exact h2 _ hr
theorem q307_8 {m : zM} {B : Int} (a1 a2 a3 : Int) (hk : z_mok lL m) (hJ : JB B m) (hB : B + 0 ≤ 1000000000) (ha1 : 0 ≤ a1 ∧ a1 ≤ 23150) (ha2 : 0 ≤ a2 ∧ a2 ≤ 86399) (ha3 : 1 ≤ a3 ∧ a3 ≤ 86400) : (-9223372036854775808 ≤ (f307_1 a1 a2 a3 m) ∧ (f307_1 a1 a2 a3 m) ≤ 9223372036854775807) := by
  obtain ⟨_, r, m1, _, h2, hk1, h⟩ := c307_8 (s := (0, fun _ => 0)) (S := zQ [] []) (m0 := m) (B := B) (d := 15) (Q := fun r m' => ∃ v, r = some (zl v) ∧ f307_1 a1 a2 a3 m = v ∧ (True)) a1 a2 a3 (Nat.le_refl _) hJ.j hB ha1 ha2 ha3 (fun v hb hF => ⟨v, rfl, hF, hb⟩) (fun q hq => by
    simp only [List.mem_cons, List.not_mem_nil, or_false] at hq
    rcases hq with rfl | rfl | rfl | rfl
    · exact zv44
    · exact (show -2147483648 ≤ a1 ∧ a1 ≤ 2147483647 by omega)
    · exact (show -2147483648 ≤ a2 ∧ a2 ≤ 2147483647 by omega)
    · exact (show -2147483648 ≤ a3 ∧ a3 ≤ 2147483647 by omega)) (fun _ h => absurd h List.not_mem_nil) hk
  obtain ⟨v, hr, hF, h⟩ := h
  rw [hF]
  exact h2 _ hr
theorem q307_9 {m : zM} {B : Int} (a1 a2 a3 : Int) (hk : z_mok lL m) (hJ : JB B m) (hB : B + 0 ≤ 1000000000) (ha1 : 0 ≤ a1 ∧ a1 ≤ 23150) (ha2 : 0 ≤ a2 ∧ a2 ≤ 86399) (ha3 : 1 ≤ a3 ∧ a3 ≤ 86400) : (-9223372036854775808 ≤ (f307_1 a1 a2 a3 m) ∧ (f307_1 a1 a2 a3 m) ≤ 9223372036854775807) := by
  obtain ⟨_, r, m1, _, h2, hk1, h⟩ := c307_9 (s := (0, fun _ => 0)) (S := zQ [] []) (m0 := m) (B := B) (d := 15) (Q := fun r m' => ∃ v, r = some (zl v) ∧ f307_1 a1 a2 a3 m = v ∧ (True)) a1 a2 a3 (Nat.le_refl _) hJ.j hB ha1 ha2 ha3 (fun v hb hF => ⟨v, rfl, hF, hb⟩) (fun q hq => by
    simp only [List.mem_cons, List.not_mem_nil, or_false] at hq
    rcases hq with rfl | rfl | rfl | rfl
    · exact zv44
    · exact (show -2147483648 ≤ a1 ∧ a1 ≤ 2147483647 by omega)
    · exact (show -2147483648 ≤ a2 ∧ a2 ≤ 2147483647 by omega)
    · exact (show -2147483648 ≤ a3 ∧ a3 ≤ 2147483647 by omega)) (fun _ h => absurd h List.not_mem_nil) hk
  obtain ⟨v, hr, hF, h⟩ := h
  rw [hF]
  exact h2 _ hr
theorem q306_1 {m : zM} {B : Int} (a1 a2 : Int) (hk : z_mok lL m) (hJ : JB B m) (hB : B + 0 ≤ 1000000000) (ha1 : 0 ≤ a1 ∧ a1 ≤ 2000000000) (ha2 : 1 ≤ a2 ∧ a2 ≤ 100000) : (-9223372036854775808 ≤ (f306_1 a1 a2 m) ∧ (f306_1 a1 a2 m) ≤ 9223372036854775807) := by
  obtain ⟨_, r, m1, _, h2, hk1, h⟩ := c306_1 (s := (0, fun _ => 0)) (S := zQ [] []) (m0 := m) (B := B) (d := 16) (Q := fun r m' => ∃ v, r = some (zl v) ∧ f306_1 a1 a2 m = v ∧ (True)) a1 a2 (Nat.le_refl _) hJ.j hB ha1 ha2 (fun v hb hF => ⟨v, rfl, hF, hb⟩) (fun q hq => by
    simp only [List.mem_cons, List.not_mem_nil, or_false] at hq
    rcases hq with rfl | rfl | rfl
    · exact zv44
    · exact (show -2147483648 ≤ a1 ∧ a1 ≤ 2147483647 by omega)
    · exact (show -2147483648 ≤ a2 ∧ a2 ≤ 2147483647 by omega)) (fun _ h => absurd h List.not_mem_nil) hk
  obtain ⟨v, hr, hF, h⟩ := h
  rw [hF]
  exact h2 _ hr
theorem q306_2 {m : zM} {B : Int} (a1 a2 : Int) (hk : z_mok lL m) (hJ : JB B m) (hB : B + 0 ≤ 1000000000) (ha1 : 900 ≤ a1 ∧ a1 ≤ 2000085500) (ha2 : 1 ≤ a2 ∧ a2 ≤ 100000) : (-9223372036854775808 ≤ (f306_1 a1 a2 m) ∧ (f306_1 a1 a2 m) ≤ 9223372036854775807) := by
  obtain ⟨_, r, m1, _, h2, hk1, h⟩ := c306_2 (s := (0, fun _ => 0)) (S := zQ [] []) (m0 := m) (B := B) (d := 16) (Q := fun r m' => ∃ v, r = some (zl v) ∧ f306_1 a1 a2 m = v ∧ (True)) a1 a2 (Nat.le_refl _) hJ.j hB ha1 ha2 (fun v hb hF => ⟨v, rfl, hF, hb⟩) (fun q hq => by
    simp only [List.mem_cons, List.not_mem_nil, or_false] at hq
    rcases hq with rfl | rfl | rfl
    · exact zv44
    · exact (show -2147483648 ≤ a1 ∧ a1 ≤ 2147483647 by omega)
    · exact (show -2147483648 ≤ a2 ∧ a2 ≤ 2147483647 by omega)) (fun _ h => absurd h List.not_mem_nil) hk
  obtain ⟨v, hr, hF, h⟩ := h
  rw [hF]
  exact h2 _ hr
theorem q306_3 {m : zM} {B : Int} (a1 a2 : Int) (hk : z_mok lL m) (hJ : JB B m) (hB : B + 0 ≤ 1000000000) (ha1 : 0 ≤ a1 ∧ a1 ≤ 2000085500) (ha2 : 1 ≤ a2 ∧ a2 ≤ 100000) : (-9223372036854775808 ≤ (f306_1 a1 a2 m) ∧ (f306_1 a1 a2 m) ≤ 9223372036854775807) := by
  obtain ⟨_, r, m1, _, h2, hk1, h⟩ := c306_3 (s := (0, fun _ => 0)) (S := zQ [] []) (m0 := m) (B := B) (d := 16) (Q := fun r m' => ∃ v, r = some (zl v) ∧ f306_1 a1 a2 m = v ∧ (True)) a1 a2 (Nat.le_refl _) hJ.j hB ha1 ha2 (fun v hb hF => ⟨v, rfl, hF, hb⟩) (fun q hq => by
    simp only [List.mem_cons, List.not_mem_nil, or_false] at hq
    rcases hq with rfl | rfl | rfl
    · exact zv44
    · exact (show -2147483648 ≤ a1 ∧ a1 ≤ 2147483647 by omega)
    · exact (show -2147483648 ≤ a2 ∧ a2 ≤ 2147483647 by omega)) (fun _ h => absurd h List.not_mem_nil) hk
  obtain ⟨v, hr, hF, h⟩ := h
  rw [hF]
  exact h2 _ hr
theorem q305_1 {m : zM} {B : Int} (a1 : Int) (hk : z_mok lL m) (hJ : JB B m) (hB : B + 0 ≤ 1000000000) (ha1 : (-2147483648) ≤ a1 ∧ a1 ≤ 2147483647) : (-9223372036854775808 ≤ (f305_1 a1 m) ∧ (f305_1 a1 m) ≤ 9223372036854775807) := by
  obtain ⟨_, r, m1, _, h2, hk1, h⟩ := c305_1 (s := (0, fun _ => 0)) (S := zQ [] []) (m0 := m) (B := B) (d := 17) (Q := fun r m' => ∃ v, r = some (zl v) ∧ f305_1 a1 m = v ∧ (True)) a1 (Nat.le_refl _) hJ.j hB ha1 (fun v hb hF => ⟨v, rfl, hF, hb⟩) (fun q hq => by
    simp only [List.mem_cons, List.not_mem_nil, or_false] at hq
    rcases hq with rfl | rfl
    · exact zv44
    · exact (show -2147483648 ≤ a1 ∧ a1 ≤ 2147483647 by omega)) (fun _ h => absurd h List.not_mem_nil) hk
  obtain ⟨v, hr, hF, h⟩ := h
  rw [hF]
  exact h2 _ hr
theorem q183_1 {m : zM} {B : Int} (a1 a2 : Int) (hk : z_mok lL m) (hJ : JB B m) (hB : B + 0 ≤ 1000000000) (ha1 : (-2147483648) ≤ a1 ∧ a1 ≤ 2147483647) (ha2 : (-2147483648) ≤ a2 ∧ a2 ≤ 2147483647) : (-9223372036854775808 ≤ (f183_1 a1 a2 m) ∧ (f183_1 a1 a2 m) ≤ 9223372036854775807) := by
  obtain ⟨_, r, m1, _, h2, hk1, h⟩ := c183_1 (s := (0, fun _ => 0)) (S := zQ [] []) (m0 := m) (B := B) (d := 17) (Q := fun r m' => ∃ v, r = some (zl v) ∧ f183_1 a1 a2 m = v ∧ (True)) a1 a2 (Nat.le_refl _) hJ.j hB ha1 ha2 (fun v hb hF => ⟨v, rfl, hF, hb⟩) (fun q hq => by
    simp only [List.mem_cons, List.not_mem_nil, or_false] at hq
    rcases hq with rfl | rfl | rfl
    · exact zv40
    · exact (show -2147483648 ≤ a1 ∧ a1 ≤ 2147483647 by omega)
    · exact (show -2147483648 ≤ a2 ∧ a2 ≤ 2147483647 by omega)) (fun _ h => absurd h List.not_mem_nil) hk
  obtain ⟨v, hr, hF, h⟩ := h
  rw [hF]
  exact h2 _ hr
theorem q308_1 {m : zM} {B : Int} (a1 a2 : Int) (hk : z_mok lL m) (hJ : JB B m) (hB : B + 0 ≤ 1000000000) (ha1 : (-2147483648) ≤ a1 ∧ a1 ≤ 2147483647) (ha2 : (-2147483648) ≤ a2 ∧ a2 ≤ 2147483647) : (-9223372036854775808 ≤ (f308_1 a1 a2 m) ∧ (f308_1 a1 a2 m) ≤ 9223372036854775807) := by
  obtain ⟨_, r, m1, _, h2, hk1, h⟩ := c308_1 (s := (0, fun _ => 0)) (S := zQ [] []) (m0 := m) (B := B) (d := 17) (Q := fun r m' => ∃ v, r = some (zl v) ∧ f308_1 a1 a2 m = v ∧ (True)) a1 a2 (Nat.le_refl _) hJ.j hB ha1 ha2 (fun v hb hF => ⟨v, rfl, hF, hb⟩) (fun q hq => by
    simp only [List.mem_cons, List.not_mem_nil, or_false] at hq
    rcases hq with rfl | rfl | rfl
    · exact zv44
    · exact (show -2147483648 ≤ a1 ∧ a1 ≤ 2147483647 by omega)
    · exact (show -2147483648 ≤ a2 ∧ a2 ≤ 2147483647 by omega)) (fun _ h => absurd h List.not_mem_nil) hk
  obtain ⟨v, hr, hF, h⟩ := h
  rw [hF]
  exact h2 _ hr
theorem q185_1 {m : zM} {B : Int} (g0 : Nat) (a1 : Int) (hk : z_mok lL m) (hJ : JB B m) (hB : B + 28808 ≤ 1000000000) (hg0 : g0 < 3) (ha1 : 3600 ≤ a1 ∧ a1 ≤ 3600) : z_mok lL (f185_1 g0 a1 m).2 ∧ J (zQ [6, 7, 8, 9, 10, 11, 12, 13] [g0]) m (B + 28808) (f185_1 g0 a1 m).2 ∧ ((-1) ≤ (f185_1 g0 a1 m).1 ∧ (f185_1 g0 a1 m).1 ≤ 7199) := by
  obtain ⟨_, r, m1, _, h2, hk1, h⟩ := c185_1 (s := (0, fun _ => 0)) (S := zQ [6, 7, 8, 9, 10, 11, 12, 13] [g0]) (m0 := m) (B := B) (d := 18) (Q := fun r m' => ∃ v, f185_1 g0 a1 m = (v, m') ∧ J (zQ [6, 7, 8, 9, 10, 11, 12, 13] [g0]) m (B + 28808) m' ∧ ((-1) ≤ v ∧ v ≤ 7199)) g0 a1 (Nat.le_refl _) hJ.j hB ha1 (zQ_n rfl) (zQ_n rfl) (zQ_n rfl) (zQ_n rfl) (zQ_n rfl) (zQ_n rfl) (zQ_n rfl) (zQ_n rfl) (zQ_g (by simp)) (fun v m' hb hF hJ' => ⟨v, hF, hJ', hb⟩) (fun q hq => by
    simp only [List.mem_cons, List.not_mem_nil, or_false] at hq
    rcases hq with rfl | rfl
    · exact zv8 hg0
    · exact (show -2147483648 ≤ a1 ∧ a1 ≤ 2147483647 by omega)) (fun _ h => absurd h List.not_mem_nil) hk
  obtain ⟨v, hF, hJ1, h⟩ := h
  rw [hF]
  exact ⟨hk1, hJ1, h⟩
theorem q184_1 {m : zM} {B : Int} (hk : z_mok lL m) (hJ : JB B m) (hB : B + 28812 ≤ 1000000000) : z_mok lL (f184_1 m).2 ∧ J (zQ [1, 2, 3, 4, 5, 6, 7, 8, 9, 10, 11, 12, 13] [2]) m (B + 28812) (f184_1 m).2 ∧ ((-1) ≤ (f184_1 m).1 ∧ (f184_1 m).1 ≤ 7199) := by
  obtain ⟨_, r, m1, _, h2, hk1, h⟩ := c184_1 (s := (0, fun _ => 0)) (S := zQ [1, 2, 3, 4, 5, 6, 7, 8, 9, 10, 11, 12, 13] [2]) (m0 := m) (B := B) (d := 19) (Q := fun r m' => ∃ v, f184_1 m = (v, m') ∧ J (zQ [1, 2, 3, 4, 5, 6, 7, 8, 9, 10, 11, 12, 13] [2]) m (B + 28812) m' ∧ ((-1) ≤ v ∧ v ≤ 7199))  (Nat.le_refl _) hJ.j hB (zQ_n rfl) (zQ_n rfl) (zQ_n rfl) (zQ_n rfl) (zQ_n rfl) (zQ_n rfl) (zQ_n rfl) (zQ_n rfl) (zQ_n rfl) (zQ_n rfl) (zQ_n rfl) (zQ_n rfl) (zQ_n rfl) (zQ_g (by simp)) (fun v m' hb hF hJ' => ⟨v, hF, hJ', hb⟩) (fun q hq => by
    simp only [List.mem_cons, List.not_mem_nil, or_false] at hq
    subst hq
    · exact zv40) (fun _ h => absurd h List.not_mem_nil) hk
  obtain ⟨v, hF, hJ1, h⟩ := h
  rw [hF]
  exact ⟨hk1, hJ1, h⟩
theorem q309_1 {m : zM} {B : Int} (hk : z_mok lL m) (hJ : JB B m) (hB : B + 39611 ≤ 1000000000) : z_mok lL (f309_1 m).2 ∧ J (zQ [21, 22, 23, 24, 25, 26, 27, 28, 29, 30, 31, 32, 33, 38] [4]) m (B + 39611) (f309_1 m).2 ∧ ((-1) ≤ (f309_1 m).1 ∧ (f309_1 m).1 ≤ 3600) := by
  obtain ⟨_, r, m1, _, h2, hk1, h⟩ := c309_1 (s := (0, fun _ => 0)) (S := zQ [21, 22, 23, 24, 25, 26, 27, 28, 29, 30, 31, 32, 33, 38] [4]) (m0 := m) (B := B) (d := 20) (Q := fun r m' => ∃ v, f309_1 m = (v, m') ∧ J (zQ [21, 22, 23, 24, 25, 26, 27, 28, 29, 30, 31, 32, 33, 38] [4]) m (B + 39611) m' ∧ ((-1) ≤ v ∧ v ≤ 3600))  (Nat.le_refl _) hJ.j hB (zQ_n rfl) (zQ_n rfl) (zQ_n rfl) (zQ_n rfl) (zQ_n rfl) (zQ_n rfl) (zQ_n rfl) (zQ_n rfl) (zQ_n rfl) (zQ_n rfl) (zQ_n rfl) (zQ_n rfl) (zQ_n rfl) (zQ_n rfl) (zQ_g (by simp)) (fun v m' hb hF hJ' => ⟨v, hF, hJ', hb⟩) (fun q hq => by
    simp only [List.mem_cons, List.not_mem_nil, or_false] at hq
    subst hq
    · exact zv44) (fun _ h => absurd h List.not_mem_nil) hk
  obtain ⟨v, hF, hJ1, h⟩ := h
  rw [hF]
  exact ⟨hk1, hJ1, h⟩
theorem q186_1 {m : zM} {B : Int} (a1 : Int) (hk : z_mok lL m) (hJ : JB B m) (hB : B + 0 ≤ 1000000000) (ha1 : (-2147483648) ≤ a1 ∧ a1 ≤ 2147483647) : (-9223372036854775808 ≤ (f186_1 a1 m) ∧ (f186_1 a1 m) ≤ 9223372036854775807) := by
  obtain ⟨_, r, m1, _, h2, hk1, h⟩ := c186_1 (s := (0, fun _ => 0)) (S := zQ [] []) (m0 := m) (B := B) (d := 13) (Q := fun r m' => ∃ v, r = some (zl v) ∧ f186_1 a1 m = v ∧ (True)) a1 (Nat.le_refl _) hJ.j hB ha1 (fun v hb hF => ⟨v, rfl, hF, hb⟩) (fun q hq => by
    simp only [List.mem_cons, List.not_mem_nil, or_false] at hq
    rcases hq with rfl | rfl
    · exact zv40
    · exact (show -2147483648 ≤ a1 ∧ a1 ≤ 2147483647 by omega)) (fun _ h => absurd h List.not_mem_nil) hk
  obtain ⟨v, hr, hF, h⟩ := h
  rw [hF]
  exact h2 _ hr
theorem q310_1 {m : zM} {B : Int} (a1 : Int) (hk : z_mok lL m) (hJ : JB B m) (hB : B + 0 ≤ 1000000000) (ha1 : (-2147483648) ≤ a1 ∧ a1 ≤ 2147483647) : (-9223372036854775808 ≤ (f310_1 a1 m) ∧ (f310_1 a1 m) ≤ 9223372036854775807) := by
  obtain ⟨_, r, m1, _, h2, hk1, h⟩ := c310_1 (s := (0, fun _ => 0)) (S := zQ [] []) (m0 := m) (B := B) (d := 13) (Q := fun r m' => ∃ v, r = some (zl v) ∧ f310_1 a1 m = v ∧ (True)) a1 (Nat.le_refl _) hJ.j hB ha1 (fun v hb hF => ⟨v, rfl, hF, hb⟩) (fun q hq => by
    simp only [List.mem_cons, List.not_mem_nil, or_false] at hq
    rcases hq with rfl | rfl
    · exact zv44
    · exact (show -2147483648 ≤ a1 ∧ a1 ≤ 2147483647 by omega)) (fun _ h => absurd h List.not_mem_nil) hk
  obtain ⟨v, hr, hF, h⟩ := h
  rw [hF]
  exact h2 _ hr
theorem q188_1 {m : zM} {B : Int} (g0 : Nat) (a1 : Int) (hk : z_mok lL m) (hJ : JB B m) (hB : B + 0 ≤ 1000000000) (hg0 : g0 < 3) (ha1 : 1 ≤ a1 ∧ a1 ≤ 64) (hp0 : 1 ≤ a1) (hp1 : a1 ≤ m g0 27 2) (hp2 : a1 ≤ 64) : (0 ≤ (f188_1 g0 a1 m) ∧ (f188_1 g0 a1 m) ≤ 64) ∧ ((f188_1 g0 a1 m) + a1 ≤ m g0 27 2) ∧ (0 ≤ (f188_1 g0 a1 m)) ∧ ((f188_1 g0 a1 m) + a1 ≤ 64) := by
  obtain ⟨_, r, m1, _, h2, hk1, h⟩ := c188_1 (s := (0, fun _ => 0)) (S := zQ [] []) (m0 := m) (B := B) (d := 14) (Q := fun r m' => ∃ v, r = some (zi v) ∧ f188_1 g0 a1 m = v ∧ (0 ≤ v ∧ v ≤ 64) ∧ (v + a1 ≤ m g0 27 2) ∧ (0 ≤ v) ∧ (v + a1 ≤ 64)) g0 a1 (Nat.le_refl _) hJ.j hB ha1 hp0 hp1 hp2 (fun v hb hF p0 p1 p2 => ⟨v, rfl, hF, hb, p0, p1, p2⟩) (fun q hq => by
    simp only [List.mem_cons, List.not_mem_nil, or_false] at hq
    rcases hq with rfl | rfl
    · exact zv27 hg0
    · exact (show -2147483648 ≤ a1 ∧ a1 ≤ 2147483647 by omega)) (fun _ h => absurd h List.not_mem_nil) hk
  obtain ⟨v, hr, hF, h⟩ := h
  rw [hF]
  exact h
theorem q187_1 {m : zM} {B : Int} (a1 a2 : Int) (hk : z_mok lL m) (hJ : JB B m) (hB : B + 0 ≤ 1000000000) (ha1 : (-2147483648) ≤ a1 ∧ a1 ≤ 2147483647) (ha2 : (-2147483648) ≤ a2 ∧ a2 ≤ 2147483647) : (-9223372036854775808 ≤ (f187_1 a1 a2 m) ∧ (f187_1 a1 a2 m) ≤ 9223372036854775807) := by
  obtain ⟨_, r, m1, _, h2, hk1, h⟩ := c187_1 (s := (0, fun _ => 0)) (S := zQ [] []) (m0 := m) (B := B) (d := 15) (Q := fun r m' => ∃ v, r = some (zl v) ∧ f187_1 a1 a2 m = v ∧ (True)) a1 a2 (Nat.le_refl _) hJ.j hB ha1 ha2 (fun v hb hF => ⟨v, rfl, hF, hb⟩) (fun q hq => by
    simp only [List.mem_cons, List.not_mem_nil, or_false] at hq
    rcases hq with rfl | rfl | rfl
    · exact zv40
    · exact (show -2147483648 ≤ a1 ∧ a1 ≤ 2147483647 by omega)
    · exact (show -2147483648 ≤ a2 ∧ a2 ≤ 2147483647 by omega)) (fun _ h => absurd h List.not_mem_nil) hk
  obtain ⟨v, hr, hF, h⟩ := h
  rw [hF]
  exact h2 _ hr
theorem q311_1 {m : zM} {B : Int} (a1 a2 : Int) (hk : z_mok lL m) (hJ : JB B m) (hB : B + 0 ≤ 1000000000) (ha1 : (-2147483648) ≤ a1 ∧ a1 ≤ 2147483647) (ha2 : (-2147483648) ≤ a2 ∧ a2 ≤ 2147483647) : (-9223372036854775808 ≤ (f311_1 a1 a2 m) ∧ (f311_1 a1 a2 m) ≤ 9223372036854775807) := by
  obtain ⟨_, r, m1, _, h2, hk1, h⟩ := c311_1 (s := (0, fun _ => 0)) (S := zQ [] []) (m0 := m) (B := B) (d := 14) (Q := fun r m' => ∃ v, r = some (zl v) ∧ f311_1 a1 a2 m = v ∧ (True)) a1 a2 (Nat.le_refl _) hJ.j hB ha1 ha2 (fun v hb hF => ⟨v, rfl, hF, hb⟩) (fun q hq => by
    simp only [List.mem_cons, List.not_mem_nil, or_false] at hq
    rcases hq with rfl | rfl | rfl
    · exact zv44
    · exact (show -2147483648 ≤ a1 ∧ a1 ≤ 2147483647 by omega)
    · exact (show -2147483648 ≤ a2 ∧ a2 ≤ 2147483647 by omega)) (fun _ h => absurd h List.not_mem_nil) hk
  obtain ⟨v, hr, hF, h⟩ := h
  rw [hF]
  exact h2 _ hr
theorem q189_1 {m : zM} {B : Int} (a1 a2 : Int) (hk : z_mok lL m) (hJ : JB B m) (hB : B + 0 ≤ 1000000000) (ha1 : (-2147483648) ≤ a1 ∧ a1 ≤ 2147483647) (ha2 : (-2147483648) ≤ a2 ∧ a2 ≤ 2147483647) : (-9223372036854775808 ≤ (f189_1 a1 a2 m) ∧ (f189_1 a1 a2 m) ≤ 9223372036854775807) := by
  obtain ⟨_, r, m1, _, h2, hk1, h⟩ := c189_1 (s := (0, fun _ => 0)) (S := zQ [] []) (m0 := m) (B := B) (d := 14) (Q := fun r m' => ∃ v, r = some (zl v) ∧ f189_1 a1 a2 m = v ∧ (True)) a1 a2 (Nat.le_refl _) hJ.j hB ha1 ha2 (fun v hb hF => ⟨v, rfl, hF, hb⟩) (fun q hq => by
    simp only [List.mem_cons, List.not_mem_nil, or_false] at hq
    rcases hq with rfl | rfl | rfl
    · exact zv40
    · exact (show -2147483648 ≤ a1 ∧ a1 ≤ 2147483647 by omega)
    · exact (show -2147483648 ≤ a2 ∧ a2 ≤ 2147483647 by omega)) (fun _ h => absurd h List.not_mem_nil) hk
  obtain ⟨v, hr, hF, h⟩ := h
  rw [hF]
  exact h2 _ hr
theorem q312_1 {m : zM} {B : Int} (a1 a2 : Int) (hk : z_mok lL m) (hJ : JB B m) (hB : B + 0 ≤ 1000000000) (ha1 : (-2147483648) ≤ a1 ∧ a1 ≤ 2147483647) (ha2 : (-2147483648) ≤ a2 ∧ a2 ≤ 2147483647) : (-9223372036854775808 ≤ (f312_1 a1 a2 m) ∧ (f312_1 a1 a2 m) ≤ 9223372036854775807) := by
  obtain ⟨_, r, m1, _, h2, hk1, h⟩ := c312_1 (s := (0, fun _ => 0)) (S := zQ [] []) (m0 := m) (B := B) (d := 14) (Q := fun r m' => ∃ v, r = some (zl v) ∧ f312_1 a1 a2 m = v ∧ (True)) a1 a2 (Nat.le_refl _) hJ.j hB ha1 ha2 (fun v hb hF => ⟨v, rfl, hF, hb⟩) (fun q hq => by
    simp only [List.mem_cons, List.not_mem_nil, or_false] at hq
    rcases hq with rfl | rfl | rfl
    · exact zv44
    · exact (show -2147483648 ≤ a1 ∧ a1 ≤ 2147483647 by omega)
    · exact (show -2147483648 ≤ a2 ∧ a2 ≤ 2147483647 by omega)) (fun _ h => absurd h List.not_mem_nil) hk
  obtain ⟨v, hr, hF, h⟩ := h
  rw [hF]
  exact h2 _ hr
theorem q190_1 {m : zM} {B : Int} (a1 a2 : Int) (hk : z_mok lL m) (hJ : JB B m) (hB : B + 0 ≤ 1000000000) (ha1 : (-2147483648) ≤ a1 ∧ a1 ≤ 2147483647) (ha2 : (-2147483648) ≤ a2 ∧ a2 ≤ 2147483647) : ((-2147483648) ≤ (f190_1 a1 a2 m) ∧ (f190_1 a1 a2 m) ≤ 2147483647) := by
  obtain ⟨_, r, m1, _, h2, hk1, h⟩ := c190_1 (s := (0, fun _ => 0)) (S := zQ [] []) (m0 := m) (B := B) (d := 14) (Q := fun r m' => ∃ v, r = some (zi v) ∧ f190_1 a1 a2 m = v ∧ ((-2147483648) ≤ v ∧ v ≤ 2147483647)) a1 a2 (Nat.le_refl _) hJ.j hB ha1 ha2 (fun v hb hF => ⟨v, rfl, hF, hb⟩) (fun q hq => by
    simp only [List.mem_cons, List.not_mem_nil, or_false] at hq
    rcases hq with rfl | rfl | rfl
    · exact zv40
    · exact (show -2147483648 ≤ a1 ∧ a1 ≤ 2147483647 by omega)
    · exact (show -2147483648 ≤ a2 ∧ a2 ≤ 2147483647 by omega)) (fun _ h => absurd h List.not_mem_nil) hk
  obtain ⟨v, hr, hF, h⟩ := h
  rw [hF]
  exact h
theorem q313_1 {m : zM} {B : Int} (a1 a2 : Int) (hk : z_mok lL m) (hJ : JB B m) (hB : B + 0 ≤ 1000000000) (ha1 : (-2147483648) ≤ a1 ∧ a1 ≤ 2147483647) (ha2 : (-2147483648) ≤ a2 ∧ a2 ≤ 2147483647) : ((-2147483648) ≤ (f313_1 a1 a2 m) ∧ (f313_1 a1 a2 m) ≤ 2147483647) := by
  obtain ⟨_, r, m1, _, h2, hk1, h⟩ := c313_1 (s := (0, fun _ => 0)) (S := zQ [] []) (m0 := m) (B := B) (d := 13) (Q := fun r m' => ∃ v, r = some (zi v) ∧ f313_1 a1 a2 m = v ∧ ((-2147483648) ≤ v ∧ v ≤ 2147483647)) a1 a2 (Nat.le_refl _) hJ.j hB ha1 ha2 (fun v hb hF => ⟨v, rfl, hF, hb⟩) (fun q hq => by
    simp only [List.mem_cons, List.not_mem_nil, or_false] at hq
    rcases hq with rfl | rfl | rfl
    · exact zv44
    · exact (show -2147483648 ≤ a1 ∧ a1 ≤ 2147483647 by omega)
    · exact (show -2147483648 ≤ a2 ∧ a2 ≤ 2147483647 by omega)) (fun _ h => absurd h List.not_mem_nil) hk
  obtain ⟨v, hr, hF, h⟩ := h
  rw [hF]
  exact h
theorem q194_1 {m : zM} {B : Int} (g0 : Nat) (a1 a2 : Int) (hk : z_mok lL m) (hJ : JB B m) (hB : B + 0 ≤ 1000000000) (hg0 : g0 < 4) (ha1 : 0 ≤ a1 ∧ a1 ≤ 7) (ha2 : 0 ≤ a2 ∧ a2 ≤ 3) : ((-2147483648) ≤ (f194_1 g0 a1 a2 m) ∧ (f194_1 g0 a1 a2 m) ≤ 2147483647) := by
  obtain ⟨_, r, m1, _, h2, hk1, h⟩ := c194_1 (s := (0, fun _ => 0)) (S := zQ [] []) (m0 := m) (B := B) (d := 13) (Q := fun r m' => ∃ v, r = some (zi v) ∧ f194_1 g0 a1 a2 m = v ∧ ((-2147483648) ≤ v ∧ v ≤ 2147483647)) g0 a1 a2 (Nat.le_refl _) hJ.j hB ha1 ha2 (fun v hb hF => ⟨v, rfl, hF, hb⟩) (fun q hq => by
    simp only [List.mem_cons, List.not_mem_nil, or_false] at hq
    rcases hq with rfl | rfl | rfl
    · exact zv11 hg0
    · exact (show -2147483648 ≤ a1 ∧ a1 ≤ 2147483647 by omega)
    · exact (show -2147483648 ≤ a2 ∧ a2 ≤ 2147483647 by omega)) (fun _ h => absurd h List.not_mem_nil) hk
  obtain ⟨v, hr, hF, h⟩ := h
  rw [hF]
  exact h
theorem q193_1 {m : zM} {B : Int} (a1 a2 : Int) (hk : z_mok lL m) (hJ : JB B m) (hB : B + 0 ≤ 1000000000) (ha1 : (-2147483648) ≤ a1 ∧ a1 ≤ 2147483647) (ha2 : (-2147483648) ≤ a2 ∧ a2 ≤ 2147483647) : ((-2147483648) ≤ (f193_1 a1 a2 m) ∧ (f193_1 a1 a2 m) ≤ 2147483647) := by
  obtain ⟨_, r, m1, _, h2, hk1, h⟩ := c193_1 (s := (0, fun _ => 0)) (S := zQ [] []) (m0 := m) (B := B) (d := 15) (Q := fun r m' => ∃ v, r = some (zi v) ∧ f193_1 a1 a2 m = v ∧ ((-2147483648) ≤ v ∧ v ≤ 2147483647)) a1 a2 (Nat.le_refl _) hJ.j hB ha1 ha2 (fun v hb hF => ⟨v, rfl, hF, hb⟩) (fun q hq => by
    simp only [List.mem_cons, List.not_mem_nil, or_false] at hq
    rcases hq with rfl | rfl | rfl
    · exact zv40
    · exact (show -2147483648 ≤ a1 ∧ a1 ≤ 2147483647 by omega)
    · exact (show -2147483648 ≤ a2 ∧ a2 ≤ 2147483647 by omega)) (fun _ h => absurd h List.not_mem_nil) hk
  obtain ⟨v, hr, hF, h⟩ := h
  rw [hF]
  exact h
theorem q253_1 {m : zM} {B : Int} (a1 a2 : Int) (hk : z_mok lL m) (hJ : JB B m) (hB : B + 0 ≤ 1000000000) (ha1 : (-2147483648) ≤ a1 ∧ a1 ≤ 2147483647) (ha2 : (-2147483648) ≤ a2 ∧ a2 ≤ 2147483647) : ((-2147483648) ≤ (f253_1 a1 a2 m) ∧ (f253_1 a1 a2 m) ≤ 2147483647) := by
  obtain ⟨_, r, m1, _, h2, hk1, h⟩ := c253_1 (s := (0, fun _ => 0)) (S := zQ [] []) (m0 := m) (B := B) (d := 15) (Q := fun r m' => ∃ v, r = some (zi v) ∧ f253_1 a1 a2 m = v ∧ ((-2147483648) ≤ v ∧ v ≤ 2147483647)) a1 a2 (Nat.le_refl _) hJ.j hB ha1 ha2 (fun v hb hF => ⟨v, rfl, hF, hb⟩) (fun q hq => by
    simp only [List.mem_cons, List.not_mem_nil, or_false] at hq
    rcases hq with rfl | rfl | rfl
    · exact zv44
    · exact (show -2147483648 ≤ a1 ∧ a1 ≤ 2147483647 by omega)
    · exact (show -2147483648 ≤ a2 ∧ a2 ≤ 2147483647 by omega)) (fun _ h => absurd h List.not_mem_nil) hk
  obtain ⟨v, hr, hF, h⟩ := h
  rw [hF]
  exact h
theorem q195_1 {m : zM} {B : Int} (a1 : Int) (hk : z_mok lL m) (hJ : JB B m) (hB : B + 4 ≤ 1000000000) (ha1 : 0 ≤ a1 ∧ a1 ≤ 1) : z_mok lL (f195_1 a1 m).2 ∧ J (zQ [1, 2, 3, 4, 5, 6, 7, 8, 9, 10, 11, 12, 13, 14] [0, 1, 4]) m (B + 4) (f195_1 a1 m).2 ∧ (0 ≤ (f195_1 a1 m).1 ∧ (f195_1 a1 m).1 ≤ 1) := by
  obtain ⟨_, r, m1, _, h2, hk1, h⟩ := c195_1 (s := (0, fun _ => 0)) (S := zQ [1, 2, 3, 4, 5, 6, 7, 8, 9, 10, 11, 12, 13, 14] [0, 1, 4]) (m0 := m) (B := B) (d := 15) (Q := fun r m' => ∃ v, f195_1 a1 m = (v, m') ∧ J (zQ [1, 2, 3, 4, 5, 6, 7, 8, 9, 10, 11, 12, 13, 14] [0, 1, 4]) m (B + 4) m' ∧ (0 ≤ v ∧ v ≤ 1)) a1 (Nat.le_refl _) hJ.j hB ha1 (zQ_n rfl) (zQ_n rfl) (zQ_n rfl) (zQ_n rfl) (zQ_n rfl) (zQ_n rfl) (zQ_n rfl) (zQ_n rfl) (zQ_n rfl) (zQ_n rfl) (zQ_n rfl) (zQ_n rfl) (zQ_n rfl) (zQ_n rfl) (zQ_g (by simp)) (zQ_g (by simp)) (zQ_g (by simp)) (fun v m' hb hF hJ' => ⟨v, hF, hJ', hb⟩) (fun q hq => by
    simp only [List.mem_cons, List.not_mem_nil, or_false] at hq
    rcases hq with rfl | rfl
    · exact zv40
    · exact (show -2147483648 ≤ a1 ∧ a1 ≤ 2147483647 by omega)) (fun _ h => absurd h List.not_mem_nil) hk
  obtain ⟨v, hF, hJ1, h⟩ := h
  rw [hF]
  exact ⟨hk1, hJ1, h⟩
theorem q314_1 {m : zM} {B : Int} (a1 : Int) (hk : z_mok lL m) (hJ : JB B m) (hB : B + 0 ≤ 1000000000) (ha1 : 0 ≤ a1 ∧ a1 ≤ 1) : z_mok lL (f314_1 a1 m).2 ∧ J (zQ [21, 22, 23, 24, 25, 26, 27, 28, 29, 30, 31, 32, 33, 34, 37] [4]) m (B) (f314_1 a1 m).2 ∧ (0 ≤ (f314_1 a1 m).1 ∧ (f314_1 a1 m).1 ≤ 1) := by
  obtain ⟨_, r, m1, _, h2, hk1, h⟩ := c314_1 (s := (0, fun _ => 0)) (S := zQ [21, 22, 23, 24, 25, 26, 27, 28, 29, 30, 31, 32, 33, 34, 37] [4]) (m0 := m) (B := B) (d := 14) (Q := fun r m' => ∃ v, f314_1 a1 m = (v, m') ∧ J (zQ [21, 22, 23, 24, 25, 26, 27, 28, 29, 30, 31, 32, 33, 34, 37] [4]) m (B) m' ∧ (0 ≤ v ∧ v ≤ 1)) a1 (Nat.le_refl _) hJ.j hB ha1 (zQ_n rfl) (zQ_n rfl) (zQ_n rfl) (zQ_n rfl) (zQ_n rfl) (zQ_n rfl) (zQ_n rfl) (zQ_n rfl) (zQ_n rfl) (zQ_n rfl) (zQ_n rfl) (zQ_n rfl) (zQ_n rfl) (zQ_n rfl) (zQ_n rfl) (zQ_g (by simp)) (fun v m' hb hF hJ' => ⟨v, hF, hJ', hb⟩) (fun q hq => by
    simp only [List.mem_cons, List.not_mem_nil, or_false] at hq
    rcases hq with rfl | rfl
    · exact zv44
    · exact (show -2147483648 ≤ a1 ∧ a1 ≤ 2147483647 by omega)) (fun _ h => absurd h List.not_mem_nil) hk
  obtain ⟨v, hF, hJ1, h⟩ := h
  rw [hF]
  exact ⟨hk1, hJ1, h⟩
theorem q200_1 {m : zM} {B : Int} (a0 : Int) (hk : z_mok lL m) (hJ : JB B m) (hB : B + 0 ≤ 1000000000) (ha0 : (-2147483648) ≤ a0 ∧ a0 ≤ 2147483647) : ((-1) ≤ (f200_1 a0 m) ∧ (f200_1 a0 m) ≤ 22) := by
  obtain ⟨_, r, m1, _, h2, hk1, h⟩ := c200_1 (s := (0, fun _ => 0)) (S := zQ [] []) (m0 := m) (B := B) (d := 13) (Q := fun r m' => ∃ v, r = some (zi v) ∧ f200_1 a0 m = v ∧ ((-1) ≤ v ∧ v ≤ 22)) a0 (Nat.le_refl _) hJ.j hB ha0 (fun v hb hF => ⟨v, rfl, hF, hb⟩) (fun q hq => by
    simp only [List.mem_cons, List.not_mem_nil, or_false] at hq
    subst hq
    · exact (show -2147483648 ≤ a0 ∧ a0 ≤ 2147483647 by omega)) (fun _ h => absurd h List.not_mem_nil) hk
  obtain ⟨v, hr, hF, h⟩ := h
  rw [hF]
  exact h
theorem q199_1 {m : zM} {B : Int} (a1 : Int) (hk : z_mok lL m) (hJ : JB B m) (hB : B + 0 ≤ 1000000000) (ha1 : 53 ≤ a1 ∧ a1 ≤ 2147483647) : ((-10000000000) ≤ (f199_1 a1 m) ∧ (f199_1 a1 m) ≤ 2147483647) := by
  obtain ⟨_, r, m1, _, h2, hk1, h⟩ := c199_1 (s := (0, fun _ => 0)) (S := zQ [] []) (m0 := m) (B := B) (d := 14) (Q := fun r m' => ∃ v, r = some (zl v) ∧ f199_1 a1 m = v ∧ ((-10000000000) ≤ v ∧ v ≤ 2147483647)) a1 (Nat.le_refl _) hJ.j hB ha1 (fun v hb hF => ⟨v, rfl, hF, hb⟩) (fun q hq => by
    simp only [List.mem_cons, List.not_mem_nil, or_false] at hq
    rcases hq with rfl | rfl
    · exact zv40
    · exact (show -2147483648 ≤ a1 ∧ a1 ≤ 2147483647 by omega)) (fun _ h => absurd h List.not_mem_nil) hk
  obtain ⟨v, hr, hF, h⟩ := h
  rw [hF]
  exact h
theorem q198_1 {m : zM} {B : Int} (a1 : Int) (hk : z_mok lL m) (hJ : JB B m) (hB : B + 0 ≤ 1000000000) (ha1 : 8 ≤ a1 ∧ a1 ≤ 15) : ((-2147483648) ≤ (f198_1 a1 m) ∧ (f198_1 a1 m) ≤ 2147483647) := by
  obtain ⟨_, r, m1, _, h2, hk1, h⟩ := c198_1 (s := (0, fun _ => 0)) (S := zQ [] []) (m0 := m) (B := B) (d := 13) (Q := fun r m' => ∃ v, r = some (zl v) ∧ f198_1 a1 m = v ∧ ((-2147483648) ≤ v ∧ v ≤ 2147483647)) a1 (Nat.le_refl _) hJ.j hB ha1 (fun v hb hF => ⟨v, rfl, hF, hb⟩) (fun q hq => by
    simp only [List.mem_cons, List.not_mem_nil, or_false] at hq
    rcases hq with rfl | rfl
    · exact zv40
    · exact (show -2147483648 ≤ a1 ∧ a1 ≤ 2147483647 by omega)) (fun _ h => absurd h List.not_mem_nil) hk
  obtain ⟨v, hr, hF, h⟩ := h
  rw [hF]
  exact h
theorem q197_1 {m : zM} {B : Int} (a1 : Int) (hk : z_mok lL m) (hJ : JB B m) (hB : B + 0 ≤ 1000000000) (ha1 : 0 ≤ a1 ∧ a1 ≤ 7) : (-9223372036854775808 ≤ (f197_1 a1 m) ∧ (f197_1 a1 m) ≤ 9223372036854775807) := by
  obtain ⟨_, r, m1, _, h2, hk1, h⟩ := c197_1 (s := (0, fun _ => 0)) (S := zQ [] []) (m0 := m) (B := B) (d := 16) (Q := fun r m' => ∃ v, r = some (zl v) ∧ f197_1 a1 m = v ∧ (True)) a1 (Nat.le_refl _) hJ.j hB ha1 (fun v hb hF => ⟨v, rfl, hF, hb⟩) (fun q hq => by
    simp only [List.mem_cons, List.not_mem_nil, or_false] at hq
    rcases hq with rfl | rfl
    · exact zv40
    · exact (show -2147483648 ≤ a1 ∧ a1 ≤ 2147483647 by omega)) (fun _ h => absurd h List.not_mem_nil) hk
  obtain ⟨v, hr, hF, h⟩ := h
  rw [hF]
  exact h2 _ hr
theorem q196_1 {m : zM} {B : Int} (a1 : Int) (hk : z_mok lL m) (hJ : JB B m) (hB : B + 0 ≤ 1000000000) (ha1 : (-2147483648) ≤ a1 ∧ a1 ≤ 2147483647) : (-9223372036854775808 ≤ (f196_1 a1 m) ∧ (f196_1 a1 m) ≤ 9223372036854775807) := by
  obtain ⟨_, r, m1, _, h2, hk1, h⟩ := c196_1 (s := (0, fun _ => 0)) (S := zQ [] []) (m0 := m) (B := B) (d := 17) (Q := fun r m' => ∃ v, r = some (zl v) ∧ f196_1 a1 m = v ∧ (True)) a1 (Nat.le_refl _) hJ.j hB ha1 (fun v hb hF => ⟨v, rfl, hF, hb⟩) (fun q hq => by
    simp only [List.mem_cons, List.not_mem_nil, or_false] at hq
    rcases hq with rfl | rfl
    · exact zv40
    · exact (show -2147483648 ≤ a1 ∧ a1 ≤ 2147483647 by omega)) (fun _ h => absurd h List.not_mem_nil) hk
  obtain ⟨v, hr, hF, h⟩ := h
  rw [hF]
  exact h2 _ hr
theorem q315_1 {m : zM} {B : Int} (a1 : Int) (hk : z_mok lL m) (hJ : JB B m) (hB : B + 0 ≤ 1000000000) (ha1 : (-2147483648) ≤ a1 ∧ a1 ≤ 2147483647) : (-9223372036854775808 ≤ (f315_1 a1 m) ∧ (f315_1 a1 m) ≤ 9223372036854775807) := by
  obtain ⟨_, r, m1, _, h2, hk1, h⟩ := c315_1 (s := (0, fun _ => 0)) (S := zQ [] []) (m0 := m) (B := B) (d := 16) (Q := fun r m' => ∃ v, r = some (zl v) ∧ f315_1 a1 m = v ∧ (True)) a1 (Nat.le_refl _) hJ.j hB ha1 (fun v hb hF => ⟨v, rfl, hF, hb⟩) (fun q hq => by
    simp only [List.mem_cons, List.not_mem_nil, or_false] at hq
    rcases hq with rfl | rfl
    · exact zv44
    · exact (show -2147483648 ≤ a1 ∧ a1 ≤ 2147483647 by omega)) (fun _ h => absurd h List.not_mem_nil) hk
  obtain ⟨v, hr, hF, h⟩ := h
  rw [hF]
  exact h2 _ hr
