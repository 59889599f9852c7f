section
/-! The calendar on both sides: what the two functions find in it. -/
theorem JB.o {B : Int} {m : zM} (h : JB B m) : J (zQ [] []) m B m := h.j
/-- how many special days there are among the first n -/
def spN (w : Int → Int) : Nat → Int
  | 0 => 0
  | n + 1 => spN w n + if w (423 + (n : Int)) = -1 then 0 else 1
/-- tables, seasons, special days of the class against the reference's row w -/
def CT (a12 a13 a14 w : Int → Int) : Prop :=
  (∀ t : Int, 0 ≤ t → t < 8 → a12 t = w (287 + t)) ∧
  (∀ t k : Int, 0 ≤ t → t < 8 → 0 ≤ k → k < a12 t → a13 (t * 6 + k) = w (295 + 6 * t + k) ∧ a14 (t * 6 + k) = w (343 + 6 * t + k)) ∧
  (∀ t k : Int, 0 ≤ t → t < 8 → 0 ≤ k → k + 1 < a12 t → a13 (t * 6 + k) < a13 (t * 6 + k + 1))
def CS (a15 a16 w : Int → Int) : Prop :=
  (∀ s : Int, 0 ≤ s → s < 4 → a15 s = w (391 + s)) ∧ (∀ d : Int, 0 ≤ d → d < 28 → a16 d = w (395 + d))
def CP (n : Int) (a17 a18 w : Int → Int) : Prop :=
  (∀ k : Int, 0 ≤ k → k < n → w (423 + a17 k) = a18 k) ∧
  (∀ j k : Int, 0 ≤ j → j < k → k < n → a17 j ≠ a17 k) ∧
  (∀ d : Int, 0 ≤ d → d < 365 → w (423 + d) ≠ -1 → ∃ k, 0 ≤ k ∧ k < n ∧ a17 k = d) ∧
  spN w 365 = n
def CR (c : Nat → Int → Int) (w : Int → Int) : Prop := CT (c 12) (c 13) (c 14) w ∧ CS (c 15) (c 16) w ∧ CP (c 11 7) (c 17) (c 18) w
/-- numbers of the class' calendar within their bounds -/
def CB (c : Nat → Int → Int) : Prop :=
  (∀ t : Int, 0 ≤ t → t < 8 → 0 ≤ c 12 t ∧ c 12 t ≤ 6) ∧ (0 ≤ c 11 7 ∧ c 11 7 ≤ 16) ∧
  (∀ k : Int, 0 ≤ k → k < 16 → 0 ≤ c 17 k ∧ c 17 k ≤ 364) ∧ (∀ k : Int, 0 ≤ k → k < 16 → 0 ≤ c 18 k ∧ c 18 k ≤ 7) ∧
  (∀ i : Int, 0 ≤ i → i < 48 → 0 ≤ c 13 i ∧ c 13 i ≤ 86399) ∧ (∀ i : Int, 0 ≤ i → i < 48 → 0 ≤ c 14 i ∧ c 14 i ≤ 3) ∧
  (∀ s : Int, 0 ≤ s → s < 4 → -1 ≤ c 15 s ∧ c 15 s ≤ 364) ∧ (∀ d : Int, 0 ≤ d → d < 28 → 0 ≤ c 16 d ∧ c 16 d ≤ 7)
theorem CB.of {B : Int} {m : zM} (h : JB B m) (g : Nat) : CB (m g) :=
  ⟨fun t h0 h1 => r12_0 h.o g (i := t) ⟨h0, by omega⟩, r11_7 h.o g, fun k h0 h1 => r17_0 h.o g (i := k) ⟨h0, by omega⟩, fun k h0 h1 => r18_0 h.o g (i := k) ⟨h0, by omega⟩,
   fun i h0 h1 => r13_0 h.o g (i := i) ⟨h0, by omega⟩, fun i h0 h1 => r14_0 h.o g (i := i) ⟨h0, by omega⟩, fun s h0 h1 => r15_0 h.o g (i := s) ⟨h0, by omega⟩, fun d h0 h1 => r16_0 h.o g (i := d) ⟨h0, by omega⟩⟩
theorem spN_congr {w w' : Int → Int} : ∀ n : Nat, (∀ d : Int, 0 ≤ d → d < n → w' (423 + d) = w (423 + d)) → spN w' n = spN w n
  | 0, _ => rfl
  | n + 1, h => by
    unfold spN
    rw [spN_congr n (fun d h0 h1 => h d h0 (by omega)), h n (by omega) (by omega)]
theorem CT.w {a12 a13 a14 w w' : Int → Int} (h : CT a12 a13 a14 w) (hb : ∀ t : Int, 0 ≤ t → t < 8 → a12 t ≤ 6) (hw : ∀ i : Int, 287 ≤ i → i ≤ 390 → w' i = w i) : CT a12 a13 a14 w' :=
  ⟨fun t h0 h1 => by rw [hw _ (by omega) (by omega)]; exact h.1 t h0 h1, fun t k h0 h1 h2 h3 => by
    have := hb t h0 h1
    rw [hw _ (by omega) (by omega), hw _ (by omega) (by omega)]
    exact h.2.1 t k h0 h1 h2 h3, h.2.2⟩
theorem CS.w {a15 a16 w w' : Int → Int} (h : CS a15 a16 w) (hw : ∀ i : Int, 391 ≤ i → i ≤ 422 → w' i = w i) : CS a15 a16 w' :=
  ⟨fun s h0 h1 => by rw [hw _ (by omega) (by omega)]; exact h.1 s h0 h1, fun d h0 h1 => by rw [hw _ (by omega) (by omega)]; exact h.2 d h0 h1⟩
theorem CP.w {n : Int} {a17 a18 w w' : Int → Int} (h : CP n a17 a18 w) (hb : ∀ k : Int, 0 ≤ k → k < n → 0 ≤ a17 k ∧ a17 k ≤ 364) (hw : ∀ i : Int, 423 ≤ i → i ≤ 787 → w' i = w i) : CP n a17 a18 w' :=
  ⟨fun k h0 h1 => by
    have := hb k h0 h1
    rw [hw _ (by omega) (by omega)]
    exact h.1 k h0 h1, h.2.1, fun d h0 h1 h2 => h.2.2.1 d h0 h1 (by rwa [hw _ (by omega) (by omega)] at h2), by rw [← h.2.2.2]; exact spN_congr 365 (fun d h0 h1 => hw _ (by omega) (by omega))⟩
theorem CB.n6 {c : Nat → Int → Int} (h : CB c) : ∀ t : Int, 0 ≤ t → t < 8 → c 12 t ≤ 6 := fun t h0 h1 => (h.1 t h0 h1).2
theorem CB.d {c : Nat → Int → Int} (h : CB c) : ∀ k : Int, 0 ≤ k → k < c 11 7 → 0 ≤ c 17 k ∧ c 17 k ≤ 364 := fun k h0 h1 => h.2.2.1 k h0 (by have := h.2.1; omega)
theorem CR.w {c : Nat → Int → Int} {w w' : Int → Int} (h : CR c w) (hb : CB c) (hw : ∀ i : Int, 287 ≤ i → i ≤ 787 → w' i = w i) : CR c w' :=
  ⟨h.1.w hb.n6 (fun i h0 h1 => hw i h0 (by omega)), h.2.1.w (fun i h0 h1 => hw i (by omega) (by omega)), h.2.2.w hb.d (fun i h0 h1 => hw i (by omega) h1)⟩
theorem CR.c {c c' : Nat → Int → Int} {w : Int → Int} (h : CR c w) (h11 : c' 11 7 = c 11 7) (h12 : c' 12 = c 12) (h13 : c' 13 = c 13) (h14 : c' 14 = c 14) (h15 : c' 15 = c 15) (h16 : c' 16 = c 16) (h17 : c' 17 = c 17) (h18 : c' 18 = c 18) : CR c' w := by
  unfold CR
  rw [h11, h12, h13, h14, h15, h16, h17, h18]
  exact h
/-! switchesBefore -/
theorem sb_loop {m : zM} {g : Nat} {y1 y2 y3 : Int} : ∀ (n : Nat) (y4 : Int), 0 ≤ y4 → y4 ≤ m g 12 y1 → m g 12 y1 - y4 < n → (∀ k, 0 ≤ k → k < y4 → m g 13 (y3 + k) < y2) →
    ∃ v, fl32_8_1 (fun y => y) g y1 y2 y3 m n y4 = v ∧ 0 ≤ v ∧ v ≤ m g 12 y1 ∧ (∀ k, 0 ≤ k → k < v → m g 13 (y3 + k) < y2) ∧ (v < m g 12 y1 → y2 ≤ m g 13 (y3 + v)) := by
  intro n
  induction n with
  | zero =>
    intro y4 h0 h1 h2
    omega
  | succ n ih =>
    intro y4 h0 h1 h2 h3
    show ∃ v, fl32_8_1_b (fl32_8_1 (fun y => y) g y1 y2 y3 m n) (fun y => y) g y1 y2 y3 m y4 = v ∧ _
    unfold fl32_8_1_b
    split
    · exact ⟨y4, rfl, h0, by omega, h3, by omega⟩
    · split
      · rename_i h5
        exact ⟨y4, rfl, h0, h1, h3, fun _ => h5⟩
      · refine ih (y4 + 1) (by omega) (by omega) (by omega) (fun k hk hk2 => ?_)
        by_cases e : k = y4
        · subst e
          omega
        · exact h3 k hk (by omega)
theorem sb_spec (m : zM) (g : Nat) (t s : Int) (h : 0 ≤ m g 12 t ∧ m g 12 t ≤ 6) : ∃ v, f32_1 g t s m = v ∧ 0 ≤ v ∧ v ≤ m g 12 t ∧ (∀ k, 0 ≤ k → k < v → m g 13 (t * 6 + k) < s) ∧ (v < m g 12 t → s ≤ m g 13 (t * 6 + v)) :=
  sb_loop (zfu 7) 0 (by omega) (by omega) (by rw [zfu_eq]; omega) (fun k _ _ => by omega)
/-- later switches have later seconds -/
theorem CR.mono {c : Nat → Int → Int} {w : Int → Int} (h : CR c w) {t : Int} (h0 : 0 ≤ t) (h1 : t < 8) : ∀ (n : Nat) (j k : Int), 0 ≤ j → k = j + n → k < c 12 t → c 13 (t * 6 + j) ≤ c 13 (t * 6 + k)
  | 0, j, k, _, e, _ => by
    rw [show k = j by omega]
    exact Int.le_refl _
  | n + 1, j, k, hj, e, hk => by
    have e1 := CR.mono h h0 h1 n j (k - 1) hj (by omega) (by omega)
    have e2 := h.1.2.2 t (k - 1) h0 h1 (by omega) (by omega)
    rw [show t * 6 + (k - 1) + 1 = t * 6 + k by omega] at e2
    omega
/-! the TARIFF -/
theorem ta_loop {m n' : zM} {g : Nat} {y1 t s v : Int} (h : CR (m g) (n' 4 45)) (h0 : 0 ≤ t) (h1 : t < 8) (hs : y1.tmod 86400 = s) (v0 : 0 ≤ v) (v1 : v ≤ m g 12 t) (v2 : ∀ k, 0 ≤ k → k < v → m g 13 (t * 6 + k) < s + 1) (v3 : v < m g 12 t → s + 1 ≤ m g 13 (t * 6 + v)) :
    ∀ (n : Nat) (y3 y4 : Int), 0 ≤ y4 → y4 ≤ m g 12 t → m g 12 t - y4 < n → (y4 = 0 ∨ v = 0 → y3 = 0) → (0 < y4 → y4 ≤ v → y3 = m g 14 (t * 6 + y4 - 1)) → (0 < v → v < y4 → y3 = m g 14 (t * 6 + v - 1)) →
    fl217_14_1 (fun y => y) y1 t n' n y3 y4 = if v = 0 then 0 else m g 14 (t * 6 + v - 1) := by
  intro n
  induction n with
  | zero =>
    intro y3 y4 a0 a1 a2
    omega
  | succ n ih =>
    intro y3 y4 a0 a1 a2 a3 a4 a5
    show fl217_14_1_b (fl217_14_1 (fun y => y) y1 t n' n) (fun y => y) y1 t n' y3 y4 = _
    unfold fl217_14_1_b
    have e1 := h.1.1 t h0 h1
    rw [← e1]
    by_cases c1 : y4 < m g 12 t
    · rw [if_pos c1]
      simp only [zn, hs]
      obtain ⟨e2, e3⟩ := h.1.2.1 t y4 h0 h1 a0 c1
      rw [← e2, ← e3]
      by_cases c2 : y4 < v
      · have := v2 y4 a0 c2
        rw [if_pos (by omega)]
        refine ih _ (y4 + 1) (by omega) (by omega) (by omega) (fun e => by omega) (fun _ _ => ?_) (fun e1 e2 => by omega)
        congr 1
        omega
      · have h9 : m g 13 (t * 6 + v) ≤ m g 13 (t * 6 + y4) := h.mono h0 h1 (y4 - v).toNat v y4 v0 (by omega) c1
        have := v3 (by omega)
        rw [if_neg (by omega)]
        refine ih _ (y4 + 1) (by omega) (by omega) (by omega) (fun e => a3 (by omega)) (fun e1 e2 => by omega) (fun e1 e2 => ?_)
        by_cases c3 : y4 = v
        · rw [a4 (by omega) (by omega), c3]
        · exact a5 e1 (by omega)
    · rw [if_neg c1]
      by_cases c2 : v = 0
      · rw [if_pos c2]
        exact a3 (.inr c2)
      · rw [if_neg c2]
        by_cases c3 : v < y4
        · exact a5 (by omega) c3
        · rw [a4 (by omega) (by omega), show y4 = v by omega]
/-! SEASONS -/
theorem se_loop {m n' : zM} {g : Nat} {d : Int} (h : ∀ s : Int, 0 ≤ s → s < 4 → m g 15 s = n' 4 45 (391 + s)) : ∀ (n : Nat) (y2 y3 y4 : Int), 0 ≤ y4 → -1 ≤ y2 → y2 < 4 → 0 ≤ y3 → y3 < 4 →
    fl30_7_1 (fun a b => zn (if a = (-1) then b else a) fun v => v) g d m n y2 y3 y4 = fl219_7_1 (fun a b => zn (if a = (-1) then b else a) fun v => v) d n' n y2 y3 y4 := by
  intro n
  induction n with
  | zero => intro y2 y3 y4 _ _ _ _ _; rfl
  | succ n ih =>
    intro y2 y3 y4 h0 h1 h2 h3 h4
    show fl30_7_1_b (fl30_7_1 _ g d m n) _ g d m y2 y3 y4 = fl219_7_1_b (fl219_7_1 _ d n' n) _ d n' y2 y3 y4
    unfold fl30_7_1_b fl219_7_1_b
    by_cases c1 : 4 ≤ y4
    · rw [if_pos c1, if_pos c1]
    · rw [if_neg c1, if_neg c1, h y4 h0 (by omega)]
      by_cases c2 : n' 4 45 (391 + y4) = -1
      · rw [if_pos c2, if_pos c2]
        exact ih y2 y3 (y4 + 1) (by omega) h1 h2 h3 h4
      · rw [if_neg c2, if_neg c2]
        simp only [zn]
        rw [h y3 h3 h4]
        have e : (if d < n' 4 45 (391 + y4) then y2 else if y2 = -1 then y4 else if n' 4 45 (391 + y4) ≤ m g 15 y2 then y2 else y4) = (if n' 4 45 (391 + y4) ≤ d then (if y2 = -1 then y4 else if n' 4 45 (391 + y4) ≤ n' 4 45 (391 + y2) then y2 else y4) else y2) := by
          by_cases c3 : d < n' 4 45 (391 + y4)
          · rw [if_pos c3, if_neg (by omega)]
          · rw [if_neg c3, if_pos (show n' 4 45 (391 + y4) ≤ d by omega)]
            by_cases c4 : y2 = -1
            · rw [if_pos c4, if_pos c4]
            · rw [if_neg c4, if_neg c4, h y2 (by omega) h2]
        rw [e]
        refine ih _ _ (y4 + 1) (by omega) ?_ ?_ ?_ ?_
        · split
          · split
            · omega
            · split <;> omega
          · omega
        · split
          · split
            · omega
            · split <;> omega
          · omega
        · split <;> omega
        · split <;> omega
theorem se_eq {m n' : zM} {g : Nat} (h : CR (m g) (n' 4 45)) (d : Int) : f30_1 g d m = f219_1 d n' := se_loop h.2.1.1 (zfu 5) (-1) 0 0 (by omega) (by omega) (by omega) (by omega) (by omega)
theorem se_rng_loop {n' : zM} {d : Int} : ∀ (n : Nat) (y2 y3 y4 : Int), 0 ≤ y4 → y4 ≤ 4 → 4 - y4 < n → -1 ≤ y2 → y2 < 4 → 0 ≤ y3 → y3 < 4 →
    0 ≤ fl219_7_1 (fun a b => zn (if a = (-1) then b else a) fun v => v) d n' n y2 y3 y4 ∧ fl219_7_1 (fun a b => zn (if a = (-1) then b else a) fun v => v) d n' n y2 y3 y4 < 4 := by
  intro n
  induction n with
  | zero => intro y2 y3 y4 h0 h1 h2; omega
  | succ n ih =>
    intro y2 y3 y4 h0 h1 h2 h3 h4 h5 h6
    show 0 ≤ fl219_7_1_b (fl219_7_1 _ d n' n) _ d n' y2 y3 y4 ∧ fl219_7_1_b (fl219_7_1 _ d n' n) _ d n' y2 y3 y4 < 4
    unfold fl219_7_1_b
    by_cases c1 : 4 ≤ y4
    · rw [if_pos c1]
      simp only [zn]
      split <;> omega
    · rw [if_neg c1]
      by_cases c2 : n' 4 45 (391 + y4) = -1
      · rw [if_pos c2]
        exact ih y2 y3 (y4 + 1) (by omega) (by omega) (by omega) h3 h4 h5 h6
      · rw [if_neg c2]
        simp only [zn]
        refine ih _ _ (y4 + 1) (by omega) (by omega) (by omega) ?_ ?_ ?_ ?_
        · split
          · split
            · omega
            · split <;> omega
          · omega
        · split
          · split
            · omega
            · split <;> omega
          · omega
        · split <;> omega
        · split <;> omega
theorem se_rng (n' : zM) (d : Int) : 0 ≤ f219_1 d n' ∧ f219_1 d n' < 4 := se_rng_loop (zfu 5) (-1) 0 0 (by omega) (by omega) (by rw [zfu_eq]; omega) (by omega) (by omega) (by omega) (by omega)
/-! SPECIAL days -/
theorem sp_loop {m : zM} {g : Nat} {d : Int} : ∀ (n : Nat) (y2 : Int), 0 ≤ y2 → y2 ≤ m g 11 7 → m g 11 7 - y2 < n → (∀ k, 0 ≤ k → k < y2 → m g 17 k ≠ d) →
    (fl29_2_1 (fun y => y) (-1) g d m n y2 = -1 ∧ ∀ k, 0 ≤ k → k < m g 11 7 → m g 17 k ≠ d) ∨ (0 ≤ fl29_2_1 (fun y => y) (-1) g d m n y2 ∧ fl29_2_1 (fun y => y) (-1) g d m n y2 < m g 11 7 ∧ m g 17 (fl29_2_1 (fun y => y) (-1) g d m n y2) = d) := by
  intro n
  induction n with
  | zero => intro y2 h0 h1 h2; omega
  | succ n ih =>
    intro y2 h0 h1 h2 h3
    have e : fl29_2_1 (fun y => y) (-1) g d m (n + 1) y2 = fl29_2_1_b (fl29_2_1 (fun y => y) (-1) g d m n) (fun y => y) (-1) g d m y2 := rfl
    rw [e]
    unfold fl29_2_1_b
    by_cases c1 : m g 11 7 ≤ y2
    · rw [if_pos c1]
      exact .inl ⟨rfl, fun k k0 k1 => h3 k k0 (by omega)⟩
    · rw [if_neg c1]
      by_cases c2 : m g 17 y2 = d
      · rw [if_pos c2]
        exact .inr ⟨h0, (by show y2 < m g 11 7; omega), c2⟩
      · rw [if_neg c2]
        refine ih (y2 + 1) (by omega) (by omega) (by omega) (fun k k0 k1 => ?_)
        by_cases c3 : k = y2
        · rw [c3]; exact c2
        · exact h3 k k0 (by omega)
theorem sp_spec (m : zM) (g : Nat) (d : Int) (h : 0 ≤ m g 11 7 ∧ m g 11 7 ≤ 16) : (f29_1 g d m = -1 ∧ ∀ k, 0 ≤ k → k < m g 11 7 → m g 17 k ≠ d) ∨ (0 ≤ f29_1 g d m ∧ f29_1 g d m < m g 11 7 ∧ m g 17 (f29_1 g d m) = d) :=
  sp_loop (zfu 17) 0 (by omega) (by omega) (by rw [zfu_eq]; omega) (fun k _ _ => by omega)
/-- a SPECIAL day on both sides -/
theorem CR.sp {m n' : zM} {g : Nat} (h : CR (m g) (n' 4 45)) (hb : CB (m g)) {d : Int} (h0 : 0 ≤ d) (h1 : d < 365) :
    (f29_1 g d m = -1 ∧ n' 4 45 (423 + d) = -1 ∧ ∀ k, 0 ≤ k → k < m g 11 7 → m g 17 k ≠ d) ∨ (0 ≤ f29_1 g d m ∧ f29_1 g d m < m g 11 7 ∧ m g 17 (f29_1 g d m) = d ∧ n' 4 45 (423 + d) = m g 18 (f29_1 g d m) ∧ n' 4 45 (423 + d) ≠ -1) := by
  rcases sp_spec m g d hb.2.1 with ⟨e1, e2⟩ | ⟨e1, e2, e3⟩
  · refine .inl ⟨e1, ?_, e2⟩
    by_cases c : n' 4 45 (423 + d) = -1
    · exact c
    · obtain ⟨k, k0, k1, k2⟩ := h.2.2.2.2.1 d h0 h1 c
      exact absurd k2 (e2 k k0 k1)
  · have e4 := h.2.2.1 _ e1 e2
    rw [e3] at e4
    have e5 := hb.2.2.2.1 (f29_1 g d m) e1 (by have := hb.2.1; omega)
    exact .inr ⟨e1, e2, e3, e4, by omega⟩
/-- TABLE of a DAY -/
theorem tb_eq {m n' : zM} {g : Nat} (h : CR (m g) (n' 4 45)) (hb : CB (m g)) {d : Int} (h0 : 0 ≤ d) : f28_1 g d m = f218_1 d n' ∧ 0 ≤ f218_1 d n' ∧ f218_1 d n' < 8 := by
  unfold f28_1 f218_1
  simp only [zn]
  have hd : 0 ≤ d % 365 ∧ d % 365 < 365 := by omega
  rcases h.sp hb hd.1 hd.2 with ⟨e1, e2, e3⟩ | ⟨e1, e2, e3, e4, e5⟩
  · rw [if_pos e1, if_pos e2, se_eq h]
    have e6 := se_rng n' (d % 365)
    have e7 := h.2.1.2 (f219_1 (d % 365) n' * 7 + d % 7) (by omega) (by omega)
    have e8 := hb.2.2.2.2.2.2.2 (f219_1 (d % 365) n' * 7 + d % 7) (by omega) (by omega)
    rw [show (395 + 7 * f219_1 (d % 365) n' + d % 7) = 395 + (f219_1 (d % 365) n' * 7 + d % 7) by omega, ← e7]
    exact ⟨rfl, e8.1, by omega⟩
  · rw [if_neg (by omega), if_neg e5, e4]
    have e6 := hb.2.2.2.1 (f29_1 g (d % 365) m) e1 (by have := hb.2.1; omega)
    exact ⟨rfl, e6.1, by omega⟩
/-- TARIFF at a SECOND of a TABLE -/
theorem tn_eq {m n' : zM} {g : Nat} (h : CR (m g) (n' 4 45)) (hb : CB (m g)) {t y1 : Int} (h0 : 0 ≤ t) (h1 : t < 8) : f31_1 g t (y1.tmod 86400) m = fl217_14_1 (fun y => y) y1 t n' (zfu 7) 0 0 := by
  unfold f31_1
  simp only [zn]
  have hc := hb.1 t h0 h1
  obtain ⟨v, e1, e2, e3, e4, e5⟩ := sb_spec m g t (y1.tmod 86400 + 1) hc
  rw [e1]
  exact (ta_loop h h0 h1 rfl e2 e3 e4 e5 (zfu 7) 0 0 (by omega) (by omega) (by rw [zfu_eq]; omega) (fun _ => rfl) (fun e => by omega) (fun _ e => by omega)).symm
/-- TARIFF at a TIME -/
theorem tf_eq {m n' : zM} {g : Nat} (h : CR (m g) (n' 4 45)) (hb : CB (m g)) {x : Int} (h0 : 0 ≤ x) : f27_1 g x m = f217_1 x n' := by
  unfold f27_1 f217_1
  simp only [zn]
  have e1 : x.tdiv 86400 = x / 86400 := Int.tdiv_eq_ediv_of_nonneg h0
  have e2 : x.tmod 86400 = x % 86400 := Int.tmod_eq_emod_of_nonneg h0
  obtain ⟨e3, e4, e5⟩ := tb_eq h hb (d := x / 86400) (by omega)
  rw [e1, e3, ← e2]
  exact tn_eq h hb e4 e5
end
section
/-! The calendar on both sides: what is told. -/
def fu (w : Int → Int) (i x : Int) : Int → Int := fun j => if j = i then x else w j
theorem zu_row (m : zM) (g k : Nat) (i x : Int) : z_upd m g k i x g k = fu (m g k) i x := by
  funext i'
  unfold z_upd fu
  by_cases h : i' = i
  · rw [if_pos ⟨rfl, rfl, h⟩, if_pos h]
  · rw [if_neg (fun e => h e.2.2), if_neg h]
theorem zu_g (m : zM) {g g' k : Nat} (i x : Int) (h : g' ≠ g) : z_upd m g k i x g' = m g' := by
  funext k' i'
  unfold z_upd
  rw [if_neg (fun e => h e.1)]
theorem zu_k (m : zM) {g g' k k' : Nat} (i x : Int) (h : k' ≠ k) : z_upd m g k i x g' k' = m g' k' := by
  funext i'
  unfold z_upd
  rw [if_neg (fun e => h e.2.1)]
theorem fu_s (w : Int → Int) (i x : Int) : fu w i x i = x := if_pos rfl
theorem fu_i (w : Int → Int) {i i' : Int} (x : Int) (h : i' ≠ i) : fu w i x i' = w i' := if_neg h
theorem spN_fu {w : Int → Int} {d x : Int} (h0 : 0 ≤ d) : ∀ n : Nat, spN (fu w (423 + d) x) n = spN w n + if d < n then (if x = -1 then 0 else 1) - (if w (423 + d) = -1 then 0 else 1) else 0
  | 0 => by
    rw [if_neg (by omega)]
    rfl
  | n + 1 => by
    unfold spN
    rw [spN_fu h0 n]
    by_cases e : (n : Int) = d
    · rw [e, fu_s, if_neg (by omega), if_pos (show d < ((n + 1 : Nat) : Int) by omega)]
      omega
    · rw [fu_i _ _ (show (423 : Int) + n ≠ 423 + d by omega)]
      by_cases e2 : d < n
      · rw [if_pos e2, if_pos (show d < ((n + 1 : Nat) : Int) by omega)]
        omega
      · rw [if_neg e2, if_neg (show ¬ d < ((n + 1 : Nat) : Int) by omega)]
        omega
theorem CS.season {a15 a16 w : Int → Int} (h : CS a15 a16 w) {s x : Int} (h0 : 0 ≤ s) (h1 : s < 4) : CS (fu a15 s x) a16 (fu w (391 + s) x) := by
  refine ⟨fun s' e0 e1 => ?_, fun d e0 e1 => ?_⟩
  · by_cases e : s' = s
    · rw [e, fu_s, fu_s]
    · rw [fu_i _ _ e, fu_i _ _ (by omega)]
      exact h.1 s' e0 e1
  · rw [fu_i _ _ (by omega)]
    exact h.2 d e0 e1
theorem CS.week {a15 a16 w : Int → Int} (h : CS a15 a16 w) {d x : Int} (h0 : 0 ≤ d) (h1 : d < 28) : CS a15 (fu a16 d x) (fu w (395 + d) x) := by
  refine ⟨fun s e0 e1 => ?_, fun d' e0 e1 => ?_⟩
  · rw [fu_i _ _ (by omega)]
    exact h.1 s e0 e1
  · by_cases e : d' = d
    · rw [e, fu_s, fu_s]
    · rw [fu_i _ _ e, fu_i _ _ (by omega)]
      exact h.2 d' e0 e1
theorem CT.wipe {a12 a13 a14 w : Int → Int} (h : CT a12 a13 a14 w) (hb : ∀ t : Int, 0 ≤ t → t < 8 → a12 t ≤ 6) {t : Int} (h0 : 0 ≤ t) (h1 : t < 8) : CT (fu a12 t 0) a13 a14 (fu w (287 + t) 0) := by
  refine ⟨fun t' e0 e1 => ?_, fun t' k e0 e1 e2 e3 => ?_, fun t' k e0 e1 e2 e3 => ?_⟩
  · by_cases e : t' = t
    · rw [e, fu_s, fu_s]
    · rw [fu_i _ _ e, fu_i _ _ (by omega)]
      exact h.1 t' e0 e1
  · by_cases e : t' = t
    · rw [e, fu_s] at e3
      omega
    · rw [fu_i _ _ e] at e3
      have := hb t' e0 e1
      rw [fu_i _ _ (by omega), fu_i _ _ (by omega)]
      exact h.2.1 t' k e0 e1 e2 e3
  · by_cases e : t' = t
    · rw [e, fu_s] at e3
      omega
    · rw [fu_i _ _ e] at e3
      exact h.2.2 t' k e0 e1 e2 e3
/-- the same second told again -/
theorem CT.again {a12 a13 a14 w : Int → Int} (h : CT a12 a13 a14 w) (hb : ∀ t : Int, 0 ≤ t → t < 8 → a12 t ≤ 6) {t v x : Int} (h0 : 0 ≤ t) (h1 : t < 8) (v0 : 0 ≤ v) (v1 : v < a12 t) : CT a12 a13 (fu a14 (t * 6 + v) x) (fu (fu w (295 + 6 * t + v) (a13 (t * 6 + v))) (343 + 6 * t + v) x) := by
  have hv := hb t h0 h1
  refine ⟨fun t' e0 e1 => ?_, fun t' k e0 e1 e2 e3 => ?_, h.2.2⟩
  · rw [fu_i _ _ (by omega), fu_i _ _ (by omega)]
    exact h.1 t' e0 e1
  · have := hb t' e0 e1
    obtain ⟨e4, e5⟩ := h.2.1 t' k e0 e1 e2 e3
    by_cases e : t' = t ∧ k = v
    · obtain ⟨rfl, rfl⟩ := e
      rw [fu_i _ _ (by omega), fu_s, fu_s, fu_s]
      exact ⟨rfl, rfl⟩
    · rw [fu_i _ _ (show 295 + 6 * t' + k ≠ 343 + 6 * t + v by omega), fu_i _ _ (show 295 + 6 * t' + k ≠ 295 + 6 * t + v by omega), fu_i _ _ (show t' * 6 + k ≠ t * 6 + v by omega), fu_i _ _ (show 343 + 6 * t' + k ≠ 343 + 6 * t + v by omega), fu_i _ _ (show 343 + 6 * t' + k ≠ 295 + 6 * t + v by omega)]
      exact ⟨e4, e5⟩
/-- a row with one number more at v of the places from b on: what lay from v on up to b + n lies one further -/
def shf (a : Int → Int) (b v n x : Int) : Int → Int := fun i => if i = b + v then x else if b + v < i ∧ i ≤ b + n then a (i - 1) else a i
theorem shf_at (a : Int → Int) (b v n x k : Int) : shf a b v n x (b + k) = if k = v then x else if v < k ∧ k ≤ n then a (b + k - 1) else a (b + k) := by
  unfold shf
  by_cases e : k = v
  · rw [if_pos (by omega), if_pos e]
  · rw [if_neg (by omega), if_neg e]
    by_cases e2 : v < k ∧ k ≤ n
    · rw [if_pos (by omega), if_pos e2]
    · rw [if_neg (by omega), if_neg e2]
theorem shf_o (a : Int → Int) (b v n x i : Int) (h : i < b + v ∨ b + n < i) (hv : v ≤ n) : shf a b v n x i = a i := by
  unfold shf
  rw [if_neg (by omega), if_neg (by omega)]
/-- a new second -/
theorem CT.new {a12 a13 a14 w : Int → Int} (h : CT a12 a13 a14 w) (hb : ∀ t : Int, 0 ≤ t → t < 8 → 0 ≤ a12 t ∧ a12 t ≤ 6) {t v s x : Int} (h0 : 0 ≤ t) (h1 : t < 8) (v0 : 0 ≤ v) (v1 : v ≤ a12 t) (hn : a12 t < 6) (v2 : ∀ k, 0 ≤ k → k < v → a13 (t * 6 + k) < s) (v3 : v < a12 t → s < a13 (t * 6 + v)) {b12 b13 b14 u : Int → Int}
    (e12 : b12 = fu a12 t (a12 t + 1)) (e13 : b13 = shf a13 (t * 6) v (a12 t) s) (e14 : b14 = shf a14 (t * 6) v (a12 t) x)
    (u12 : ∀ t', 0 ≤ t' → t' < 8 → u (287 + t') = fu a12 t (a12 t + 1) t')
    (u13 : ∀ k, 0 ≤ k → k < 6 → u (295 + 6 * t + k) = if k = v then s else if v < k ∧ k ≤ a12 t then w (295 + 6 * t + k - 1) else w (295 + 6 * t + k))
    (u14 : ∀ k, 0 ≤ k → k < 6 → u (343 + 6 * t + k) = if k = v then x else if v < k ∧ k ≤ a12 t then w (343 + 6 * t + k - 1) else w (343 + 6 * t + k))
    (uo : ∀ i, 295 ≤ i → i < 391 → ¬ (295 + 6 * t ≤ i ∧ i < 301 + 6 * t) → ¬ (343 + 6 * t ≤ i ∧ i < 349 + 6 * t) → u i = w i) : CT b12 b13 b14 u := by
  subst e12 e13 e14
  have hm : ∀ (n : Nat) (j k : Int), 0 ≤ j → k = j + n → k < a12 t → a13 (t * 6 + j) ≤ a13 (t * 6 + k) := by
    intro n
    induction n with
    | zero =>
      intro j k _ e _
      rw [show k = j by omega]
      exact Int.le_refl _
    | succ n ih =>
      intro j k hj e hk
      have g1 := ih j (k - 1) hj (by omega) (by omega)
      have g2 := h.2.2 t (k - 1) h0 h1 (by omega) (by omega)
      rw [show t * 6 + (k - 1) + 1 = t * 6 + k by omega] at g2
      omega
  refine ⟨fun t' e0 e1 => (u12 t' e0 e1).symm, fun t' k e0 e1 e2 e3 => ?_, fun t' k e0 e1 e2 e3 => ?_⟩
  · by_cases e : t' = t
    · subst e
      rw [fu_s] at e3
      rw [shf_at, shf_at, u13 k e2 (by omega), u14 k e2 (by omega)]
      by_cases c1 : k = v
      · rw [if_pos c1, if_pos c1, if_pos c1, if_pos c1]
        exact ⟨rfl, rfl⟩
      · rw [if_neg c1, if_neg c1, if_neg c1, if_neg c1]
        by_cases c2 : v < k ∧ k ≤ a12 t'
        · rw [if_pos c2, if_pos c2, if_pos c2, if_pos c2]
          obtain ⟨g1, g2⟩ := h.2.1 t' (k - 1) h0 h1 (by omega) (by omega)
          rw [show t' * 6 + k - 1 = t' * 6 + (k - 1) by omega, show 295 + 6 * t' + k - 1 = 295 + 6 * t' + (k - 1) by omega, show 343 + 6 * t' + k - 1 = 343 + 6 * t' + (k - 1) by omega]
          exact ⟨g1, g2⟩
        · rw [if_neg c2, if_neg c2, if_neg c2, if_neg c2]
          exact h.2.1 t' k h0 h1 e2 (by omega)
    · rw [fu_i _ _ e] at e3
      have := hb t' e0 e1
      rw [shf_o _ _ _ _ _ _ (by omega) v1, shf_o _ _ _ _ _ _ (by omega) v1, uo _ (by omega) (by omega) (by omega) (by omega), uo _ (by omega) (by omega) (by omega) (by omega)]
      exact h.2.1 t' k e0 e1 e2 e3
  · by_cases e : t' = t
    · subst e
      rw [fu_s] at e3
      rw [show t' * 6 + k + 1 = t' * 6 + (k + 1) by omega, shf_at, shf_at]
      by_cases c1 : k = v
      · rw [if_pos c1, if_neg (by omega), if_pos (by omega), c1, show t' * 6 + (v + 1) - 1 = t' * 6 + v by omega]
        exact v3 (by omega)
      · rw [if_neg c1]
        by_cases c2 : k + 1 = v
        · rw [if_pos c2, if_neg (by omega)]
          exact v2 k e2 (by omega)
        · rw [if_neg c2]
          by_cases c3 : v < k
          · rw [if_pos (by omega), if_pos (by omega), show t' * 6 + (k + 1) - 1 = t' * 6 + (k - 1) + 1 by omega, show t' * 6 + k - 1 = t' * 6 + (k - 1) by omega]
            exact h.2.2 t' (k - 1) h0 h1 (by omega) (by omega)
          · rw [if_neg (by omega), if_neg (by omega), show t' * 6 + (k + 1) = t' * 6 + k + 1 by omega]
            exact h.2.2 t' k h0 h1 e2 (by omega)
    · rw [fu_i _ _ e] at e3
      have := hb t' e0 e1
      rw [shf_o _ _ _ _ _ _ (by omega) v1, shf_o _ _ _ _ _ _ (by omega) v1]
      exact h.2.2 t' k e0 e1 e2 e3
/-- a SPECIAL day more -/
theorem CP.new {n : Int} {a17 a18 w : Int → Int} (h : CP n a17 a18 w) (hb : ∀ k : Int, 0 ≤ k → k < n → 0 ≤ a17 k ∧ a17 k ≤ 364) (hn : 0 ≤ n) {d x : Int} (h0 : 0 ≤ d) (h1 : d < 365) (hd : ∀ k, 0 ≤ k → k < n → a17 k ≠ d) (hw : w (423 + d) = -1) (hx : x ≠ -1) : CP (n + 1) (fu a17 n d) (fu a18 n x) (fu w (423 + d) x) := by
  refine ⟨fun k e0 e1 => ?_, fun j k e0 e1 e2 => ?_, fun d' e0 e1 e2 => ?_, ?_⟩
  · by_cases e : k = n
    · rw [e, fu_s, fu_s, fu_s]
    · have := hd k e0 (by omega)
      rw [fu_i _ _ e, fu_i _ _ e, fu_i _ _ (by omega)]
      exact h.1 k e0 (by omega)
  · rw [fu_i _ _ (show j ≠ n by omega)]
    by_cases e : k = n
    · rw [e, fu_s]
      exact hd j e0 (by omega)
    · rw [fu_i _ _ e]
      exact h.2.1 j k e0 e1 (by omega)
  · by_cases e : d' = d
    · exact ⟨n, hn, by omega, by rw [fu_s, e]⟩
    · rw [fu_i _ _ (by omega)] at e2
      obtain ⟨k, k0, k1, k2⟩ := h.2.2.1 d' e0 e1 e2
      exact ⟨k, k0, by omega, by rw [fu_i _ _ (by omega)]; exact k2⟩
  · rw [spN_fu h0, h.2.2.2, if_pos (show d < ((365 : Nat) : Int) by omega), if_neg hx, if_pos hw]
    omega
/-- a SPECIAL day told again -/
theorem CP.again {n : Int} {a17 a18 w : Int → Int} (h : CP n a17 a18 w) {v x : Int} (v0 : 0 ≤ v) (v1 : v < n) (h0 : 0 ≤ a17 v) (h1 : a17 v < 365) (hw : w (423 + a17 v) ≠ -1) (hx : x ≠ -1) : CP n (fu a17 v (a17 v)) (fu a18 v x) (fu w (423 + a17 v) x) := by
  have e17 : fu a17 v (a17 v) = a17 := by
    funext i
    unfold fu
    split
    · rename_i e
      rw [e]
    · rfl
  rw [e17]
  have hne : ∀ k, 0 ≤ k → k < n → k ≠ v → a17 k ≠ a17 v := fun k e0 e1 e2 => by
    rcases Int.lt_or_gt_of_ne e2 with e | e
    · exact h.2.1 k v e0 e v1
    · exact fun e9 => h.2.1 v k v0 e e1 e9.symm
  refine ⟨fun k e0 e1 => ?_, h.2.1, fun d' e0 e1 e2 => ?_, ?_⟩
  · by_cases e : k = v
    · rw [e, fu_s, fu_s]
    · have := hne k e0 e1 e
      rw [fu_i _ _ e, fu_i _ _ (by omega)]
      exact h.1 k e0 e1
  · by_cases e : d' = a17 v
    · exact ⟨v, v0, v1, e.symm⟩
    · rw [fu_i _ _ (by omega)] at e2
      exact h.2.2.1 d' e0 e1 e2
  · rw [spN_fu h0, h.2.2.2, if_pos (show a17 v < ((365 : Nat) : Int) by omega), if_neg hx, if_neg hw]
    omega
/-- a SPECIAL day less: the last one comes to its place -/
theorem CP.drop {n : Int} {a17 a18 w : Int → Int} (h : CP n a17 a18 w) (hb : ∀ k : Int, 0 ≤ k → k < n → 0 ≤ a17 k ∧ a17 k ≤ 364) {v : Int} (v0 : 0 ≤ v) (v1 : v < n) (hw : w (423 + a17 v) ≠ -1) : CP (n - 1) (fu a17 v (a17 (n - 1))) (fu a18 v (a18 (n - 1))) (fu w (423 + a17 v) (-1)) := by
  have hv := hb v v0 v1
  have hne : ∀ k, 0 ≤ k → k < n → k ≠ v → a17 k ≠ a17 v := fun k e0 e1 e2 => by
    rcases Int.lt_or_gt_of_ne e2 with e | e
    · exact h.2.1 k v e0 e v1
    · exact fun e9 => h.2.1 v k v0 e e1 e9.symm
  refine ⟨fun k e0 e1 => ?_, fun j k e0 e1 e2 => ?_, fun d' e0 e1 e2 => ?_, ?_⟩
  · by_cases e : k = v
    · have := hne (n - 1) (by omega) (by omega) (by omega)
      rw [e, fu_s, fu_s, fu_i _ _ (by omega)]
      exact h.1 (n - 1) (by omega) (by omega)
    · have := hne k e0 (by omega) e
      rw [fu_i _ _ e, fu_i _ _ e, fu_i _ _ (by omega)]
      exact h.1 k e0 (by omega)
  · by_cases e : j = v
    · rw [e, fu_s, fu_i _ _ (show k ≠ v by omega)]
      exact fun e9 => h.2.1 k (n - 1) (by omega) (by omega) (by omega) e9.symm
    · rw [fu_i _ _ e]
      by_cases e3 : k = v
      · rw [e3, fu_s]
        exact h.2.1 j (n - 1) e0 (by omega) (by omega)
      · rw [fu_i _ _ e3]
        exact h.2.1 j k e0 e1 (by omega)
  · by_cases e : d' = a17 v
    · rw [e, fu_s] at e2
      exact absurd rfl e2
    · rw [fu_i _ _ (by omega)] at e2
      obtain ⟨k, k0, k1, k2⟩ := h.2.2.1 d' e0 e1 e2
      have hkv : k ≠ v := fun e9 => e (by rw [← k2, e9])
      by_cases e3 : k = n - 1
      · exact ⟨v, v0, by omega, by rw [fu_s, ← e3]; exact k2⟩
      · exact ⟨k, k0, by omega, by rw [fu_i _ _ hkv]; exact k2⟩
  · rw [spN_fu (by omega), h.2.2.2, if_pos (show a17 v < ((365 : Nat) : Int) by omega), if_pos rfl, if_neg hw]
    omega
end
section
/-! SWITCHES that come, on both sides. -/
def shM (m : zM) (g : Nat) (lo hi : Int) : zM := fun g' k' i' => if g' = g ∧ (k' = 13 ∨ k' = 14) ∧ lo < i' ∧ i' ≤ hi then m g k' (i' - 1) else m g' k' i'
theorem put_shift {k : zM → Int × zM} {g : Nat} {y1 y2 y3 y5 : Int} : ∀ (n : Nat) (y6 : Int) (m : zM), y5 ≤ y6 → y6 - y5 < n → fl81_65_1 k g y1 y2 y3 y5 n y6 m = k (shM m g y5 y6) := by
  intro n
  induction n with
  | zero =>
    intro y6 m h0 hn
    omega
  | succ n ih =>
    intro y6 m h0 hn
    show fl81_65_1_b (fl81_65_1 k g y1 y2 y3 y5 n) k g y1 y2 y3 y5 y6 m = _
    unfold fl81_65_1_b
    by_cases c : y6 ≤ y5
    · rw [if_pos c]
      congr 1
      funext g' k' i'
      unfold shM
      rw [if_neg (by omega)]
    · rw [if_neg c]
      simp only [zs]
      rw [ih _ _ (by omega) (by omega)]
      congr 1
      funext g' k' i'
      unfold shM z_upd
      by_cases e : g' = g
      · subst e
        by_cases e13 : k' = 13
        · subst e13
          simp only [true_and, Nat.reduceEqDiff, false_or, true_or, false_and, if_false]
          by_cases e1 : i' = y6
          · subst e1
            rw [if_neg (by omega), if_pos (by omega), if_pos (by omega)]
          · by_cases e2 : y5 < i' ∧ i' ≤ y6 - 1
            · rw [if_pos (by omega), if_neg (by omega), if_pos (by omega)]
            · rw [if_neg (by omega), if_neg (by omega), if_neg (by omega)]
        · by_cases e14 : k' = 14
          · subst e14
            simp only [true_and, Nat.reduceEqDiff, or_true, false_and, if_false]
            by_cases e1 : i' = y6
            · subst e1
              rw [if_neg (by omega), if_pos (by omega), if_pos (by omega)]
            · by_cases e2 : y5 < i' ∧ i' ≤ y6 - 1
              · rw [if_pos (by omega), if_neg (by omega), if_pos (by omega)]
              · rw [if_neg (by omega), if_neg (by omega), if_neg (by omega)]
          · rw [if_neg (fun h => by omega), if_neg (fun h => e14 h.2.1), if_neg (fun h => e13 h.2.1), if_neg (fun h => by omega)]
      · rw [if_neg (fun h => e h.1), if_neg (fun h => e h.1), if_neg (fun h => e h.1), if_neg (fun h => e h.1)]
theorem shM_row {m : zM} {g : Nat} {b v n : Int} {k : Nat} (hk : k = 13 ∨ k = 14) (x : Int) : fu (shM m g (b + v) (b + n) g k) (b + v) x = shf (m g k) b v n x := by
  funext i
  unfold fu shf shM
  by_cases e : i = b + v
  · rw [if_pos e, if_pos e]
  · rw [if_neg e, if_neg e]
    by_cases e2 : b + v < i ∧ i ≤ b + n
    · rw [if_pos ⟨rfl, hk, e2⟩, if_pos e2]
    · rw [if_neg (fun h => e2 h.2.2), if_neg e2]
theorem shM_o {m : zM} {g g' k' : Nat} {lo hi : Int} (h : g' ≠ g ∨ (k' ≠ 13 ∧ k' ≠ 14)) : shM m g lo hi g' k' = m g' k' := by
  funext i
  unfold shM
  rw [if_neg]
  rintro ⟨e1, e2, -, -⟩
  omega
/-- has it the second already -/
theorem hs_eq (m : zM) (g : Nat) (t s v : Int) (hv : f32_1 g t s m = v) (h0 : 0 ≤ v) (h1 : v ≤ m g 12 t) : f82_1 g t s m = if v < m g 12 t ∧ m g 13 (t * 6 + v) = s then 1 else 0 := by
  unfold f82_1
  simp only [zn, hv]
  by_cases c : v < m g 12 t
  · rw [if_neg (by omega)]
    by_cases c2 : m g 13 (t * 6 + v) = s
    · rw [if_pos c2, if_pos ⟨c, c2⟩]
    · rw [if_neg c2, if_neg (fun h => c2 h.2)]
  · rw [if_pos (by omega), if_neg (fun h => c h.1)]
/-- what the class' putSwitch does: the rows behind it -/
theorem put_cls (m : zM) (g : Nat) (t s x : Int) (h0 : 0 ≤ t) (h1 : t < 8) (hc : 0 ≤ m g 12 t ∧ m g 12 t ≤ 6) : ∃ v m1 r, f81_1 g t s x m = (r, m1) ∧ 0 ≤ v ∧ v ≤ m g 12 t ∧ (∀ k, 0 ≤ k → k < v → m g 13 (t * 6 + k) < s) ∧ (v < m g 12 t → s ≤ m g 13 (t * 6 + v)) ∧
    (∀ g' k', (g' ≠ g ∨ (k' ≠ 12 ∧ k' ≠ 13 ∧ k' ≠ 14)) → m1 g' k' = m g' k') ∧
    ((v < m g 12 t ∧ m g 13 (t * 6 + v) = s ∧ r = m g 12 t ∧ m1 g 12 = m g 12 ∧ m1 g 13 = m g 13 ∧ m1 g 14 = fu (m g 14) (t * 6 + v) x) ∨
     (¬ (v < m g 12 t ∧ m g 13 (t * 6 + v) = s) ∧ m g 12 t = 6 ∧ r = -1 ∧ m1 = m) ∨
     (¬ (v < m g 12 t ∧ m g 13 (t * 6 + v) = s) ∧ m g 12 t < 6 ∧ r = m g 12 t + 1 ∧ m1 g 12 = fu (m g 12) t (m g 12 t + 1) ∧ m1 g 13 = shf (m g 13) (t * 6) v (m g 12 t) s ∧ m1 g 14 = shf (m g 14) (t * 6) v (m g 12 t) x)) := by
  obtain ⟨v, e1, e2, e3, e4, e5⟩ := sb_spec m g t s hc
  have e6 := hs_eq m g t s v e1 e2 e3
  unfold f81_1
  simp only [zn, zs, e1, e6]
  by_cases c : v < m g 12 t ∧ m g 13 (t * 6 + v) = s
  · rw [if_pos c, if_neg (by decide)]
    refine ⟨v, _, _, rfl, e2, e3, e4, e5, fun g' k' h => ?_, .inl ⟨c.1, c.2, ?_, ?_, ?_, ?_⟩⟩
    · funext i
      unfold z_upd
      rw [if_neg (fun e => by omega)]
    · exact z_upd_o _ _ rfl
    · exact zu_k _ _ _ (by decide)
    · exact zu_k _ _ _ (by decide)
    · exact zu_row _ _ _ _ _
  · rw [if_neg c, if_pos rfl]
    by_cases c2 : m g 12 t < 6
    · rw [if_pos c2, put_shift (zfu 48) _ _ (by omega) (by rw [zfu_eq]; omega)]
      refine ⟨v, _, _, rfl, e2, e3, e4, e5, fun g' k' h => ?_, .inr (.inr ⟨c, c2, ?_, ?_, ?_, ?_⟩)⟩
      · rw [← shM_o (m := m) (g := g) (lo := t * 6 + v) (hi := t * 6 + m g 12 t) (g' := g') (k' := k') (by omega)]
        funext i
        unfold z_upd
        rw [if_neg (fun e => by omega), if_neg (fun e => by omega), if_neg (fun e => by omega)]
      · rw [z_upd_same, z_upd_o _ _ rfl, z_upd_o _ _ rfl, shM_o (by omega)]
      · rw [zu_row, zu_k _ _ _ (by decide), zu_k _ _ _ (by decide), shM_o (by omega)]
      · rw [zu_k _ _ _ (by decide), zu_k _ _ _ (by decide), zu_row, shM_row (.inl rfl)]
      · rw [zu_k _ _ _ (by decide), zu_row, zu_k _ _ _ (by decide), shM_row (.inr rfl)]
    · rw [if_neg c2]
      exact ⟨v, _, _, rfl, e2, e3, e4, e5, fun _ _ _ => rfl, .inr (.inl ⟨c, by omega, rfl, rfl⟩)⟩
/-! the reference's -/
theorem pos_loop {k : Int → Int × zM} {m : zM} {y1 y2 y3 y4 y5 : Int} : ∀ (n : Nat) (y6 : Int), 0 ≤ y6 → y6 ≤ y5 → y5 - y6 < n → (∀ j, 0 ≤ j → j < y6 → m 4 45 (295 + y4 + j) < y2) →
    ∃ v, fl243_22_1 k y1 y2 y3 y4 y5 m n y6 = k v ∧ 0 ≤ v ∧ v ≤ y5 ∧ (∀ j, 0 ≤ j → j < v → m 4 45 (295 + y4 + j) < y2) ∧ (v < y5 → y2 ≤ m 4 45 (295 + y4 + v)) := by
  intro n
  induction n with
  | zero =>
    intro y6 h0 h1 h2
    omega
  | succ n ih =>
    intro y6 h0 h1 h2 h3
    show ∃ v, fl243_22_1_b (fl243_22_1 k y1 y2 y3 y4 y5 m n) k y1 y2 y3 y4 y5 m y6 = k v ∧ _
    unfold fl243_22_1_b
    by_cases c : y5 ≤ y6
    · rw [if_pos c]
      exact ⟨y6, rfl, h0, h1, h3, by omega⟩
    · rw [if_neg c]
      by_cases c2 : m 4 45 (295 + y4 + y6) < y2
      · rw [if_pos c2]
        refine ih (y6 + 1) (by omega) (by omega) (by omega) (fun j hj hj2 => ?_)
        by_cases e : j = y6
        · subst e
          exact c2
        · exact h3 j hj (by omega)
      · rw [if_neg c2]
        exact ⟨y6, rfl, h0, h1, h3, fun _ => by omega⟩
def shW (m : zM) (b lo hi : Int) : zM := fun g k i => if g = 4 ∧ k = 45 ∧ ((295 + b + lo < i ∧ i ≤ 295 + b + hi) ∨ (343 + b + lo < i ∧ i ≤ 343 + b + hi)) then m 4 45 (i - 1) else m g k i
theorem shift_ref {k : zM → Int × zM} {y1 y2 y3 y4 y6 y7 : Int} : ∀ (n : Nat) (y8 : Int) (m : zM), y6 ≤ y8 → y8 ≤ 6 → 0 ≤ y6 → y8 - y6 < n → fl243_107_1 k y1 y2 y3 y4 y6 y7 n y8 m = k (shW m y4 y6 y8) := by
  intro n
  induction n with
  | zero =>
    intro y8 m h0 h6 h7 hn
    omega
  | succ n ih =>
    intro y8 m h0 h6 h7 hn
    show fl243_107_1_b (fl243_107_1 k y1 y2 y3 y4 y6 y7 n) k y1 y2 y3 y4 y6 y7 y8 m = _
    unfold fl243_107_1_b
    by_cases c : y8 ≤ y6
    · rw [if_pos c]
      congr 1
      funext g' k' i'
      unfold shW
      rw [if_neg (by omega)]
    · rw [if_neg c]
      simp only [zs]
      rw [ih _ _ (by omega) (by omega) h7 (by omega)]
      congr 1
      funext g' k' i'
      unfold shW z_upd
      by_cases e : g' = 4 ∧ k' = 45
      · obtain ⟨rfl, rfl⟩ := e
        simp only [true_and]
        by_cases e1 : i' = 295 + y4 + y8
        · subst e1
          rw [if_neg (by omega), if_neg (by omega), if_pos (by omega), if_pos (by omega)]
        · by_cases e2 : i' = 343 + y4 + y8
          · subst e2
            rw [if_neg (by omega), if_pos (by omega), if_neg (by omega), if_pos (by omega)]
          · by_cases e3 : (295 + y4 + y6 < i' ∧ i' ≤ 295 + y4 + y8) ∨ (343 + y4 + y6 < i' ∧ i' ≤ 343 + y4 + y8)
            · rw [if_pos (by omega), if_neg (by omega), if_neg (by omega), if_pos e3]
            · rw [if_neg (by omega), if_neg (by omega), if_neg (by omega), if_neg e3]
      · rw [if_neg (fun h => e ⟨h.1, h.2.1⟩), if_neg (fun h => e ⟨h.1, h.2.1⟩), if_neg (fun h => e ⟨h.1, h.2.1⟩), if_neg (fun h => e ⟨h.1, h.2.1⟩)]
theorem again_ref {k : zM → Int × zM} {y1 y2 y3 y4 y6 y7 y8 : Int} {m : zM} : ∀ n : Nat, 0 < n → fl243_107_2 k y1 y2 y3 y4 y6 y7 n y8 m = k m
  | 0, h => absurd h (by decide)
  | n + 1, _ => by
    show fl243_107_2_b (fl243_107_2 k y1 y2 y3 y4 y6 y7 n) k y1 y2 y3 y4 y6 y7 y8 m = _
    unfold fl243_107_2_b
    split <;> rfl
theorem put_ref (m : zM) (t s x : Int) (h0 : 0 ≤ t) (h1 : t < 8) (hc : 0 ≤ m 4 45 (287 + t) ∧ m 4 45 (287 + t) ≤ 6) : ∃ v m2 r, f243_1 t s x m = (r, m2) ∧ 0 ≤ v ∧ v ≤ m 4 45 (287 + t) ∧ (∀ j, 0 ≤ j → j < v → m 4 45 (295 + 6 * t + j) < s) ∧ (v < m 4 45 (287 + t) → s ≤ m 4 45 (295 + 6 * t + v)) ∧
    (∀ g' k', ¬ (g' = 4 ∧ k' = 45) → m2 g' k' = m g' k') ∧
    ((v < m 4 45 (287 + t) ∧ m 4 45 (295 + 6 * t + v) = s ∧ r = m 4 45 (287 + t) ∧ m2 4 45 = fu (fu (fu (m 4 45) (295 + 6 * t + v) s) (343 + 6 * t + v) x) (287 + t) (m 4 45 (287 + t))) ∨
     (¬ (v < m 4 45 (287 + t) ∧ m 4 45 (295 + 6 * t + v) = s) ∧ m 4 45 (287 + t) = 6 ∧ r = -1 ∧ m2 = m) ∨
     (¬ (v < m 4 45 (287 + t) ∧ m 4 45 (295 + 6 * t + v) = s) ∧ m 4 45 (287 + t) < 6 ∧ r = m 4 45 (287 + t) + 1 ∧ m2 4 45 = fu (fu (fu (shW m (6 * t) v (m 4 45 (287 + t)) 4 45) (295 + 6 * t + v) s) (343 + 6 * t + v) x) (287 + t) (m 4 45 (287 + t) + 1))) := by
  unfold f243_1
  obtain ⟨v, e1, e2, e3, e4, e5⟩ := pos_loop (k := fun y02 => if m 4 45 (287 + t) ≤ y02 then
      (if m 4 45 (287 + t) = 6 then ((-1), m) else fl243_107_1 (fun m10 => zs (z_upd m10 4 45 (295 + 6 * t + y02) s) fun m14 => zs (z_upd m14 4 45 (343 + 6 * t + y02) x) fun m16 => zs (z_upd m16 4 45 (287 + t) (m16 4 45 (287 + t) + 1)) fun m20 => (m20 4 45 (287 + t), m20)) t s x (6 * t) y02 0 (zfu 6) (m 4 45 (287 + t)) m)
      else (if m 4 45 (295 + 6 * t + y02) = s then fl243_107_2 (fun m42 => zs (z_upd m42 4 45 (295 + 6 * t + y02) s) fun m46 => zs (z_upd m46 4 45 (343 + 6 * t + y02) x) fun m48 => zs (z_upd m48 4 45 (287 + t) (m48 4 45 (287 + t) + 0)) fun m52 => (m52 4 45 (287 + t), m52)) t s x (6 * t) y02 1 (zfu 7) (m 4 45 (287 + t)) m
      else (if m 4 45 (287 + t) = 6 then ((-1), m) else fl243_107_1 (fun m28 => zs (z_upd m28 4 45 (295 + 6 * t + y02) s) fun m32 => zs (z_upd m32 4 45 (343 + 6 * t + y02) x) fun m34 => zs (z_upd m34 4 45 (287 + t) (m34 4 45 (287 + t) + 1)) fun m38 => (m38 4 45 (287 + t), m38)) t s x (6 * t) y02 0 (zfu 6) (m 4 45 (287 + t)) m)))
    (m := m) (y1 := t) (y2 := s) (y3 := x) (y4 := 6 * t) (y5 := m 4 45 (287 + t)) (zfu 7) 0 (by omega) (by omega) (by rw [zfu_eq]; omega) (fun j _ _ => by omega)
  have hS : ∀ (g' k' : Nat), ¬ (g' = 4 ∧ k' = 45) → shW m (6 * t) v (m 4 45 (287 + t)) g' k' = m g' k' := fun g' k' h => by
    funext i
    unfold shW
    rw [if_neg (fun e => h ⟨e.1, e.2.1⟩)]
  have hcnt : shW m (6 * t) v (m 4 45 (287 + t)) 4 45 (287 + t) = m 4 45 (287 + t) := by
    unfold shW
    rw [if_neg (by omega)]
  have new : ¬ m 4 45 (287 + t) = 6 → (let p := fl243_107_1 (fun m10 => zs (z_upd m10 4 45 (295 + 6 * t + v) s) fun m14 => zs (z_upd m14 4 45 (343 + 6 * t + v) x) fun m16 => zs (z_upd m16 4 45 (287 + t) (m16 4 45 (287 + t) + 1)) fun m20 => (m20 4 45 (287 + t), m20)) t s x (6 * t) v 0 (zfu 6) (m 4 45 (287 + t)) m
      p.1 = m 4 45 (287 + t) + 1 ∧ (∀ g' k', ¬ (g' = 4 ∧ k' = 45) → p.2 g' k' = m g' k') ∧ p.2 4 45 = fu (fu (fu (shW m (6 * t) v (m 4 45 (287 + t)) 4 45) (295 + 6 * t + v) s) (343 + 6 * t + v) x) (287 + t) (m 4 45 (287 + t) + 1)) := by
    intro c
    dsimp only
    rw [shift_ref (zfu 6) _ _ (by omega) (by omega) e2 (by rw [zfu_eq]; omega)]
    simp only [zs]
    have e6 : z_upd (z_upd (shW m (6 * t) v (m 4 45 (287 + t))) 4 45 (295 + 6 * t + v) s) 4 45 (343 + 6 * t + v) x 4 45 (287 + t) = m 4 45 (287 + t) := by
      rw [z_upd_i _ _ _ _ (by omega), z_upd_i _ _ _ _ (by omega), hcnt]
    refine ⟨by rw [z_upd_same, e6], fun g' k' h => ?_, ?_⟩
    · rw [← hS g' k' h]
      funext i
      unfold z_upd
      rw [if_neg (fun e => h ⟨e.1, e.2.1⟩), if_neg (fun e => h ⟨e.1, e.2.1⟩), if_neg (fun e => h ⟨e.1, e.2.1⟩)]
    · rw [zu_row, e6, zu_row, zu_row]
  by_cases c : v < m 4 45 (287 + t) ∧ m 4 45 (295 + 6 * t + v) = s
  · have ea : z_upd (z_upd m 4 45 (295 + 6 * t + v) s) 4 45 (343 + 6 * t + v) x 4 45 (287 + t) = m 4 45 (287 + t) := by
      rw [z_upd_i _ _ _ _ (by omega), z_upd_i _ _ _ _ (by omega)]
    have c3 : ¬ m 4 45 (287 + t) ≤ v := by omega
    have e9 := e1.trans ((if_neg c3).trans ((if_pos c.2).trans (again_ref (zfu 7) (by rw [zfu_eq]; decide))))
    refine ⟨v, z_upd (z_upd (z_upd m 4 45 (295 + 6 * t + v) s) 4 45 (343 + 6 * t + v) x) 4 45 (287 + t) (m 4 45 (287 + t)), m 4 45 (287 + t), e9.trans ?_, e2, e3, e4, e5, fun g' k' h => ?_, .inl ⟨c.1, c.2, rfl, ?_⟩⟩
    · simp only [zs, ea, Int.add_zero, z_upd_same]
    · funext i
      unfold z_upd
      rw [if_neg (fun e => h ⟨e.1, e.2.1⟩), if_neg (fun e => h ⟨e.1, e.2.1⟩), if_neg (fun e => h ⟨e.1, e.2.1⟩)]
    · rw [zu_row, zu_row, zu_row]
  · by_cases c2 : m 4 45 (287 + t) = 6
    · refine ⟨v, m, -1, ?_, e2, e3, e4, e5, fun _ _ _ => rfl, .inr (.inl ⟨c, c2, rfl, rfl⟩)⟩
      refine e1.trans ?_
      by_cases c3 : m 4 45 (287 + t) ≤ v
      · rw [if_pos c3, if_pos c2]
      · rw [if_neg c3, if_neg (fun h => c ⟨by omega, h⟩), if_pos c2]
    · obtain ⟨n1, n2, n3⟩ := new c2
      refine ⟨v, _, _, ?_, e2, e3, e4, e5, n2, .inr (.inr ⟨c, by omega, n1, n3⟩)⟩
      refine e1.trans ?_
      by_cases c3 : m 4 45 (287 + t) ≤ v
      · rw [if_pos c3, if_neg c2]
      · rw [if_neg c3, if_neg (fun h => c ⟨by omega, h⟩), if_neg c2]
/-- both -/
theorem put_eq {m n' : zM} {g : Nat} (h : CR (m g) (n' 4 45)) (hb : CB (m g)) {t s x : Int} (h0 : 0 ≤ t) (h1 : t < 8) :
    (f81_1 g t s x m).1 = (f243_1 t s x n').1 ∧ CR ((f81_1 g t s x m).2 g) ((f243_1 t s x n').2 4 45) := by
  have ec := h.1.1 t h0 h1
  have hc := hb.1 t h0 h1
  obtain ⟨v, m1, r1, p1, p2, p3, p4, p5, p6, p7⟩ := put_cls m g t s x h0 h1 hc
  obtain ⟨u, m2, r2, q1, q2, q3, q4, q5, q6, q7⟩ := put_ref n' t s x h0 h1 (by rw [← ec]; exact hc)
  rw [p1, q1]
  show r1 = r2 ∧ CR (m1 g) (m2 4 45)
  rw [← ec] at q3 q5 q7
  have es : ∀ k, 0 ≤ k → k < m g 12 t → n' 4 45 (295 + 6 * t + k) = m g 13 (t * 6 + k) := fun k k0 k1 => (h.1.2.1 t k h0 h1 k0 k1).1.symm
  have huv : u = v := by
    rcases Int.lt_trichotomy u v with c | c | c
    · have e1 := p4 u q2 c
      have e2 := q5 (by omega)
      rw [es u q2 (by omega)] at e2
      omega
    · exact c
    · have e1 := q4 v p2 c
      have e2 := p5 (by omega)
      rw [es v p2 (by omega)] at e1
      omega
  subst huv
  have hS' : CS (m1 g 15) (m1 g 16) (n' 4 45) := by
    rw [p6 g 15 (by omega), p6 g 16 (by omega)]
    exact h.2.1
  have hP' : CP (m1 g 11 7) (m1 g 17) (m1 g 18) (n' 4 45) := by
    rw [p6 g 11 (by omega), p6 g 17 (by omega), p6 g 18 (by omega)]
    exact h.2.2
  have hd : ∀ k : Int, 0 ≤ k → k < m1 g 11 7 → 0 ≤ m1 g 17 k ∧ m1 g 17 k ≤ 364 := by
    rw [p6 g 11 (by omega), p6 g 17 (by omega)]
    exact hb.d
  rcases p7 with ⟨a1, a2, a3, a4, a5, a6⟩ | ⟨a1, a2, a3, a4⟩ | ⟨a1, a2, a3, a4, a5, a6⟩
  · have b9 : u < m g 12 t ∧ n' 4 45 (295 + 6 * t + u) = s := ⟨a1, by rw [es u p2 a1]; exact a2⟩
    rcases q7 with ⟨b1, b2, b3, b4⟩ | ⟨b1, _⟩ | ⟨b1, _⟩
    · refine ⟨by rw [a3, b3], ?_, ?_, ?_⟩
      · rw [a4, a5, a6, b4]
        refine CT.w (h.1.again hb.n6 h0 h1 p2 a1 (x := x)) hb.n6 (fun i i0 i1 => ?_)
        rw [a2]
        by_cases e : i = 287 + t
        · rw [e, fu_s, fu_i _ _ (by omega), fu_i _ _ (by omega)]
          exact ec
        · rw [fu_i _ _ e]
      · rw [b4]
        exact hS'.w (fun i i0 i1 => by rw [fu_i _ _ (by omega), fu_i _ _ (by omega), fu_i _ _ (by omega)])
      · rw [b4]
        exact hP'.w hd (fun i i0 i1 => by rw [fu_i _ _ (by omega), fu_i _ _ (by omega), fu_i _ _ (by omega)])
    · exact absurd b9 b1
    · exact absurd b9 b1
  · rcases q7 with ⟨b1, b2, _⟩ | ⟨b1, b2, b3, b4⟩ | ⟨b1, b2, _⟩
    · exact absurd ⟨b1, by rw [← es u p2 b1]; exact b2⟩ a1
    · subst a4 b4
      exact ⟨by rw [a3, b3], h⟩
    · omega
  · rcases q7 with ⟨b1, b2, _⟩ | ⟨b1, b2, _⟩ | ⟨b1, b2, b3, b4⟩
    · exact absurd ⟨b1, by rw [← es u p2 b1]; exact b2⟩ a1
    · omega
    · have hw : ∀ i, 295 ≤ i → i < 391 → shW n' (6 * t) u (m g 12 t) 4 45 i = if (295 + 6 * t + u < i ∧ i ≤ 295 + 6 * t + m g 12 t) ∨ (343 + 6 * t + u < i ∧ i ≤ 343 + 6 * t + m g 12 t) then n' 4 45 (i - 1) else n' 4 45 i := fun i _ _ => by
        unfold shW
        simp only [true_and]
      have ho : ∀ i, ¬ (295 ≤ i ∧ i < 391) → i ≠ 287 + t → m2 4 45 i = n' 4 45 i := fun i i0 i1 => by
        rw [b4, fu_i _ _ i1, fu_i _ _ (by omega), fu_i _ _ (by omega)]
        unfold shW
        rw [if_neg (by omega)]
      refine ⟨by rw [a3, b3], ?_, ?_, ?_⟩
      · refine h.1.new hb.1 h0 h1 p2 p3 a2 p4 (fun c => ?_) a4 a5 a6 (fun t' t0 t1 => ?_) (fun k k0 k1 => ?_) (fun k k0 k1 => ?_) (fun i i0 i1 i2 i3 => ?_) (x := x)
        · have e1 := p5 c
          have e2 : m g 13 (t * 6 + u) ≠ s := fun e => a1 ⟨c, e⟩
          omega
        · by_cases e : t' = t
          · rw [e, b4, fu_s, fu_s]
          · rw [ho _ (by omega) (by omega), fu_i _ _ e]
            exact (h.1.1 t' t0 t1).symm
        · rw [b4, fu_i _ _ (by omega), fu_i _ _ (by omega)]
          by_cases e : k = u
          · rw [e, fu_s, if_pos rfl]
          · rw [fu_i _ _ (by omega), hw _ (by omega) (by omega), if_neg e]
            by_cases e2 : u < k ∧ k ≤ m g 12 t
            · rw [if_pos (by omega), if_pos e2]
            · rw [if_neg (by omega), if_neg e2]
        · rw [b4, fu_i _ _ (by omega)]
          by_cases e : k = u
          · rw [e, fu_s, if_pos rfl]
          · rw [fu_i _ _ (by omega), fu_i _ _ (by omega), hw _ (by omega) (by omega), if_neg e]
            by_cases e2 : u < k ∧ k ≤ m g 12 t
            · rw [if_pos (by omega), if_pos e2]
            · rw [if_neg (by omega), if_neg e2]
        · rw [b4, fu_i _ _ (by omega), fu_i _ _ (by omega), fu_i _ _ (by omega), hw _ i0 i1, if_neg (by omega)]
      · exact hS'.w (fun i i0 i1 => ho i (by omega) (by omega))
      · exact hP'.w hd (fun i i0 i1 => ho i (by omega) (by omega))
end
section
/-! SPECIAL days told, seconds that a TARIFF holds, NEXT. -/
theorem sps_loop {m : zM} : ∀ (n j : Nat), j ≤ 365 → 365 - j < n → fl249_4_1 (fun y => y) m n (spN (m 4 45) j) j = spN (m 4 45) 365 := by
  intro n
  induction n with
  | zero =>
    intro j h0 h1
    omega
  | succ n ih =>
    intro j h0 h1
    show fl249_4_1_b (fl249_4_1 (fun y => y) m n) (fun y => y) m (spN (m 4 45) j) j = _
    unfold fl249_4_1_b
    by_cases c : (365 : Int) ≤ j
    · rw [if_pos c, show j = 365 by omega]
    · rw [if_neg c]
      simp only [zn]
      have e := ih (j + 1) (by omega) (by omega)
      rw [show spN (m 4 45) (j + 1) = spN (m 4 45) j + if m 4 45 (423 + (j : Int)) = -1 then 0 else 1 from rfl] at e
      exact e
theorem sps_eq (m : zM) : f249_1 m = spN (m 4 45) 365 := sps_loop (zfu 366) 0 (by omega) (by rw [zfu_eq]; decide)
theorem spput_eq {m n' : zM} {g : Nat} (h : CR (m g) (n' 4 45)) (hb : CB (m g)) {d t : Int} (h0 : 0 ≤ d) (h1 : d < 365) (t0 : 0 ≤ t) :
    (n' 4 45 (423 + d) = -1 → m g 11 7 = 16 → f109_1 g d t m = (0, m)) ∧
    (¬ (n' 4 45 (423 + d) = -1 ∧ m g 11 7 = 16) → (f109_1 g d t m).1 = 1 ∧ CR ((f109_1 g d t m).2 g) (fu (n' 4 45) (423 + d) t)) := by
  have hb2 := hb.2.1
  unfold f109_1
  simp only [zn, zs]
  rcases h.sp hb h0 h1 with ⟨e1, e2, e3⟩ | ⟨e1, e2, e3, e4, e5⟩
  · rw [if_pos e1]
    by_cases c : m g 11 7 < 16
    · rw [if_pos c]
      refine ⟨fun _ e => by omega, fun _ => ⟨rfl, ?_, ?_, ?_⟩⟩
      · dsimp only
        rw [zu_k _ _ _ (by decide), zu_k _ _ _ (by decide), zu_k _ _ _ (by decide), zu_k _ _ _ (by decide), zu_k _ _ _ (by decide), zu_k _ _ _ (by decide), zu_k _ _ _ (by decide), zu_k _ _ _ (by decide), zu_k _ _ _ (by decide)]
        exact h.1.w hb.n6 (fun i i0 i1 => fu_i _ _ (by omega))
      · dsimp only
        rw [zu_k _ _ _ (by decide), zu_k _ _ _ (by decide), zu_k _ _ _ (by decide), zu_k _ _ _ (by decide), zu_k _ _ _ (by decide), zu_k _ _ _ (by decide)]
        exact h.2.1.w (fun i i0 i1 => fu_i _ _ (by omega))
      · dsimp only
        rw [zu_row, zu_k _ _ _ (show (18 : Nat) ≠ 17 by decide), zu_k _ _ _ (show (18 : Nat) ≠ 11 by decide), zu_k _ _ _ (show (17 : Nat) ≠ 18 by decide), zu_row, zu_k _ _ _ (show (17 : Nat) ≠ 11 by decide), zu_k _ _ _ (show (11 : Nat) ≠ 18 by decide), zu_k _ _ _ (show (11 : Nat) ≠ 17 by decide), z_upd_same]
        exact h.2.2.new hb.d hb2.1 h0 h1 e3 e2 (by omega)
    · rw [if_neg c]
      exact ⟨fun _ _ => rfl, fun e => absurd ⟨e2, by omega⟩ e⟩
  · rw [if_neg (by omega)]
    refine ⟨fun e => absurd e e5, fun _ => ⟨rfl, ?_, ?_, ?_⟩⟩
    · dsimp only
      rw [zu_k _ _ _ (by decide), zu_k _ _ _ (by decide), zu_k _ _ _ (by decide), zu_k _ _ _ (by decide), zu_k _ _ _ (by decide), zu_k _ _ _ (by decide)]
      exact h.1.w hb.n6 (fun i i0 i1 => fu_i _ _ (by omega))
    · dsimp only
      rw [zu_k _ _ _ (by decide), zu_k _ _ _ (by decide), zu_k _ _ _ (by decide), zu_k _ _ _ (by decide)]
      exact h.2.1.w (fun i i0 i1 => fu_i _ _ (by omega))
    · dsimp only
      rw [zu_row, zu_k _ _ _ (show (18 : Nat) ≠ 17 by decide), zu_k _ _ _ (show (17 : Nat) ≠ 18 by decide), zu_row, zu_k _ _ _ (show (11 : Nat) ≠ 18 by decide), zu_k _ _ _ (show (11 : Nat) ≠ 17 by decide)]
      have e6 := h.2.2.again e1 e2 (x := t) (by omega) (by omega) (by rw [e3]; exact e5) (by omega)
      rw [e3] at e6
      exact e6
theorem spdrop_eq {m n' : zM} {g : Nat} (h : CR (m g) (n' 4 45)) (hb : CB (m g)) {d : Int} (h0 : 0 ≤ d) (h1 : d < 365) :
    (n' 4 45 (423 + d) = -1 → f126_1 g d m = (0, m)) ∧ (¬ n' 4 45 (423 + d) = -1 → (f126_1 g d m).1 = 1 ∧ CR ((f126_1 g d m).2 g) (fu (n' 4 45) (423 + d) (-1))) := by
  have hb2 := hb.2.1
  unfold f126_1
  simp only [zn, zs]
  rcases h.sp hb h0 h1 with ⟨e1, e2, e3⟩ | ⟨e1, e2, e3, e4, e5⟩
  · rw [if_pos e1]
    exact ⟨fun _ => rfl, fun e => absurd e2 e⟩
  · rw [if_neg (by omega)]
    refine ⟨fun e => absurd e e5, fun _ => ⟨rfl, ?_, ?_, ?_⟩⟩
    · dsimp only
      rw [zu_k _ _ _ (by decide), zu_k _ _ _ (by decide), zu_k _ _ _ (by decide), zu_k _ _ _ (by decide), zu_k _ _ _ (by decide), zu_k _ _ _ (by decide), zu_k _ _ _ (by decide), zu_k _ _ _ (by decide), zu_k _ _ _ (by decide)]
      exact h.1.w hb.n6 (fun i i0 i1 => fu_i _ _ (by omega))
    · dsimp only
      rw [zu_k _ _ _ (by decide), zu_k _ _ _ (by decide), zu_k _ _ _ (by decide), zu_k _ _ _ (by decide), zu_k _ _ _ (by decide), zu_k _ _ _ (by decide)]
      exact h.2.1.w (fun i i0 i1 => fu_i _ _ (by omega))
    · have e6 := h.2.2.drop hb.d e1 e2 (by rw [e3]; exact e5)
      rw [e3] at e6
      simp only [zu_row, zu_k _ _ _ (show (18 : Nat) ≠ 17 by decide), zu_k _ _ _ (show (18 : Nat) ≠ 11 by decide), zu_k _ _ _ (show (17 : Nat) ≠ 18 by decide), zu_k _ _ _ (show (17 : Nat) ≠ 11 by decide), zu_k _ _ _ (show (11 : Nat) ≠ 18 by decide), zu_k _ _ _ (show (11 : Nat) ≠ 17 by decide), fu_s]
      exact e6
/-! seconds that a TARIFF holds -/
theorem held_loop {m n' : zM} {g : Nat} {t a : Int} (h : CR (m g) (n' 4 45)) (hb : CB (m g)) (t0 : 0 ≤ t) (t1 : t < 8) : ∀ (n n2 : Nat) (k sum since hold : Int), 0 ≤ k → k ≤ m g 12 t → m g 12 t - k < n → m g 12 t - k + 1 < n2 → 0 ≤ sum → sum ≤ since → since ≤ 86399 → (k < m g 12 t → since ≤ m g 13 (t * 6 + k)) →
    fl194_17_1 (fun y1 y2 y3 => zn (if y3 = a then zn (w32 (y1 + 86400)) fun z => zn (w32 (z - y2)) fun z => z else y1) fun v => v) g t a (t * 6) m n sum since hold (t * 6 + k) = fl253_52_1 (fun y => y) a t (n' 4 45 (287 + t)) n' n2 sum hold since k := by
  have ec := h.1.1 t t0 t1
  have hc := hb.1 t t0 t1
  rw [← ec]
  intro n
  induction n with
  | zero =>
    intro n2 k sum since hold k0 k1 k2
    omega
  | succ n ih =>
    intro n2 k sum since hold k0 k1 k2 k3 s0 s1 s2 s3
    obtain ⟨n2, rfl⟩ : ∃ j, n2 = j + 1 := ⟨n2 - 1, by omega⟩
    show fl194_17_1_b (fl194_17_1 _ g t a (t * 6) m n) _ g t a (t * 6) m sum since hold (t * 6 + k) = fl253_52_1_b (fl253_52_1 (fun y => y) a t (m g 12 t) n' n2) (fun y => y) a t (m g 12 t) n' sum hold since k
    unfold fl194_17_1_b fl253_52_1_b
    rw [if_neg (show ¬ m g 12 t < k by omega)]
    simp only [zn]
    by_cases c : k < m g 12 t
    · obtain ⟨e1, e2⟩ := h.1.2.1 t k t0 t1 k0 c
      have e3 := hb.2.2.2.2.1 (t * 6 + k) (by omega) (by omega)
      have e4 := s3 c
      rw [if_neg (show ¬ t * 6 + m g 12 t ≤ t * 6 + k by omega), if_neg (show ¬ m g 12 t ≤ k by omega), if_neg (show ¬ m g 12 t ≤ k by omega), ← e1, ← e2]
      have e5 : (if hold = a then w32 (sum + (m g 13 (t * 6 + k) - since)) else sum) = w32 (sum + if hold = a then m g 13 (t * 6 + k) - since else 0) := by
        by_cases c2 : hold = a
        · rw [if_pos c2, if_pos c2]
        · rw [if_neg c2, if_neg c2, w32_id (by omega)]
          omega
      have e6 : w32 (sum + if hold = a then m g 13 (t * 6 + k) - since else 0) = sum + if hold = a then m g 13 (t * 6 + k) - since else 0 := by
        apply w32_id
        split <;> omega
      rw [e5, e6, show t * 6 + k + 1 = t * 6 + (k + 1) by omega]
      refine ih n2 (k + 1) _ _ _ (by omega) (by omega) (by omega) (by omega) ?_ ?_ e3.2 (fun c3 => ?_)
      · split <;> omega
      · split <;> omega
      · have := h.1.2.2 t k t0 t1 k0 c3
        rw [show t * 6 + (k + 1) = t * 6 + k + 1 by omega]
        omega
    · obtain ⟨n2, rfl⟩ : ∃ j, n2 = j + 1 := ⟨n2 - 1, by omega⟩
      rw [if_pos (show t * 6 + m g 12 t ≤ t * 6 + k by omega), if_pos (show m g 12 t ≤ k by omega), if_pos (show m g 12 t ≤ k by omega)]
      show _ = fl253_52_1_b (fl253_52_1 (fun y => y) a t (m g 12 t) n' n2) (fun y => y) a t (m g 12 t) n' _ _ _ (k + 1)
      unfold fl253_52_1_b
      rw [if_pos (show m g 12 t < k + 1 by omega)]
      by_cases c2 : hold = a
      · rw [if_pos c2, if_pos c2, w32_id (x := sum + 86400) (by omega)]
        congr 1
        omega
      · rw [if_neg c2, if_neg c2, w32_id (by omega)]
        show sum = sum + 0
        omega
theorem held_eq {m n' : zM} {g : Nat} {t a : Int} (h : CR (m g) (n' 4 45)) (hb : CB (m g)) (t0 : 0 ≤ t) (t1 : t < 8) : f194_1 g t a m = fl253_52_1 (fun y => y) a t (n' 4 45 (287 + t)) n' (zfu 8) 0 0 0 0 := by
  have hc := hb.1 t t0 t1
  have e := held_loop h hb t0 t1 (a := a) (zfu 49) (zfu 8) 0 0 0 0 (by omega) (by omega) (by rw [zfu_eq]; omega) (by rw [zfu_eq]; omega) (by omega) (by omega) (by omega) (fun c => (hb.2.2.2.2.1 (t * 6 + 0) (by omega) (by omega)).1)
  rw [← e, Int.add_zero]
  rfl
/-! NEXT -/
/-- switchesBefore is the one number that it can be -/
theorem sb_uni {m n' : zM} {g : Nat} {t s v : Int} (h : CR (m g) (n' 4 45)) (hb : CB (m g)) (t0 : 0 ≤ t) (t1 : t < 8) (v0 : 0 ≤ v) (v1 : v ≤ m g 12 t) (v2 : ∀ k, 0 ≤ k → k < v → m g 13 (t * 6 + k) < s) (v3 : v < m g 12 t → s ≤ m g 13 (t * 6 + v)) : f32_1 g t s m = v := by
  obtain ⟨u, e1, e2, e3, e4, e5⟩ := sb_spec m g t s (hb.1 t t0 t1)
  rw [e1]
  rcases Int.lt_trichotomy u v with c | c | c
  · have g1 := v2 u e2 c
    have g2 := e5 (by omega)
    omega
  · exact c
  · have g1 := e4 v v0 c
    have g2 := v3 (by omega)
    omega
/-- the TARIFF doesn't change until heldUntil -/
theorem held_const {m n' : zM} {g : Nat} (h : CR (m g) (n' 4 45)) (hb : CB (m g)) {x s : Int} (x0 : 0 ≤ x) (hs : x ≤ s) (hs2 : s < f37_1 g x m) : f27_1 g s m = f27_1 g x m := by
  unfold f37_1 at hs2
  simp only [zn] at hs2
  obtain ⟨e1, e2, e3⟩ := tb_eq h hb (d := x / 86400) (by omega)
  rw [← e1] at e2 e3
  obtain ⟨v, q1, q2, q3, q4, q5⟩ := sb_spec m g (f28_1 g (x / 86400) m) (x % 86400 + 1) (hb.1 _ e2 e3)
  rw [q1] at hs2
  have hd : s / 86400 = x / 86400 := by
    by_cases c : m g 12 (f28_1 g (x / 86400) m) ≤ v
    · rw [if_pos c] at hs2
      omega
    · rw [if_neg c] at hs2
      have := hb.1 _ e2 e3
      have := hb.2.2.2.2.1 (f28_1 g (x / 86400) m * 6 + v) (by omega) (by omega)
      omega
  have e4 : f32_1 g (f28_1 g (x / 86400) m) (s % 86400 + 1) m = v := by
    refine sb_uni h hb e2 e3 q2 q3 (fun k k0 k1 => ?_) (fun c => ?_)
    · have := q4 k k0 k1
      omega
    · rw [if_neg (by omega)] at hs2
      omega
  unfold f27_1 f31_1
  simp only [zn]
  rw [hd, e4, q1]
/-- the same on both sides: no change of the TARIFF behind a, ahead of b -/
def NC (n' : zM) (a b : Int) : Prop := ∀ s, a < s → s < b → f217_1 s n' = f217_1 (s - 1) n'
/-- what NEXT answers -/
def NX (n' : zM) (x last r : Int) : Prop := (r = -1 ∧ NC n' x (last + 1)) ∨ (x < r ∧ r ≤ last ∧ f217_1 r n' ≠ f217_1 (r - 1) n' ∧ NC n' x r)
theorem NX.uni {n' : zM} {x last r r' : Int} (hx : 0 ≤ x) (h : NX n' x last r) (h' : NX n' x last r') : r = r' := by
  rcases h with ⟨e1, e2⟩ | ⟨e1, e2, e3, e4⟩
  · rcases h' with ⟨d1, d2⟩ | ⟨d1, d2, d3, d4⟩
    · omega
    · exact absurd (e2 r' d1 (by omega)) d3
  · rcases h' with ⟨d1, d2⟩ | ⟨d1, d2, d3, d4⟩
    · exact absurd (d2 r e1 (by omega)) e3
    · rcases Int.lt_trichotomy r r' with c | c | c
      · exact absurd (d4 r e1 c) e3
      · exact c
      · exact absurd (e4 r' d1 c) d3
/-- which piece of the days a TIME lies in -/
noncomputable def pc (m : zM) (g : Nat) (x0 y : Int) : Int := 7 * (y / 86400 - x0 / 86400) + f32_1 g (f28_1 g (y / 86400) m) (y % 86400 + 1) m
theorem held_next {m n' : zM} {g : Nat} (h : CR (m g) (n' 4 45)) (hb : CB (m g)) {x : Int} (h0 : 0 ≤ x) (x0 : Int) : x < f37_1 g x m ∧ pc m g x0 x + 1 ≤ pc m g x0 (f37_1 g x m) ∧ f37_1 g x m ≤ x + 86400 := by
  obtain ⟨e1, e2, e3⟩ := tb_eq h hb (d := x / 86400) (by omega)
  rw [← e1] at e2 e3
  have hc := hb.1 _ e2 e3
  obtain ⟨v, q1, q2, q3, q4, q5⟩ := sb_spec m g (f28_1 g (x / 86400) m) (x % 86400 + 1) hc
  have hy : f37_1 g x m = x / 86400 * 86400 + if m g 12 (f28_1 g (x / 86400) m) ≤ v then 86400 else m g 13 (f28_1 g (x / 86400) m * 6 + v) := by
    unfold f37_1
    simp only [zn]
    rw [q1]
  rw [hy]
  unfold pc
  rw [q1]
  by_cases c : m g 12 (f28_1 g (x / 86400) m) ≤ v
  · rw [if_pos c]
    have e4 : (x / 86400 * 86400 + 86400) / 86400 = x / 86400 + 1 := by omega
    rw [e4]
    obtain ⟨e5, e6, e7⟩ := tb_eq h hb (d := x / 86400 + 1) (by omega)
    rw [← e5] at e6 e7
    obtain ⟨u, u1, u2, _⟩ := sb_spec m g (f28_1 g (x / 86400 + 1) m) ((x / 86400 * 86400 + 86400) % 86400 + 1) (hb.1 _ e6 e7)
    rw [u1]
    omega
  · rw [if_neg c]
    have e8 := hb.2.2.2.2.1 (f28_1 g (x / 86400) m * 6 + v) (by omega) (by omega)
    have e9 := q5 (by omega)
    have e4 : (x / 86400 * 86400 + m g 13 (f28_1 g (x / 86400) m * 6 + v)) / 86400 = x / 86400 := by omega
    have e10 : (x / 86400 * 86400 + m g 13 (f28_1 g (x / 86400) m * 6 + v)) % 86400 = m g 13 (f28_1 g (x / 86400) m * 6 + v) := by omega
    rw [e4, e10]
    obtain ⟨u, u1, u2, u3, u4, u5⟩ := sb_spec m g (f28_1 g (x / 86400) m) (m g 13 (f28_1 g (x / 86400) m * 6 + v) + 1) hc
    rw [u1]
    have e11 : v < u := by
      by_cases c2 : v < u
      · exact c2
      · exfalso
        have e12 := u5 (by omega)
        have e13 := CR.mono h (t := f28_1 g (x / 86400) m) e2 e3
        have e14 : ∀ (n : Nat) (j k : Int), 0 ≤ j → k = j + n → k < m g 12 (f28_1 g (x / 86400) m) → m g 13 (f28_1 g (x / 86400) m * 6 + j) ≤ m g 13 (f28_1 g (x / 86400) m * 6 + k) := e13
        have := e14 (v - u).toNat u v u2 (by omega) (by omega)
        omega
    omega
theorem pc_le {m n' : zM} {g : Nat} (h : CR (m g) (n' 4 45)) (hb : CB (m g)) {x0 y : Int} (h0 : 0 ≤ y) : pc m g x0 y ≤ 7 * (y / 86400 - x0 / 86400) + 6 := by
  obtain ⟨e1, e2, e3⟩ := tb_eq h hb (d := y / 86400) (by omega)
  rw [← e1] at e2 e3
  have hc := hb.1 _ e2 e3
  obtain ⟨v, q1, q2, q3, _⟩ := sb_spec m g (f28_1 g (y / 86400) m) (y % 86400 + 1) hc
  unfold pc
  rw [q1]
  omega
theorem next_cls {m n' : zM} {g : Nat} (h : CR (m g) (n' 4 45)) (hb : CB (m g)) {x last : Int} (x0 : 0 ≤ x) (hl : last < (x / 86400 + 15) * 86400) (hl2 : x ≤ last) : ∀ (n : Nat) (y k : Int), 0 ≤ k → k ≤ 105 → 105 - k < n → x < y → (∀ s, x ≤ s → s < y → f27_1 g s m = f27_1 g x m) → k ≤ pc m g x y →
    NX n' x last (fl153_36_1 (fun y _ => y) (-1) g last (f27_1 g x m) m n y k) := by
  have key : ∀ y, (∀ s, x ≤ s → s < y → f27_1 g s m = f27_1 g x m) → NC n' x y := fun y hy s s0 s1 => by
    rw [← tf_eq h hb (by omega), ← tf_eq h hb (by omega), hy s (by omega) s1, hy (s - 1) (by omega) (by omega)]
  intro n
  induction n with
  | zero =>
    intro y k k0 k1 k2
    omega
  | succ n ih =>
    intro y k k0 k1 k2 hxy hy hk
    show NX n' x last (fl153_36_1_b (fl153_36_1 (fun y _ => y) (-1) g last (f27_1 g x m) m n) (fun y _ => y) (-1) g last (f27_1 g x m) m y k)
    unfold fl153_36_1_b
    by_cases c : last < y
    · have e : NX n' x last (-1) := .inl ⟨rfl, fun s s0 s1 => key y hy s s0 (by omega)⟩
      by_cases c1 : 105 ≤ k
      · rw [if_pos c1]
        exact e
      · rw [if_neg c1, if_pos c]
        exact e
    · have hp := pc_le h hb (x0 := x) (y := y) (by omega)
      rw [if_neg (by omega), if_neg c]
      simp only [zn]
      by_cases c2 : f27_1 g y m = f27_1 g x m
      · rw [if_pos c2]
        obtain ⟨g1, g2, g3⟩ := held_next h hb (x := y) (by omega) x
        refine ih _ (k + 1) (by omega) (by omega) (by omega) (by omega) (fun s s0 s1 => ?_) (by omega)
        by_cases c3 : s < y
        · exact hy s s0 c3
        · rw [held_const h hb (x := y) (by omega) (by omega) s1]
          exact c2
      · rw [if_neg c2]
        refine .inr ⟨hxy, by omega, ?_, key y hy⟩
        rw [← tf_eq h hb (by omega), ← tf_eq h hb (by omega), hy (y - 1) (by omega) (by omega)]
        exact c2
/-- where the k-th candidate of a day stands -/
def cd (m : zM) (g : Nat) (t d k : Int) : Int := d * 86400 + if k < 0 then 0 else if k < m g 12 t then m g 13 (t * 6 + k) else 86400
/-- between two candidates nothing changes -/
theorem cd_const {m n' : zM} {g : Nat} (h : CR (m g) (n' 4 45)) (hb : CB (m g)) {d k s : Int} (d0 : 0 ≤ d) (k0 : -1 ≤ k) (k1 : k < m g 12 (f28_1 g d m)) (s0 : cd m g (f28_1 g d m) d k ≤ s) (s1 : s < cd m g (f28_1 g d m) d (k + 1)) : f27_1 g s m = if k < 0 then 0 else m g 14 (f28_1 g d m * 6 + k) := by
  obtain ⟨e1, e2, e3⟩ := tb_eq h hb (d := d) d0
  rw [← e1] at e2 e3
  have hc := hb.1 _ e2 e3
  have hs : ∀ i, 0 ≤ i → i < m g 12 (f28_1 g d m) → 0 ≤ m g 13 (f28_1 g d m * 6 + i) ∧ m g 13 (f28_1 g d m * 6 + i) ≤ 86399 := fun i i0 i1 => hb.2.2.2.2.1 _ (by omega) (by omega)
  unfold cd at s0 s1
  rw [if_neg (show ¬ k + 1 < 0 by omega)] at s1
  have h2 : d * 86400 ≤ s ∧ s < d * 86400 + 86400 := by
    refine ⟨?_, ?_⟩
    · by_cases c : k < 0
      · rw [if_pos c] at s0
        omega
      · rw [if_neg c, if_pos k1] at s0
        have := hs k (by omega) k1
        omega
    · by_cases c : k + 1 < m g 12 (f28_1 g d m)
      · rw [if_pos c] at s1
        have := hs (k + 1) (by omega) c
        omega
      · rw [if_neg c] at s1
        omega
  have hd : s / 86400 = d := by omega
  have e4 : f32_1 g (f28_1 g d m) (s % 86400 + 1) m = k + 1 := by
    refine sb_uni h hb e2 e3 (by omega) (by omega) (fun j j0 j1 => ?_) (fun c => ?_)
    · rw [if_neg (show ¬ k < 0 by omega), if_pos k1] at s0
      have := CR.mono h (t := f28_1 g d m) e2 e3 (k - j).toNat j k j0 (by omega) k1
      omega
    · rw [if_pos c] at s1
      omega
  unfold f27_1 f31_1
  simp only [zn]
  rw [hd, e4]
  by_cases c : k < 0
  · rw [if_pos c, if_pos (by omega)]
  · rw [if_neg c, if_neg (by omega), show f28_1 g d m * 6 + (k + 1) - 1 = f28_1 g d m * 6 + k by omega]
theorem next_in {m n' : zM} {g : Nat} (h : CR (m g) (n' 4 45)) (hb : CB (m g)) {x last d y1 r0 : Int} (x0 : 0 ≤ x) (hx : n' 4 45 0 = x) (d0 : 0 ≤ d) (hl : last = min ((x / 86400 + 15) * 86400 - 1) 2000000000) (hd : d ≤ x / 86400 + 14)
    (hr : NC n' x (min ((d + 1) * 86400) (last + 1)) → NX n' x last r0) : ∀ (n : Nat) (k : Int), -1 ≤ k → k ≤ m g 12 (f28_1 g d m) → m g 12 (f28_1 g d m) - k < n → NC n' x (min (cd m g (f28_1 g d m) d k) (last + 1)) →
    NX n' x last (fl255_45_1 (fun _ t => t) r0 y1 d (f28_1 g d m) n' n k) := by
  obtain ⟨e1, e2, e3⟩ := tb_eq h hb (d := d) d0
  rw [← e1] at e2 e3
  have hc := hb.1 _ e2 e3
  have ec := h.1.1 _ e2 e3
  intro n
  induction n with
  | zero =>
    intro k k0 k1 k2
    omega
  | succ n ih =>
    intro k k0 k1 k2 hN
    show NX n' x last (fl255_45_1_b (fl255_45_1 (fun _ t => t) r0 y1 d (f28_1 g d m) n' n) (fun _ t => t) r0 y1 d (f28_1 g d m) n' k)
    unfold fl255_45_1_b
    rw [← ec]
    by_cases c : k < m g 12 (f28_1 g d m)
    · rw [if_pos c]
      simp only [zn]
      have et : d * 86400 + (if 0 ≤ k then n' 4 45 (295 + 6 * f28_1 g d m + k) else 0) = cd m g (f28_1 g d m) d k := by
        unfold cd
        by_cases c2 : 0 ≤ k
        · rw [if_pos c2, if_neg (by omega), if_pos c, (h.1.2.1 _ k e2 e3 c2 c).1]
        · rw [if_neg c2, if_pos (by omega)]
      rw [et, hx]
      have hnext : (x < cd m g (f28_1 g d m) d k → cd m g (f28_1 g d m) d k ≤ last → f217_1 (cd m g (f28_1 g d m) d k) n' = f217_1 (cd m g (f28_1 g d m) d k - 1) n') → NC n' x (min (cd m g (f28_1 g d m) d (k + 1)) (last + 1)) := by
        intro hq s s0 s1
        rcases Int.lt_trichotomy s (cd m g (f28_1 g d m) d k) with c3 | c3 | c3
        · exact hN s s0 (by omega)
        · rw [c3]
          exact hq (by omega) (by omega)
        · rw [← tf_eq h hb (by omega), ← tf_eq h hb (by omega), cd_const h hb d0 k0 c (by omega) (by omega), cd_const h hb d0 k0 c (by omega) (by omega)]
      have hle : cd m g (f28_1 g d m) d k < (d + 1) * 86400 := by
        unfold cd
        by_cases c2 : k < 0
        · rw [if_pos c2]
          omega
        · rw [if_neg c2, if_pos c]
          have := hb.2.2.2.2.1 (f28_1 g d m * 6 + k) (by omega) (by omega)
          omega
      by_cases c3 : cd m g (f28_1 g d m) d k ≤ x
      · rw [if_pos c3]
        exact ih (k + 1) (by omega) (by omega) (by omega) (hnext (fun _ _ => by omega))
      · rw [if_neg c3]
        by_cases c4 : cd m g (f28_1 g d m) d k ≤ 2000000000
        · rw [if_pos c4]
          by_cases c5 : f217_1 (cd m g (f28_1 g d m) d k) n' = f217_1 (cd m g (f28_1 g d m) d k - 1) n'
          · rw [if_pos c5]
            exact ih (k + 1) (by omega) (by omega) (by omega) (hnext (fun _ _ => c5))
          · rw [if_neg c5]
            exact .inr ⟨by omega, by omega, c5, fun s s0 s1 => hN s s0 (by omega)⟩
        · rw [if_neg c4]
          exact ih (k + 1) (by omega) (by omega) (by omega) (hnext (fun _ _ => by omega))
    · rw [if_neg c]
      apply hr
      intro s s0 s1
      refine hN s s0 ?_
      unfold cd
      rw [if_neg (by omega), if_neg c]
      omega
theorem next_out {m n' : zM} {g : Nat} (h : CR (m g) (n' 4 45)) (hb : CB (m g)) {x last : Int} (x0 : 0 ≤ x) (hx : n' 4 45 0 = x) (hl : last = min ((x / 86400 + 15) * 86400 - 1) 2000000000) : ∀ (n : Nat) (d : Int), 0 ≤ d → d ≤ x / 86400 + 15 → x / 86400 + 15 - d < n → NC n' x (min (d * 86400) (last + 1)) →
    NX n' x last (fl255_13_1 (fun _ => -1) (fun _ _ _ t => t) (-1) (x / 86400) n' n d) := by
  intro n
  induction n with
  | zero =>
    intro d d0 d1 d2
    omega
  | succ n ih =>
    intro d d0 d1 d2 hN
    show NX n' x last (fl255_13_1_b (fl255_13_1 (fun _ => -1) (fun _ _ _ t => t) (-1) (x / 86400) n' n) (fun _ => -1) (fun _ _ _ t => t) (-1) (x / 86400) n' d)
    unfold fl255_13_1_b
    by_cases c : x / 86400 + 14 < d
    · rw [if_pos c]
      exact .inl ⟨rfl, fun s s0 s1 => hN s s0 (by omega)⟩
    · rw [if_neg c]
      by_cases c2 : d * 86400 ≤ 2000000000
      · rw [if_pos c2]
        simp only [zn]
        obtain ⟨e1, e2, e3⟩ := tb_eq h hb (d := d) d0
        rw [← e1] at e2 e3 ⊢
        have hc := hb.1 _ e2 e3
        refine next_in h hb x0 hx d0 hl (by omega) (fun hN2 => ih (d + 1) (by omega) (by omega) (by omega) hN2) (zfu 8) (-1) (by omega) (by omega) (by rw [zfu_eq]; omega) ?_
        intro s s0 s1
        refine hN s s0 ?_
        unfold cd at s1
        rw [if_pos (by decide)] at s1
        omega
      · rw [if_neg c2]
        exact .inl ⟨rfl, fun s s0 s1 => hN s s0 (by omega)⟩
/-- NEXT's TIME -/
theorem next_eq {m n' : zM} {g : Nat} (h : CR (m g) (n' 4 45)) (hb : CB (m g)) {x : Int} (x0 : 0 ≤ x) (x1 : x ≤ 2000000000) (hx : n' 4 45 0 = x) : f153_1 g x m = f255_1 n' := by
  refine NX.uni x0 (last := min ((x / 86400 + 15) * 86400 - 1) 2000000000) (n' := n') (x := x) ?_ ?_
  · unfold f153_1
    simp only [zn]
    obtain ⟨g1, g2, g3⟩ := held_next h hb x0 x
    have e : min ((x / 86400 + 14 + 1) * 86400 - 1) 2000000000 = min ((x / 86400 + 15) * 86400 - 1) 2000000000 := by
      rw [show x / 86400 + 14 + 1 = x / 86400 + 15 by omega]
    rw [e]
    refine next_cls h hb x0 (by omega) (by omega) (zfu 106) _ 0 (by omega) (by omega) (by rw [zfu_eq]; omega) g1 (fun s s0 s1 => held_const h hb x0 s0 s1) ?_
    obtain ⟨e1, e2, e3⟩ := tb_eq h hb (d := x / 86400) (by omega)
    rw [← e1] at e2 e3
    obtain ⟨u, u1, u2, _⟩ := sb_spec m g (f28_1 g (x / 86400) m) (x % 86400 + 1) (hb.1 _ e2 e3)
    have : 0 ≤ pc m g x x := by
      unfold pc
      rw [u1]
      omega
    omega
  · unfold f255_1
    rw [hx]
    refine next_out h hb x0 hx rfl (zfu 23164) (x / 86400) (by omega) (by omega) (by rw [zfu_eq]; omega) (fun s s0 s1 => by omega)
end
section
/-! The calendar's text: what stands where, on both sides. -/
/-- a byte of the tape, as a number 0 .. 255 and as a byte -/
def tE (a b : Int) : Prop := (0 ≤ a ∧ a < 128 ∧ b = a) ∨ (128 ≤ a ∧ a ≤ 255 ∧ b = a - 256)
/-- the tapes, the places -/
def TP (c r : zM) : Prop := c 4 41 3 = r 4 44 5 ∧ c 4 41 3 ≤ 300 ∧ (∀ i : Int, 0 ≤ i → i < c 4 41 3 → tE (c 4 42 i) (r 4 48 i)) ∧ 0 ≤ c 4 41 7 ∧ c 4 41 7 ≤ c 4 41 3 ∧ c 4 41 7 = r 4 44 8
/-- nothing but the place has changed -/
def E1C (c c' : zM) : Prop := ∀ g k i, ¬ (g = 4 ∧ k = 41 ∧ i = 7) → c' g k i = c g k i
def E1R (r r' : zM) : Prop := ∀ g k i, ¬ (g = 4 ∧ k = 44 ∧ i = 8) → r' g k i = r g k i
/-- nothing but places and fault -/
def EC (c c' : zM) : Prop := ∀ g k i, ¬ (g = 4 ∧ k = 41 ∧ (i = 4 ∨ i = 5 ∨ i = 7 ∨ i = 8)) → c' g k i = c g k i
def ER (r r' : zM) : Prop := ∀ g k i, ¬ (g = 4 ∧ k = 44 ∧ 6 ≤ i ∧ i ≤ 10) → r' g k i = r g k i
theorem E1C.ec {c c' : zM} (h : E1C c c') : EC c c' := fun g k i h9 => h g k i (by omega)
theorem E1R.er {r r' : zM} (h : E1R r r') : ER r r' := fun g k i h9 => h g k i (by omega)
theorem E1C.trans {a b c : zM} (h : E1C a b) (h' : E1C b c) : E1C a c := fun g k i h9 => (h' g k i h9).trans (h g k i h9)
theorem E1R.trans {a b c : zM} (h : E1R a b) (h' : E1R b c) : E1R a c := fun g k i h9 => (h' g k i h9).trans (h g k i h9)
theorem EC.trans {a b c : zM} (h : EC a b) (h' : EC b c) : EC a c := fun g k i h9 => (h' g k i h9).trans (h g k i h9)
theorem ER.trans {a b c : zM} (h : ER a b) (h' : ER b c) : ER a c := fun g k i h9 => (h' g k i h9).trans (h g k i h9)
theorem EC.rf (c : zM) : EC c c := fun _ _ _ _ => rfl
theorem ER.rf (c : zM) : ER c c := fun _ _ _ _ => rfl
theorem E1C.rf (c : zM) : E1C c c := fun _ _ _ _ => rfl
theorem E1R.rf (c : zM) : E1R c c := fun _ _ _ _ => rfl
theorem EC.upd (c : zM) {i : Int} (x : Int) (h : i = 4 ∨ i = 5 ∨ i = 7 ∨ i = 8) : EC c (z_upd c 4 41 i x) := fun g k j h9 => by
  unfold z_upd
  rw [if_neg (by omega)]
theorem ER.upd (c : zM) {i : Int} (x : Int) (h : 6 ≤ i ∧ i ≤ 10) : ER c (z_upd c 4 44 i x) := fun g k j h9 => by
  unfold z_upd
  rw [if_neg (by omega)]
theorem E1C.upd (c : zM) (x : Int) : E1C c (z_upd c 4 41 7 x) := fun g k j h9 => by
  unfold z_upd
  rw [if_neg (by omega)]
theorem E1R.upd (c : zM) (x : Int) : E1R c (z_upd c 4 44 8 x) := fun g k j h9 => by
  unfold z_upd
  rw [if_neg (by omega)]
theorem TP.pres {c r c' r' : zM} (h : TP c r) (hc : EC c c') (hr : ER r r') (h0 : 0 ≤ c' 4 41 7) (h1 : c' 4 41 7 ≤ c 4 41 3) (h2 : c' 4 41 7 = r' 4 44 8) : TP c' r' := by
  obtain ⟨a1, a2, a3, a4, a5, a6⟩ := h
  have e1 : c' 4 41 3 = c 4 41 3 := hc _ _ _ (by omega)
  have e2 : r' 4 44 5 = r 4 44 5 := hr _ _ _ (by omega)
  refine ⟨by omega, by omega, fun i i0 i1 => ?_, h0, by omega, h2⟩
  rw [hc 4 42 i (by omega), hr 4 48 i (by omega)]
  exact a3 i i0 (by omega)
/-- one place on -/
theorem TP.on {c r : zM} (h : TP c r) (hl : c 4 41 7 < c 4 41 3) : TP (z_upd c 4 41 7 (c 4 41 7 + 1)) (z_upd r 4 44 8 (r 4 44 8 + 1)) :=
  h.pres (EC.upd c _ (by omega)) (ER.upd r _ (by omega)) (by rw [z_upd_same]; have := h.2.2.2.1; omega) (by rw [z_upd_same]; omega) (by rw [z_upd_same, z_upd_same]; have := h.2.2.2.2.2; omega)
theorem TP.ch {c r : zM} (h : TP c r) (hl : c 4 41 7 < c 4 41 3) : tE (c 4 42 (c 4 41 7)) (r 4 48 (r 4 44 8)) := by
  have e := h.2.2.1 (c 4 41 7) h.2.2.2.1 hl
  rw [h.2.2.2.2.2] at e ⊢
  exact e
/-! blanks -/
theorem bl_loop : ∀ (n n2 : Nat) (c r : zM), TP c r → c 4 41 3 - c 4 41 7 < n → c 4 41 3 - c 4 41 7 < n2 →
    TP (fl93_0_1 (fun m => m) n c) (fl263_0_1 (fun m => m) n2 r) ∧ E1C c (fl93_0_1 (fun m => m) n c) ∧ E1R r (fl263_0_1 (fun m => m) n2 r) ∧ c 4 41 7 ≤ fl93_0_1 (fun m => m) n c 4 41 7 := by
  intro n
  induction n with
  | zero =>
    intro n2 c r h h1
    have := h.2.2.2.2.1
    omega
  | succ n ih =>
    intro n2 c r h h1 h2
    have h5 := h.2.2.2.2.1
    obtain ⟨n2, rfl⟩ : ∃ j, n2 = j + 1 := ⟨n2 - 1, by omega⟩
    show TP (fl93_0_1_b (fl93_0_1 (fun m => m) n) (fun m => m) c) (fl263_0_1_b (fl263_0_1 (fun m => m) n2) (fun m => m) r) ∧ E1C c (fl93_0_1_b (fl93_0_1 (fun m => m) n) (fun m => m) c) ∧ E1R r (fl263_0_1_b (fl263_0_1 (fun m => m) n2) (fun m => m) r) ∧ c 4 41 7 ≤ fl93_0_1_b (fl93_0_1 (fun m => m) n) (fun m => m) c 4 41 7
    unfold fl93_0_1_b fl263_0_1_b
    rw [← h.1, ← h.2.2.2.2.2]
    by_cases c1 : c 4 41 3 ≤ c 4 41 7
    · rw [if_pos c1, if_pos c1]
      exact ⟨h, E1C.rf c, E1R.rf r, Int.le_refl _⟩
    · rw [if_neg c1, if_neg c1]
      have ht := h.ch (by omega)
      rw [← h.2.2.2.2.2] at ht
      by_cases c2 : c 4 42 (c 4 41 7) = 32
      · have c3 : r 4 48 (c 4 41 7) = 32 := by
          unfold tE at ht
          omega
        rw [if_pos c2, if_pos c3]
        simp only [zs]
        have hp := h.on (by omega)
        have e1 : z_upd c 4 41 7 (c 4 41 7 + 1) 4 41 3 = c 4 41 3 := z_upd_o _ _ rfl
        have e2 : z_upd c 4 41 7 (c 4 41 7 + 1) 4 41 7 = c 4 41 7 + 1 := z_upd_same _ _ _ _ _
        rw [← h.2.2.2.2.2] at hp
        obtain ⟨g1, g2, g3, g4⟩ := ih n2 _ _ hp (by rw [e1, e2]; omega) (by rw [e1, e2]; omega)
        exact ⟨g1, (E1C.upd c _).trans g2, (E1R.upd r _).trans g3, by omega⟩
      · have c3 : ¬ r 4 48 (c 4 41 7) = 32 := by
          unfold tE at ht
          omega
        rw [if_neg c2, if_neg c3]
        exact ⟨h, E1C.rf c, E1R.rf r, Int.le_refl _⟩
theorem bl_eq {c r : zM} (h : TP c r) : TP (f93_1 c) (f263_1 r) ∧ E1C c (f93_1 c) ∧ E1R r (f263_1 r) ∧ c 4 41 7 ≤ f93_1 c 4 41 7 :=
  bl_loop (zfu 301) (zfu 301) c r h (by rw [zfu_eq]; have := h.2.1; have := h.2.2.2.1; omega) (by rw [zfu_eq]; have := h.2.1; have := h.2.2.2.1; omega)
/-! faults -/
/-- no fault so far -/
def N0 (c r : zM) : Prop := TP c r ∧ c 4 41 4 = 0 ∧ c 4 41 5 = -1 ∧ r 4 44 9 = 0 ∧ r 4 44 6 = 0 ∧ r 4 44 7 = -1
/-- the same fault -/
def FL (c r : zM) : Prop := c 4 41 3 = r 4 44 5 ∧ r 4 44 9 = 1 ∧ c 4 41 4 = r 4 44 6 ∧ c 4 41 4 ≠ 0 ∧ c 4 41 5 = r 4 44 7
theorem N0.bl {c r : zM} (h : N0 c r) : N0 (f93_1 c) (f263_1 r) := by
  obtain ⟨g1, g2, g3, _⟩ := bl_eq h.1
  exact ⟨g1, by rw [g2 _ _ _ (by omega)]; exact h.2.1, by rw [g2 _ _ _ (by omega)]; exact h.2.2.1, by rw [g3 _ _ _ (by omega)]; exact h.2.2.2.1, by rw [g3 _ _ _ (by omega)]; exact h.2.2.2.2.1, by rw [g3 _ _ _ (by omega)]; exact h.2.2.2.2.2⟩
/-- a fault comes to both -/
theorem N0.fail {c r : zM} (h : N0 c r) {k p p' : Int} (hk : k ≠ 0) (hp : p = p') : (f102_1 k p c).1 = 0 ∧ FL (f102_1 k p c).2 (f268_1 k p' r) ∧ EC c (f102_1 k p c).2 ∧ ER r (f268_1 k p' r) := by
  subst hp
  unfold f102_1 f268_1
  simp only [zs]
  rw [if_pos h.2.2.2.1]
  refine ⟨by first | rfl | trivial, ⟨?_, ?_, ?_, ?_, ?_⟩, (EC.upd _ _ (by omega)).trans (EC.upd _ _ (by omega)), ((ER.upd _ _ (by omega)).trans (ER.upd _ _ (by omega))).trans (ER.upd _ _ (by omega))⟩
  · rw [z_upd_o _ _ rfl, z_upd_o _ _ rfl, z_upd_o _ _ rfl, z_upd_o _ _ rfl, z_upd_o _ _ rfl]
    exact h.1.1
  · rw [z_upd_o _ _ rfl, z_upd_o _ _ rfl, z_upd_same]
  · rw [z_upd_o _ _ rfl, z_upd_same, z_upd_o _ _ rfl, z_upd_same]
  · rw [z_upd_o _ _ rfl, z_upd_same]
    exact hk
  · rw [z_upd_same, z_upd_same]
/-! numbers -/
/-- the same digits: the same number, or both too great -/
def nR (a b : Int) : Prop := 0 ≤ a ∧ 0 ≤ b ∧ (a = b ∨ (1000 < a ∧ 1000 < b))
theorem nR_step {a b d : Int} (h : nR a b) (hd : 0 ≤ d ∧ d ≤ 9) : nR (min (a * 10 + (d + 48) - 48) 1000000) (if b ≤ 100000 then 10 * b + (d + 48) - 48 else b) := by
  unfold nR at *
  split <;> omega
theorem num_loop {kC kR : Int → zM → Int × zM} {most : Int} : ∀ (n n2 : Nat) (a b : Int) (c r : zM), TP c r → nR a b → c 4 41 3 - c 4 41 7 < n → c 4 41 3 - c 4 41 7 < n2 →
    ∃ a' b' c' r', fl100_14_1 kC most n a c = kC a' c' ∧ fl270_23_1 kR 0 most n2 b r = kR b' r' ∧ nR a' b' ∧ TP c' r' ∧ E1C c c' ∧ E1R r r' ∧ c 4 41 7 ≤ c' 4 41 7 ∧ (c' 4 41 7 = c 4 41 7 → a' = a ∧ b' = b) := by
  intro n
  induction n with
  | zero =>
    intro n2 a b c r h hn h1
    have := h.2.2.2.2.1
    omega
  | succ n ih =>
    intro n2 a b c r h hn h1 h2
    have h5 := h.2.2.2.2.1
    obtain ⟨n2, rfl⟩ : ∃ j, n2 = j + 1 := ⟨n2 - 1, by omega⟩
    show ∃ a' b' c' r', fl100_14_1_b (fl100_14_1 kC most n) kC most a c = kC a' c' ∧ fl270_23_1_b (fl270_23_1 kR 0 most n2) kR 0 most b r = kR b' r' ∧ _
    unfold fl100_14_1_b fl270_23_1_b
    have e8 := h.2.2.2.2.2
    rw [← h.1, ← e8]
    by_cases c1 : c 4 41 3 ≤ c 4 41 7
    · rw [if_pos c1, if_pos c1]
      exact ⟨a, b, c, r, rfl, rfl, hn, h, E1C.rf c, E1R.rf r, Int.le_refl _, fun _ => ⟨rfl, rfl⟩⟩
    · rw [if_neg c1, if_neg c1]
      have ht := h.ch (by omega)
      rw [← e8] at ht
      by_cases c2 : 48 ≤ c 4 42 (c 4 41 7) ∧ c 4 42 (c 4 41 7) ≤ 57
      · have c3 : r 4 48 (c 4 41 7) = c 4 42 (c 4 41 7) := by
          unfold tE at ht
          omega
        rw [c3, if_neg (by omega), if_neg (by omega), if_neg (by omega), if_pos c2.2]
        simp only [zs]
        have hp := h.on (by omega)
        rw [← e8] at hp
        have e1 : z_upd c 4 41 7 (c 4 41 7 + 1) 4 41 3 = c 4 41 3 := z_upd_o _ _ rfl
        have e2 : z_upd c 4 41 7 (c 4 41 7 + 1) 4 41 7 = c 4 41 7 + 1 := z_upd_same _ _ _ _ _
        have hs := nR_step (d := c 4 42 (c 4 41 7) - 48) hn (by omega)
        rw [show c 4 42 (c 4 41 7) - 48 + 48 = c 4 42 (c 4 41 7) by omega] at hs
        have fin : ∀ y, y = (if b ≤ 100000 then 10 * b + c 4 42 (c 4 41 7) - 48 else b) → ∃ a' b' c' r', fl100_14_1 kC most n (min (a * 10 + c 4 42 (c 4 41 7) - 48) 1000000) (z_upd c 4 41 7 (c 4 41 7 + 1)) = kC a' c' ∧ fl270_23_1 kR 0 most n2 y (z_upd r 4 44 8 (c 4 41 7 + 1)) = kR b' r' ∧ nR a' b' ∧ TP c' r' ∧ E1C c c' ∧ E1R r r' ∧ c 4 41 7 ≤ c' 4 41 7 ∧ (c' 4 41 7 = c 4 41 7 → a' = a ∧ b' = b) := by
          intro y hy
          subst hy
          obtain ⟨a', b', c', r', g1, g2, g3, g4, g5, g6, g7, g8⟩ := ih n2 _ _ _ _ hp hs (by rw [e1, e2]; omega) (by rw [e1, e2]; omega)
          exact ⟨a', b', c', r', g1, g2, g3, g4, (E1C.upd c _).trans g5, (E1R.upd r _).trans g6, by omega, fun e => by omega⟩
        by_cases c4 : b ≤ 100000
        · rw [if_pos c4]
          exact fin _ (by rw [if_pos c4])
        · rw [if_neg c4]
          exact fin _ (by rw [if_neg c4])
      · have c3 : ¬ (48 ≤ r 4 48 (c 4 41 7) ∧ r 4 48 (c 4 41 7) ≤ 57) := by
          unfold tE at ht
          omega
        have eC : (if c 4 42 (c 4 41 7) < 48 then kC a c else if 57 < c 4 42 (c 4 41 7) then kC a c else zs (z_upd c 4 41 7 (c 4 41 7 + 1)) fun m21 => fl100_14_1 kC most n (min (a * 10 + c 4 42 (c 4 41 7) - 48) 1000000) m21) = kC a c := by
          by_cases c5 : c 4 42 (c 4 41 7) < 48
          · rw [if_pos c5]
          · rw [if_neg c5, if_pos (by omega)]
        rw [eC]
        refine ⟨a, b, c, r, rfl, ?_, hn, h, E1C.rf c, E1R.rf r, Int.le_refl _, fun _ => ⟨rfl, rfl⟩⟩
        by_cases c5 : r 4 48 (c 4 41 7) < 48
        · rw [if_pos c5]
        · rw [if_neg c5, if_neg (by omega)]
/-- a number is read -/
theorem num_eq {c r : zM} (h : N0 c r) {most : Int} (hm : 0 ≤ most ∧ most ≤ 1000) : EC c (f100_1 most c).2 ∧ ER r (f270_1 0 most r).2 ∧
    ((0 ≤ (f100_1 most c).1 ∧ (f100_1 most c).1 ≤ most ∧ (f270_1 0 most r).1 = (f100_1 most c).1 ∧ N0 (f100_1 most c).2 (f270_1 0 most r).2 ∧ (f100_1 most c).2 4 41 8 = (f270_1 0 most r).2 4 44 10) ∨
     ((f100_1 most c).1 = -1 ∧ (f270_1 0 most r).1 = 0 ∧ FL (f100_1 most c).2 (f270_1 0 most r).2)) := by
  have hb := h.bl
  obtain ⟨b1, b2, b3, b4⟩ := bl_eq h.1
  unfold f100_1 f270_1
  rw [if_pos h.2.2.2.1]
  simp only [zs]
  have hp : TP (z_upd (f93_1 c) 4 41 8 (f93_1 c 4 41 7)) (z_upd (f263_1 r) 4 44 10 (f263_1 r 4 44 8)) :=
    b1.pres (EC.upd _ _ (by omega)) (ER.upd _ _ (by omega)) (by rw [z_upd_o _ _ rfl]; exact b1.2.2.2.1) (by rw [z_upd_o _ _ rfl]; exact b1.2.2.2.2.1) (by rw [z_upd_o _ _ rfl, z_upd_o _ _ rfl]; exact b1.2.2.2.2.2)
  have hfu : z_upd (f93_1 c) 4 41 8 (f93_1 c 4 41 7) 4 41 3 - z_upd (f93_1 c) 4 41 8 (f93_1 c 4 41 7) 4 41 7 < (zfu 301 : Nat) := by
    rw [zfu_eq]
    have := hp.2.1
    have := hp.2.2.2.1
    omega
  obtain ⟨a', b', c', r', g1, g2, g3, g4, g5, g6, g7, g8⟩ := num_loop (kC := fun y07 m08 => if m08 4 41 7 = m08 4 41 8 then zb (f102_1 1 (m08 4 41 8) m08) fun v22 m20 => (-1, m20) else if y07 ≤ most then (y07, m08) else zb (f102_1 2 (m08 4 41 8) m08) fun v19 m17 => (-1, m17))
    (kR := fun y09 m10 => if m10 4 44 8 = m10 4 44 10 then (let m31 := f268_1 1 (m10 4 44 8) m10; if m31 4 44 9 = 0 then (y09, m31) else (0, m31)) else if y09 ≤ most then (if m10 4 44 9 = 0 then (y09, m10) else (0, m10)) else (let m23 := f268_1 2 (m10 4 44 10) m10; if m23 4 44 9 = 0 then (y09, m23) else (0, m23)))
    (most := most) (zfu 301) (zfu 301) 0 0 _ _ hp ⟨by omega, by omega, .inl rfl⟩ hfu hfu
  rw [g1, g2]
  have eC : EC c c' := ((b2.ec).trans (EC.upd _ _ (by omega))).trans g5.ec
  have eR : ER r r' := ((b3.er).trans (ER.upd _ _ (by omega))).trans g6.er
  have e8 : c' 4 41 8 = f93_1 c 4 41 7 := by rw [g5 _ _ _ (by omega), z_upd_same]
  have e10 : r' 4 44 10 = f263_1 r 4 44 8 := by rw [g6 _ _ _ (by omega), z_upd_same]
  have e810 : c' 4 41 8 = r' 4 44 10 := by rw [e8, e10]; exact b1.2.2.2.2.2
  have hN : N0 c' r' := ⟨g4, by rw [g5 _ _ _ (by omega), z_upd_o _ _ rfl]; exact hb.2.1, by rw [g5 _ _ _ (by omega), z_upd_o _ _ rfl]; exact hb.2.2.1, by rw [g6 _ _ _ (by omega), z_upd_o _ _ rfl]; exact hb.2.2.2.1, by rw [g6 _ _ _ (by omega), z_upd_o _ _ rfl]; exact hb.2.2.2.2.1, by rw [g6 _ _ _ (by omega), z_upd_o _ _ rfl]; exact hb.2.2.2.2.2⟩
  have e9 := hN.2.2.2.1
  rw [← g4.2.2.2.2.2, ← e810]
  by_cases c1 : c' 4 41 7 = c' 4 41 8
  · rw [if_pos c1, if_pos c1]
    obtain ⟨f1, f2, f3, f4⟩ := hN.fail (k := 1) (p := c' 4 41 8) (p' := c' 4 41 7) (by decide) c1.symm
    dsimp only
    rw [if_neg (by rw [f2.2.1]; decide)]
    exact ⟨eC.trans f3, eR.trans f4, .inr ⟨rfl, rfl, f2⟩⟩
  · rw [if_neg c1, if_neg c1]
    obtain ⟨n1, n2, n3⟩ := g3
    by_cases c2 : a' ≤ most
    · rw [if_pos c2, if_pos (by omega), if_pos e9]
      exact ⟨eC, eR, .inl ⟨n1, c2, by show b' = a'; omega, hN, e810⟩⟩
    · rw [if_neg c2, if_neg (by omega)]
      obtain ⟨f1, f2, f3, f4⟩ := hN.fail (k := 2) (p := c' 4 41 8) (p' := c' 4 41 8) (by decide) rfl
      dsimp only
      rw [if_neg (by rw [f2.2.1]; decide)]
      exact ⟨eC.trans f3, eR.trans f4, .inr ⟨rfl, rfl, f2⟩⟩
end
section
/-! The calendar's text: its lines, on both sides. -/
/-- behind a fault the reference keeps it -/
def FZ (r r' : zM) : Prop := r' 4 44 9 = r 4 44 9 ∧ r' 4 44 6 = r 4 44 6 ∧ r' 4 44 7 = r 4 44 7 ∧ r' 4 44 5 = r 4 44 5
theorem FZ.rf (r : zM) : FZ r r := ⟨rfl, rfl, rfl, rfl⟩
theorem FZ.trans {a b c : zM} (h : FZ a b) (h' : FZ b c) : FZ a c := ⟨h'.1.trans h.1, h'.2.1.trans h.2.1, h'.2.2.1.trans h.2.2.1, h'.2.2.2.trans h.2.2.2⟩
theorem FL.fz {c r r' : zM} (h : FL c r) (hz : FZ r r') : FL c r' := by
  obtain ⟨a1, a2, a3, a4, a5⟩ := h
  obtain ⟨b1, b2, b3, b4⟩ := hz
  exact ⟨by omega, by omega, by omega, a4, by omega⟩
theorem E1R.fz {r r' : zM} (h : E1R r r') : FZ r r' := ⟨h _ _ _ (by omega), h _ _ _ (by omega), h _ _ _ (by omega), h _ _ _ (by omega)⟩
theorem FZ.upd (r : zM) {k : Nat} (i x : Int) (h : k ≠ 44) : FZ r (z_upd r 4 k i x) := by
  refine ⟨?_, ?_, ?_, ?_⟩ <;> exact congrFun (zu_k _ _ _ (fun e => h e.symm)) _
theorem fz_bl : ∀ (n : Nat) (r : zM), E1R r (fl263_0_1 (fun m => m) n r)
  | 0, r => E1R.rf r
  | n + 1, r => by
    show E1R r (fl263_0_1_b (fl263_0_1 (fun m => m) n) (fun m => m) r)
    unfold fl263_0_1_b
    split
    · exact E1R.rf r
    · split
      · exact (E1R.upd r _).trans (fz_bl n _)
      · exact E1R.rf r
theorem fz_wr {r : zM} (h : r 4 44 9 = 1) (k p : Int) : f268_1 k p r = r := by
  unfold f268_1
  rw [if_neg (by omega)]
theorem fz_num {r : zM} (h : r 4 44 9 = 1) (k p : Int) : f270_1 k p r = (0, r) := by
  unfold f270_1
  rw [if_neg (by omega)]
theorem fz_must {r : zM} (h : r 4 44 9 = 1) (k : Int) : E1R r (f272_1 k r) := by
  have e1 : E1R r (f263_1 r) := fz_bl _ r
  have e2 : f263_1 r 4 44 9 = 1 := by rw [e1 _ _ _ (by omega)]; exact h
  unfold f272_1
  simp only [zs, fz_wr e2]
  split
  · exact e1
  · split
    · exact e1.trans (E1R.upd _ _)
    · exact e1
theorem frz {r : zM} (h : r 4 44 9 = 1) (k : Int) : f272_1 k r 4 44 9 = 1 := by
  rw [fz_must h k _ _ _ (by omega)]
  exact h
/-! signs, digits -/
theorem sign_eq {c r : zM} (h : N0 c r) {x : Int} (hx : 0 ≤ x ∧ x < 128) : EC c (f105_1 x c).2 ∧ ER r (f272_1 x r) ∧ (((f105_1 x c).1 = 1 ∧ N0 (f105_1 x c).2 (f272_1 x r) ∧ c 4 41 7 < (f105_1 x c).2 4 41 7) ∨ ((f105_1 x c).1 = 0 ∧ FL (f105_1 x c).2 (f272_1 x r))) := by
  have hb := h.bl
  obtain ⟨b1, b2, b3, b4⟩ := bl_eq h.1
  have e8 := b1.2.2.2.2.2
  unfold f105_1 f272_1
  simp only [zs, zb]
  rw [← b1.1, ← e8]
  obtain ⟨f1, f2, f3, f4⟩ := hb.fail (k := 1) (p := f93_1 c 4 41 7) (p' := f93_1 c 4 41 7) (by decide) rfl
  by_cases c1 : f93_1 c 4 41 3 ≤ f93_1 c 4 41 7
  · rw [if_pos c1, if_pos c1]
    exact ⟨b2.ec.trans f3, b3.er.trans f4, .inr ⟨f1, f2⟩⟩
  · rw [if_neg c1, if_neg c1]
    have ht := b1.ch (by omega)
    rw [← e8] at ht
    by_cases c2 : f93_1 c 4 42 (f93_1 c 4 41 7) = x
    · have c3 : f263_1 r 4 48 (f93_1 c 4 41 7) = x := by
        unfold tE at ht
        omega
      rw [if_pos c2, if_pos c3]
      have ho := b1.on (by omega)
      rw [← e8] at ho
      refine ⟨b2.ec.trans (EC.upd _ _ (by omega)), b3.er.trans (ER.upd _ _ (by omega)), .inl ⟨rfl, ⟨ho, ?_, ?_, ?_, ?_, ?_⟩, ?_⟩⟩
      · dsimp only; rw [z_upd_o _ _ rfl]; exact hb.2.1
      · dsimp only; rw [z_upd_o _ _ rfl]; exact hb.2.2.1
      · rw [z_upd_o _ _ rfl]; exact hb.2.2.2.1
      · rw [z_upd_o _ _ rfl]; exact hb.2.2.2.2.1
      · rw [z_upd_o _ _ rfl]; exact hb.2.2.2.2.2
      · show c 4 41 7 < z_upd (f93_1 c) 4 41 7 (f93_1 c 4 41 7 + 1) 4 41 7
        rw [z_upd_same]
        omega
    · have c3 : ¬ f263_1 r 4 48 (f93_1 c 4 41 7) = x := by
        unfold tE at ht
        omega
      rw [if_neg c2, if_neg c3]
      exact ⟨b2.ec.trans f3, b3.er.trans f4, .inr ⟨f1, f2⟩⟩
theorem digit_eq {c r : zM} (h : N0 c r) : E1C c (f103_1 c).2 ∧ E1R r (f271_1 r).2 ∧ N0 (f103_1 c).2 (f271_1 r).2 ∧ (f271_1 r).1 = (f103_1 c).1 ∧ ((f103_1 c).1 = 0 ∨ (f103_1 c).1 = 1) := by
  have hb := h.bl
  obtain ⟨b1, b2, b3, b4⟩ := bl_eq h.1
  have e8 := b1.2.2.2.2.2
  unfold f103_1 f271_1
  simp only [zs, zn]
  rw [← b1.1, ← e8]
  by_cases c1 : f93_1 c 4 41 3 ≤ f93_1 c 4 41 7
  · rw [if_pos c1, if_pos c1]
    exact ⟨b2, b3, hb, rfl, .inl rfl⟩
  · rw [if_neg c1, if_neg c1]
    have ht := b1.ch (by omega)
    rw [← e8] at ht
    by_cases c2 : f93_1 c 4 42 (f93_1 c 4 41 7) < 48
    · rw [if_pos c2]
      have c3 : f263_1 r 4 48 (f93_1 c 4 41 7) < 48 := by
        unfold tE at ht
        omega
      rw [if_pos c3]
      exact ⟨b2, b3, hb, rfl, .inl rfl⟩
    · rw [if_neg c2]
      by_cases c4 : 57 < f93_1 c 4 42 (f93_1 c 4 41 7)
      · rw [if_pos c4]
        by_cases c3 : f263_1 r 4 48 (f93_1 c 4 41 7) < 48
        · rw [if_pos c3]
          exact ⟨b2, b3, hb, rfl, .inl rfl⟩
        · rw [if_neg c3, if_neg (by unfold tE at ht; omega)]
          exact ⟨b2, b3, hb, rfl, .inl rfl⟩
      · rw [if_neg c4, if_neg (by unfold tE at ht; omega), if_pos (by unfold tE at ht; omega)]
        exact ⟨b2, b3, hb, rfl, .inr rfl⟩
/-! what is told already: bits on the one side, a row on the other -/
def tbit (x v : Int) : Int := zand (zshr x v) 1
theorem tb1 : ∀ v : Nat, v < 8 → zshl 1 v = ((2 ^ v : Nat) : Int) := by decide +kernel
theorem tb2 : ∀ x : Nat, x < 256 → ∀ v : Nat, v < 8 → zor x ((2 ^ v : Nat) : Int) = ((x ||| 2 ^ v : Nat) : Int) := by decide +kernel
theorem tb3 : ∀ x : Nat, x < 256 → ∀ u : Nat, u < 8 → tbit x u = if x.testBit u = true then 1 else 0 := by decide +kernel
theorem tbit_tab : ∀ x : Nat, x < 256 → ∀ v : Nat, v < 8 → (0 ≤ zor x (zshl 1 v) ∧ zor x (zshl 1 v) < 256) ∧ (tbit x v = 0 ∨ tbit x v = 1) ∧ ∀ u : Nat, u < 8 → tbit (zor x (zshl 1 v)) u = if u = v then 1 else tbit x u := by
  intro x hx v hv
  have hp : 2 ^ v < 2 ^ 8 := Nat.pow_lt_pow_right (by decide) hv
  have hl : x ||| 2 ^ v < 2 ^ 8 := Nat.or_lt_two_pow (by omega) hp
  have e8 : (2 : Nat) ^ 8 = 256 := by decide
  rw [tb1 v hv, tb2 x hx v hv]
  refine ⟨⟨by omega, by omega⟩, ?_, fun u hu => ?_⟩
  · rw [tb3 x hx v hv]
    by_cases e : x.testBit v = true
    · exact .inr (if_pos e)
    · exact .inl (if_neg e)
  · rw [tb3 _ (by omega) u hu, tb3 x hx u hu, Nat.testBit_or, Nat.testBit_two_pow]
    by_cases e : u = v
    · rw [if_pos e, if_pos (by simp [e])]
    · rw [if_neg e, show (decide (v = u)) = false from decide_eq_false (fun h => e h.symm), Bool.or_false]
theorem tbit_set {x v : Int} (hx : 0 ≤ x ∧ x < 256) (hv : 0 ≤ v ∧ v < 8) : (0 ≤ zor x (zshl 1 v) ∧ zor x (zshl 1 v) < 256) ∧ (tbit x v = 0 ∨ tbit x v = 1) ∧ ∀ u : Int, 0 ≤ u → u < 8 → tbit (zor x (zshl 1 v)) u = if u = v then 1 else tbit x u := by
  obtain ⟨a, rfl⟩ : ∃ a : Nat, x = a := ⟨x.toNat, by omega⟩
  obtain ⟨b, rfl⟩ : ∃ b : Nat, v = b := ⟨v.toNat, by omega⟩
  obtain ⟨e1, e2, e3⟩ := tbit_tab a (by omega) b (by omega)
  refine ⟨e1, e2, fun u h0 h1 => ?_⟩
  obtain ⟨d, rfl⟩ : ∃ d : Nat, u = d := ⟨u.toNat, by omega⟩
  rw [e3 d (by omega)]
  by_cases e : d = b
  · rw [if_pos e, if_pos (by omega)]
  · rw [if_neg e, if_neg (by omega)]
/-! what a draft holds -/
def PS (p0 : Int → Int) (c r : zM) : Prop :=
  (0 ≤ c 4 41 9 ∧ c 4 41 9 < 256) ∧ (0 ≤ c 4 41 10 ∧ c 4 41 10 < 256) ∧ (∀ v : Int, 0 ≤ v → v < 8 → tbit (c 4 41 9) v = r 4 49 v) ∧ (∀ v : Int, 0 ≤ v → v < 4 → tbit (c 4 41 10) v = r 4 50 v) ∧
  (c 4 41 6 = r 4 44 14 ∧ (c 4 41 6 = 0 ∨ c 4 41 6 = 1)) ∧ (c 4 41 6 = 1 → ∀ t : Int, 0 ≤ t → t < 4 → c 4 43 t = r 4 45 (28 + t)) ∧ ((c 4 41 6 = 0 → ∀ t : Int, 0 ≤ t → t < 4 → r 4 45 (28 + t) = p0 (28 + t)) ∧ (∀ i : Int, (i < 28 ∨ 31 < i) → (i < 287 ∨ 787 < i) → r 4 45 i = p0 i)) ∧
  c 3 11 7 = r 4 44 13 ∧ (∀ v : Int, 0 ≤ v → v < 8 → tbit (c 4 41 9) v = 0 → c 3 12 v = 0) ∧ CR (c 3) (r 4 45) ∧ CB (c 3)
theorem EC.row {c c' : zM} (h : EC c c') {g k : Nat} (hk : g ≠ 4 ∨ k ≠ 41) : c' g k = c g k := by
  funext i
  exact h g k i (by omega)
theorem ER.row {r r' : zM} (h : ER r r') {g k : Nat} (hk : g ≠ 4 ∨ k ≠ 44) : r' g k = r g k := by
  funext i
  exact h g k i (by omega)
theorem EC.g3 {c c' : zM} (h : EC c c') : c' 3 = c 3 := by
  funext k
  exact h.row (.inl (by decide))
theorem PS.pres {p0 : Int → Int} {c r c' r' : zM} (h : PS p0 c r) (hc : EC c c') (hr : ER r r') : PS p0 c' r' := by
  unfold PS
  rw [hc 4 41 9 (by omega), hc 4 41 10 (by omega), hc 4 41 6 (by omega), hc.g3, hr.row (k := 49) (.inr (by decide)), hr.row (k := 50) (.inr (by decide)), hr.row (k := 45) (.inr (by decide)), hr 4 44 14 (by omega), hr 4 44 13 (by omega), hc.row (k := 43) (.inr (by decide))]
  exact h
/-- has the table that second -/
theorem isw_loop {m : zM} {t s : Int} : ∀ (n : Nat) (k : Int), 0 ≤ k → k ≤ m 4 45 (287 + t) → m 4 45 (287 + t) - k < n → (∀ j, 0 ≤ j → j < k → m 4 45 (295 + 6 * t + j) ≠ s) →
    (fl273_2_1 (fun _ => 1) 0 t s m n k = 1 ∧ ∃ j, 0 ≤ j ∧ j < m 4 45 (287 + t) ∧ m 4 45 (295 + 6 * t + j) = s) ∨ (fl273_2_1 (fun _ => 1) 0 t s m n k = 0 ∧ ∀ j, 0 ≤ j → j < m 4 45 (287 + t) → m 4 45 (295 + 6 * t + j) ≠ s) := by
  intro n
  induction n with
  | zero =>
    intro k h0 h1 h2
    omega
  | succ n ih =>
    intro k h0 h1 h2 h3
    have e : fl273_2_1 (fun _ => 1) 0 t s m (n + 1) k = fl273_2_1_b (fl273_2_1 (fun _ => 1) 0 t s m n) (fun _ => 1) 0 t s m k := rfl
    rw [e]
    unfold fl273_2_1_b
    by_cases c1 : k < m 4 45 (287 + t)
    · rw [if_pos c1]
      by_cases c2 : m 4 45 (295 + 6 * t + k) = s
      · rw [if_pos c2]
        exact .inl ⟨rfl, k, h0, c1, c2⟩
      · rw [if_neg c2]
        refine ih (k + 1) (by omega) (by omega) (by omega) (fun j j0 j1 => ?_)
        by_cases e9 : j = k
        · rw [e9]
          exact c2
        · exact h3 j j0 (by omega)
    · rw [if_neg c1]
      exact .inr ⟨rfl, fun j j0 j1 => h3 j j0 (by omega)⟩
theorem isw_eq {c r : zM} {g : Nat} (h : CR (c g) (r 4 45)) (hb : CB (c g)) {t s : Int} (t0 : 0 ≤ t) (t1 : t < 8) : f273_1 t s r = f82_1 g t s c ∧ (f82_1 g t s c = 0 ∨ f82_1 g t s c = 1) := by
  have hc := hb.1 t t0 t1
  have ec := h.1.1 t t0 t1
  obtain ⟨v, e1, e2, e3, e4, e5⟩ := sb_spec c g t s hc
  have e6 := hs_eq c g t s v e1 e2 e3
  have e7 := isw_loop (m := r) (t := t) (s := s) (zfu 7) 0 (by omega) (by omega) (by rw [zfu_eq]; omega) (fun j _ _ => by omega)
  have es : ∀ k, 0 ≤ k → k < c g 12 t → r 4 45 (295 + 6 * t + k) = c g 13 (t * 6 + k) := fun k k0 k1 => (h.1.2.1 t k t0 t1 k0 k1).1.symm
  rw [e6]
  unfold f273_1
  rw [← ec] at e7
  by_cases c1 : v < c g 12 t ∧ c g 13 (t * 6 + v) = s
  · rw [if_pos c1]
    rcases e7 with ⟨g1, g2⟩ | ⟨g1, g2⟩
    · exact ⟨g1, .inr rfl⟩
    · exact absurd (by rw [es v e2 c1.1]; exact c1.2) (g2 v e2 c1.1)
  · rw [if_neg c1]
    rcases e7 with ⟨g1, j, j0, j1, j2⟩ | ⟨g1, g2⟩
    · exfalso
      rw [es j j0 j1] at j2
      rcases Int.lt_trichotomy j v with c2 | c2 | c2
      · have := e4 j j0 c2
        omega
      · subst c2
        exact c1 ⟨j1, j2⟩
      · have g2 := e5 (by omega)
        have g3 := CR.mono h t0 t1 (j - v).toNat v j e2 (by omega) j1
        exact c1 ⟨by omega, by omega⟩
    · exact ⟨g1, .inl rfl⟩
/-- what the draft's bounds are behind putSwitch -/
theorem CB.put {m : zM} {g : Nat} (hb : CB (m g)) {t s x : Int} (h0 : 0 ≤ t) (h1 : t < 8) (hs : 0 ≤ s ∧ s ≤ 86399) (hx : 0 ≤ x ∧ x ≤ 3) : CB ((f81_1 g t s x m).2 g) := by
  have hc := hb.1 t h0 h1
  obtain ⟨v, m1, r1, p1, p2, p3, p4, p5, p6, p7⟩ := put_cls m g t s x h0 h1 hc
  rw [p1]
  show CB (m1 g)
  obtain ⟨b1, b2, b3, b4, b5, b6, b7, b8⟩ := hb
  have e11 := p6 g 11 (by omega)
  have e15 := p6 g 15 (by omega)
  have e16 := p6 g 16 (by omega)
  have e17 := p6 g 17 (by omega)
  have e18 := p6 g 18 (by omega)
  unfold CB
  rw [e11, e15, e16, e17, e18]
  have hsh : ∀ (a : Int → Int) (lo hi n y : Int), (∀ i : Int, 0 ≤ i → i < 48 → lo ≤ a i ∧ a i ≤ hi) → lo ≤ y ∧ y ≤ hi → n < 6 → v ≤ n → ∀ i : Int, 0 ≤ i → i < 48 → lo ≤ shf a (t * 6) v n y i ∧ shf a (t * 6) v n y i ≤ hi := by
    intro a lo hi n y ha hy hn hv i i0 i1
    unfold shf
    by_cases c1 : i = t * 6 + v
    · rw [if_pos c1]
      exact hy
    · rw [if_neg c1]
      by_cases c2 : t * 6 + v < i ∧ i ≤ t * 6 + n
      · rw [if_pos c2]
        exact ha (i - 1) (by omega) (by omega)
      · rw [if_neg c2]
        exact ha i i0 i1
  rcases p7 with ⟨a1, a2, a3, a4, a5, a6⟩ | ⟨a1, a2, a3, a4⟩ | ⟨a1, a2, a3, a4, a5, a6⟩
  · rw [a4, a5, a6]
    refine ⟨b1, b2, b3, b4, b5, fun i i0 i1 => ?_, b7, b8⟩
    unfold fu
    split
    · exact hx
    · exact b6 i i0 i1
  · subst a4
    exact ⟨b1, b2, b3, b4, b5, b6, b7, b8⟩
  · rw [a4, a5, a6]
    refine ⟨fun i i0 i1 => ?_, b2, b3, b4, hsh _ _ _ _ _ b5 hs a2 p3, hsh _ _ _ _ _ b6 hx a2 p3, b7, b8⟩
    unfold fu
    split
    · omega
    · exact b1 i i0 i1
end
section
/-! words -/
theorem ite0 {p : Prop} [Decidable p] {x : Int} (h : p → x = 0) : (if p then x else 0) = 0 := by
  by_cases c : p
  · rw [if_pos c]
    exact h c
  · rw [if_neg c]
theorem let_loop {c r : zM} (h : TP c r) : ∀ (n n2 : Nat) (y : Int), 0 ≤ y → y ≤ c 4 41 3 → c 4 41 3 - y < n → c 4 41 3 - y < n2 →
    ∃ e, fl95_5_1 (fun y => y - c 4 41 7) c n y = e - c 4 41 7 ∧ fl267_5_1 (fun y => y) r n2 y = e ∧ y ≤ e ∧ e ≤ c 4 41 3 := by
  intro n
  induction n with
  | zero =>
    intro n2 y h0 h1 h2
    omega
  | succ n ih =>
    intro n2 y h0 h1 h2 h3
    obtain ⟨n2, rfl⟩ : ∃ j, n2 = j + 1 := ⟨n2 - 1, by omega⟩
    show ∃ e, fl95_5_1_b (fl95_5_1 (fun y => y - c 4 41 7) c n) (fun y => y - c 4 41 7) c y = e - c 4 41 7 ∧ fl267_5_1_b (fl267_5_1 (fun y => y) r n2) (fun y => y) r y = e ∧ y ≤ e ∧ e ≤ c 4 41 3
    unfold fl95_5_1_b fl267_5_1_b
    rw [← h.1]
    by_cases c1 : c 4 41 3 ≤ y
    · rw [if_pos c1, if_pos c1]
      exact ⟨y, rfl, rfl, Int.le_refl _, h1⟩
    · rw [if_neg c1, if_neg c1]
      have ht := h.2.2.1 y h0 (by omega)
      by_cases c2 : 97 ≤ c 4 42 y ∧ c 4 42 y ≤ 122
      · rw [if_neg (by omega), if_neg (by omega), if_neg (by unfold tE at ht; omega), if_pos (by unfold tE at ht; omega)]
        obtain ⟨e, e1, e2, e3, e4⟩ := ih n2 (y + 1) (by omega) (by omega) (by omega) (by omega)
        exact ⟨e, e1, e2, by omega, e4⟩
      · refine ⟨y, ?_, ?_, Int.le_refl _, h1⟩
        · by_cases c3 : c 4 42 y < 97
          · rw [if_pos c3]
          · rw [if_neg c3, if_pos (by omega)]
        · by_cases c3 : r 4 48 y < 97
          · rw [if_pos c3]
          · rw [if_neg c3, if_neg (by unfold tE at ht; omega)]
theorem let_eq {c r : zM} (h : TP c r) : f267_1 r = c 4 41 7 + f95_1 c ∧ 0 ≤ f95_1 c ∧ c 4 41 7 + f95_1 c ≤ c 4 41 3 := by
  obtain ⟨e, e1, e2, e3, e4⟩ := let_loop h (zfu 301) (zfu 301) (c 4 41 7) h.2.2.2.1 h.2.2.2.2.1 (by rw [zfu_eq]; have := h.2.1; have := h.2.2.2.1; omega) (by rw [zfu_eq]; have := h.2.1; have := h.2.2.2.1; omega)
  unfold f267_1 f95_1
  rw [← h.2.2.2.2.2, e1, e2]
  omega
theorem sp1_loop {c : zM} : ∀ (n : Nat) (j : Int), 0 ≤ j → j ≤ 5 → 5 - j < n →
    (fl96_25_1 (fun _ => 0) 1 5 c n j = 1 ∧ ∀ i, j ≤ i → i < 5 → c 4 42 (c 4 41 7 + i) = zch 4 i) ∨ (fl96_25_1 (fun _ => 0) 1 5 c n j = 0 ∧ ∃ i, j ≤ i ∧ i < 5 ∧ c 4 42 (c 4 41 7 + i) ≠ zch 4 i) := by
  intro n
  induction n with
  | zero =>
    intro j h0 h1 h2
    omega
  | succ n ih =>
    intro j h0 h1 h2
    have e : fl96_25_1 (fun _ => 0) 1 5 c (n + 1) j = fl96_25_1_b (fl96_25_1 (fun _ => 0) 1 5 c n) (fun _ => 0) 1 5 c j := rfl
    rw [e]
    unfold fl96_25_1_b
    by_cases c1 : 5 ≤ j
    · rw [if_pos c1]
      exact .inl ⟨rfl, fun i i0 i1 => by omega⟩
    · rw [if_neg c1]
      simp only [zn]
      by_cases c2 : c 4 42 (c 4 41 7 + j) = zch 4 j
      · rw [if_pos c2]
        rcases ih (j + 1) (by omega) (by omega) (by omega) with ⟨g1, g2⟩ | ⟨g1, i, i0, i1, i2⟩
        · refine .inl ⟨g1, fun i i0 i1 => ?_⟩
          by_cases e9 : i = j
          · rw [e9]
            exact c2
          · exact g2 i (by omega) i1
        · exact .inr ⟨g1, i, by omega, i1, i2⟩
      · rw [if_neg c2]
        exact .inr ⟨rfl, j, Int.le_refl _, by omega, c2⟩
theorem word1_eq {c r : zM} (h : TP c r) : f96_1 (f95_1 c) c = f266_1 5 116 97 98 108 101 0 0 r ∧ (f96_1 (f95_1 c) c = 0 ∨ (f96_1 (f95_1 c) c = 1 ∧ f95_1 c = 5)) := by
  obtain ⟨l1, l2, l3⟩ := let_eq h
  have hp := h.2.2.2.1
  unfold f266_1
  simp only [zn]
  rw [l1, ← h.2.2.2.2.2]
  by_cases c1 : f95_1 c = 5
  · have ht : ∀ i, 0 ≤ i → i < 5 → tE (c 4 42 (c 4 41 7 + i)) (r 4 48 (c 4 41 7 + i)) := fun i i0 i1 => h.2.2.1 _ (by omega) (by omega)
    have e : f96_1 (f95_1 c) c = fl96_25_1 (fun _ => 0) 1 5 c (zfu 6) 0 := by
      unfold f96_1
      rw [c1, if_pos rfl, if_pos (by omega)]
    rw [e, c1, if_pos rfl]
    have z0 : zch 4 0 = 116 := by decide +kernel
    have z1 : zch 4 1 = 97 := by decide +kernel
    have z2 : zch 4 2 = 98 := by decide +kernel
    have z3 : zch 4 3 = 108 := by decide +kernel
    have z4 : zch 4 4 = 101 := by decide +kernel
    have t0 := ht 0 (by decide) (by decide)
    have t1 := ht 1 (by decide) (by decide)
    have t2 := ht 2 (by decide) (by decide)
    have t3 := ht 3 (by decide) (by decide)
    have t4 := ht 4 (by decide) (by decide)
    rw [Int.add_zero] at t0
    rcases sp1_loop (c := c) (zfu 6) 0 (by omega) (by omega) (by rw [zfu_eq]; decide) with ⟨g1, g2⟩ | ⟨g1, i, i0, i1, i2⟩
    · rw [g1]
      have d0 := g2 0 (by decide) (by decide)
      have d1 := g2 1 (by decide) (by decide)
      have d2 := g2 2 (by decide) (by decide)
      have d3 := g2 3 (by decide) (by decide)
      have d4 := g2 4 (by decide) (by decide)
      rw [Int.add_zero] at d0
      unfold tE at t0 t1 t2 t3 t4
      rw [if_pos (show r 4 48 (c 4 41 7) = 116 by omega), if_pos (show r 4 48 (c 4 41 7 + 1) = 97 by omega), if_pos (show r 4 48 (c 4 41 7 + 2) = 98 by omega), if_pos (show r 4 48 (c 4 41 7 + 3) = 108 by omega), if_pos (show r 4 48 (c 4 41 7 + 4) = 101 by omega), if_pos (by decide)]
      exact ⟨rfl, .inr ⟨rfl, rfl⟩⟩
    · rw [g1]
      refine ⟨?_, .inl rfl⟩
      symm
      rcases (show i = 0 ∨ i = 1 ∨ i = 2 ∨ i = 3 ∨ i = 4 by omega) with rfl | rfl | rfl | rfl | rfl
      · rw [Int.add_zero] at i2
        unfold tE at t0
        exact ite0 fun _ => (by exfalso; omega)
      · unfold tE at t1
        exact ite0 fun _ => ite0 fun _ => (by exfalso; omega)
      · unfold tE at t2
        exact ite0 fun _ => ite0 fun _ => ite0 fun _ => (by exfalso; omega)
      · unfold tE at t3
        exact ite0 fun _ => ite0 fun _ => ite0 fun _ => ite0 fun _ => (by exfalso; omega)
      · unfold tE at t4
        exact ite0 fun _ => ite0 fun _ => ite0 fun _ => ite0 fun _ => ite0 fun _ => (by exfalso; omega)
  · rw [if_neg (by omega)]
    have e : f96_1 (f95_1 c) c = 0 := by
      unfold f96_1
      rw [if_neg c1]
    exact ⟨e, .inl e⟩
theorem sp2_loop {c : zM} : ∀ (n : Nat) (j : Int), 0 ≤ j → j ≤ 6 → 6 - j < n →
    (fl96_25_2 (fun _ => 0) 1 6 c n j = 1 ∧ ∀ i, j ≤ i → i < 6 → c 4 42 (c 4 41 7 + i) = zch 5 i) ∨ (fl96_25_2 (fun _ => 0) 1 6 c n j = 0 ∧ ∃ i, j ≤ i ∧ i < 6 ∧ c 4 42 (c 4 41 7 + i) ≠ zch 5 i) := by
  intro n
  induction n with
  | zero =>
    intro j h0 h1 h2
    omega
  | succ n ih =>
    intro j h0 h1 h2
    have e : fl96_25_2 (fun _ => 0) 1 6 c (n + 1) j = fl96_25_2_b (fl96_25_2 (fun _ => 0) 1 6 c n) (fun _ => 0) 1 6 c j := rfl
    rw [e]
    unfold fl96_25_2_b
    by_cases c1 : 6 ≤ j
    · rw [if_pos c1]
      exact .inl ⟨rfl, fun i i0 i1 => by omega⟩
    · rw [if_neg c1]
      simp only [zn]
      by_cases c2 : c 4 42 (c 4 41 7 + j) = zch 5 j
      · rw [if_pos c2]
        rcases ih (j + 1) (by omega) (by omega) (by omega) with ⟨g1, g2⟩ | ⟨g1, i, i0, i1, i2⟩
        · refine .inl ⟨g1, fun i i0 i1 => ?_⟩
          by_cases e9 : i = j
          · rw [e9]
            exact c2
          · exact g2 i (by omega) i1
        · exact .inr ⟨g1, i, by omega, i1, i2⟩
      · rw [if_neg c2]
        exact .inr ⟨rfl, j, Int.le_refl _, by omega, c2⟩
theorem word2_eq {c r : zM} (h : TP c r) : f96_2 (f95_1 c) c = f266_1 6 115 101 97 115 111 110 0 r ∧ (f96_2 (f95_1 c) c = 0 ∨ (f96_2 (f95_1 c) c = 1 ∧ f95_1 c = 6)) := by
  obtain ⟨l1, l2, l3⟩ := let_eq h
  have hp := h.2.2.2.1
  unfold f266_1
  simp only [zn]
  rw [l1, ← h.2.2.2.2.2]
  by_cases c1 : f95_1 c = 6
  · have ht : ∀ i, 0 ≤ i → i < 6 → tE (c 4 42 (c 4 41 7 + i)) (r 4 48 (c 4 41 7 + i)) := fun i i0 i1 => h.2.2.1 _ (by omega) (by omega)
    have e : f96_2 (f95_1 c) c = fl96_25_2 (fun _ => 0) 1 6 c (zfu 7) 0 := by
      unfold f96_2
      rw [c1, if_pos rfl, if_pos (by omega)]
    rw [e, c1, if_pos rfl]
    have z0 : zch 5 0 = 115 := by decide +kernel
    have z1 : zch 5 1 = 101 := by decide +kernel
    have z2 : zch 5 2 = 97 := by decide +kernel
    have z3 : zch 5 3 = 115 := by decide +kernel
    have z4 : zch 5 4 = 111 := by decide +kernel
    have z5 : zch 5 5 = 110 := by decide +kernel
    have t0 := ht 0 (by decide) (by decide)
    have t1 := ht 1 (by decide) (by decide)
    have t2 := ht 2 (by decide) (by decide)
    have t3 := ht 3 (by decide) (by decide)
    have t4 := ht 4 (by decide) (by decide)
    have t5 := ht 5 (by decide) (by decide)
    rw [Int.add_zero] at t0
    rcases sp2_loop (c := c) (zfu 7) 0 (by omega) (by omega) (by rw [zfu_eq]; decide) with ⟨g1, g2⟩ | ⟨g1, i, i0, i1, i2⟩
    · rw [g1]
      have d0 := g2 0 (by decide) (by decide)
      have d1 := g2 1 (by decide) (by decide)
      have d2 := g2 2 (by decide) (by decide)
      have d3 := g2 3 (by decide) (by decide)
      have d4 := g2 4 (by decide) (by decide)
      have d5 := g2 5 (by decide) (by decide)
      rw [Int.add_zero] at d0
      unfold tE at t0 t1 t2 t3 t4 t5
      rw [if_pos (show r 4 48 (c 4 41 7) = 115 by omega), if_pos (show r 4 48 (c 4 41 7 + 1) = 101 by omega), if_pos (show r 4 48 (c 4 41 7 + 2) = 97 by omega), if_pos (show r 4 48 (c 4 41 7 + 3) = 115 by omega), if_pos (show r 4 48 (c 4 41 7 + 4) = 111 by omega), if_neg (by decide), if_pos (show r 4 48 (c 4 41 7 + 5) = 110 by omega), if_pos (by decide)]
      exact ⟨rfl, .inr ⟨rfl, rfl⟩⟩
    · rw [g1]
      refine ⟨?_, .inl rfl⟩
      symm
      rcases (show i = 0 ∨ i = 1 ∨ i = 2 ∨ i = 3 ∨ i = 4 ∨ i = 5 by omega) with rfl | rfl | rfl | rfl | rfl | rfl
      · rw [Int.add_zero] at i2
        unfold tE at t0
        exact ite0 fun _ => (by exfalso; omega)
      · unfold tE at t1
        exact ite0 fun _ => ite0 fun _ => (by exfalso; omega)
      · unfold tE at t2
        exact ite0 fun _ => ite0 fun _ => ite0 fun _ => (by exfalso; omega)
      · unfold tE at t3
        exact ite0 fun _ => ite0 fun _ => ite0 fun _ => ite0 fun _ => (by exfalso; omega)
      · unfold tE at t4
        exact ite0 fun _ => ite0 fun _ => ite0 fun _ => ite0 fun _ => ite0 fun _ => (by exfalso; omega)
      · unfold tE at t5
        exact ite0 fun _ => ite0 fun _ => ite0 fun _ => ite0 fun _ => ite0 fun _ => (by rw [if_neg (by decide)]; exact ite0 fun _ => (by exfalso; omega))
  · rw [if_neg (by omega)]
    have e : f96_2 (f95_1 c) c = 0 := by
      unfold f96_2
      rw [if_neg c1]
    exact ⟨e, .inl e⟩
theorem sp3_loop {c : zM} : ∀ (n : Nat) (j : Int), 0 ≤ j → j ≤ 7 → 7 - j < n →
    (fl96_25_3 (fun _ => 0) 1 7 c n j = 1 ∧ ∀ i, j ≤ i → i < 7 → c 4 42 (c 4 41 7 + i) = zch 6 i) ∨ (fl96_25_3 (fun _ => 0) 1 7 c n j = 0 ∧ ∃ i, j ≤ i ∧ i < 7 ∧ c 4 42 (c 4 41 7 + i) ≠ zch 6 i) := by
  intro n
  induction n with
  | zero =>
    intro j h0 h1 h2
    omega
  | succ n ih =>
    intro j h0 h1 h2
    have e : fl96_25_3 (fun _ => 0) 1 7 c (n + 1) j = fl96_25_3_b (fl96_25_3 (fun _ => 0) 1 7 c n) (fun _ => 0) 1 7 c j := rfl
    rw [e]
    unfold fl96_25_3_b
    by_cases c1 : 7 ≤ j
    · rw [if_pos c1]
      exact .inl ⟨rfl, fun i i0 i1 => by omega⟩
    · rw [if_neg c1]
      simp only [zn]
      by_cases c2 : c 4 42 (c 4 41 7 + j) = zch 6 j
      · rw [if_pos c2]
        rcases ih (j + 1) (by omega) (by omega) (by omega) with ⟨g1, g2⟩ | ⟨g1, i, i0, i1, i2⟩
        · refine .inl ⟨g1, fun i i0 i1 => ?_⟩
          by_cases e9 : i = j
          · rw [e9]
            exact c2
          · exact g2 i (by omega) i1
        · exact .inr ⟨g1, i, by omega, i1, i2⟩
      · rw [if_neg c2]
        exact .inr ⟨rfl, j, Int.le_refl _, by omega, c2⟩
theorem word3_eq {c r : zM} (h : TP c r) : f96_3 (f95_1 c) c = f266_1 7 115 112 101 99 105 97 108 r ∧ (f96_3 (f95_1 c) c = 0 ∨ (f96_3 (f95_1 c) c = 1 ∧ f95_1 c = 7)) := by
  obtain ⟨l1, l2, l3⟩ := let_eq h
  have hp := h.2.2.2.1
  unfold f266_1
  simp only [zn]
  rw [l1, ← h.2.2.2.2.2]
  by_cases c1 : f95_1 c = 7
  · have ht : ∀ i, 0 ≤ i → i < 7 → tE (c 4 42 (c 4 41 7 + i)) (r 4 48 (c 4 41 7 + i)) := fun i i0 i1 => h.2.2.1 _ (by omega) (by omega)
    have e : f96_3 (f95_1 c) c = fl96_25_3 (fun _ => 0) 1 7 c (zfu 8) 0 := by
      unfold f96_3
      rw [c1, if_pos rfl, if_pos (by omega)]
    rw [e, c1, if_pos rfl]
    have z0 : zch 6 0 = 115 := by decide +kernel
    have z1 : zch 6 1 = 112 := by decide +kernel
    have z2 : zch 6 2 = 101 := by decide +kernel
    have z3 : zch 6 3 = 99 := by decide +kernel
    have z4 : zch 6 4 = 105 := by decide +kernel
    have z5 : zch 6 5 = 97 := by decide +kernel
    have z6 : zch 6 6 = 108 := by decide +kernel
    have t0 := ht 0 (by decide) (by decide)
    have t1 := ht 1 (by decide) (by decide)
    have t2 := ht 2 (by decide) (by decide)
    have t3 := ht 3 (by decide) (by decide)
    have t4 := ht 4 (by decide) (by decide)
    have t5 := ht 5 (by decide) (by decide)
    have t6 := ht 6 (by decide) (by decide)
    rw [Int.add_zero] at t0
    rcases sp3_loop (c := c) (zfu 8) 0 (by omega) (by omega) (by rw [zfu_eq]; decide) with ⟨g1, g2⟩ | ⟨g1, i, i0, i1, i2⟩
    · rw [g1]
      have d0 := g2 0 (by decide) (by decide)
      have d1 := g2 1 (by decide) (by decide)
      have d2 := g2 2 (by decide) (by decide)
      have d3 := g2 3 (by decide) (by decide)
      have d4 := g2 4 (by decide) (by decide)
      have d5 := g2 5 (by decide) (by decide)
      have d6 := g2 6 (by decide) (by decide)
      rw [Int.add_zero] at d0
      unfold tE at t0 t1 t2 t3 t4 t5 t6
      rw [if_pos (show r 4 48 (c 4 41 7) = 115 by omega), if_pos (show r 4 48 (c 4 41 7 + 1) = 112 by omega), if_pos (show r 4 48 (c 4 41 7 + 2) = 101 by omega), if_pos (show r 4 48 (c 4 41 7 + 3) = 99 by omega), if_pos (show r 4 48 (c 4 41 7 + 4) = 105 by omega), if_neg (by decide), if_pos (show r 4 48 (c 4 41 7 + 5) = 97 by omega), if_neg (by decide), if_pos (show r 4 48 (c 4 41 7 + 6) = 108 by omega)]
      exact ⟨rfl, .inr ⟨rfl, rfl⟩⟩
    · rw [g1]
      refine ⟨?_, .inl rfl⟩
      symm
      rcases (show i = 0 ∨ i = 1 ∨ i = 2 ∨ i = 3 ∨ i = 4 ∨ i = 5 ∨ i = 6 by omega) with rfl | rfl | rfl | rfl | rfl | rfl | rfl
      · rw [Int.add_zero] at i2
        unfold tE at t0
        exact ite0 fun _ => (by exfalso; omega)
      · unfold tE at t1
        exact ite0 fun _ => ite0 fun _ => (by exfalso; omega)
      · unfold tE at t2
        exact ite0 fun _ => ite0 fun _ => ite0 fun _ => (by exfalso; omega)
      · unfold tE at t3
        exact ite0 fun _ => ite0 fun _ => ite0 fun _ => ite0 fun _ => (by exfalso; omega)
      · unfold tE at t4
        exact ite0 fun _ => ite0 fun _ => ite0 fun _ => ite0 fun _ => ite0 fun _ => (by exfalso; omega)
      · unfold tE at t5
        exact ite0 fun _ => ite0 fun _ => ite0 fun _ => ite0 fun _ => ite0 fun _ => (by rw [if_neg (by decide)]; exact ite0 fun _ => (by exfalso; omega))
      · unfold tE at t6
        exact ite0 fun _ => ite0 fun _ => ite0 fun _ => ite0 fun _ => ite0 fun _ => (by rw [if_neg (by decide)]; exact ite0 fun _ => (by rw [if_neg (by decide)]; exact if_neg (fun _ => (by omega))))
  · rw [if_neg (by omega)]
    have e : f96_3 (f95_1 c) c = 0 := by
      unfold f96_3
      rw [if_neg c1]
    exact ⟨e, .inl e⟩
theorem sp4_loop {c : zM} : ∀ (n : Nat) (j : Int), 0 ≤ j → j ≤ 5 → 5 - j < n →
    (fl96_25_4 (fun _ => 0) 1 5 c n j = 1 ∧ ∀ i, j ≤ i → i < 5 → c 4 42 (c 4 41 7 + i) = zch 7 i) ∨ (fl96_25_4 (fun _ => 0) 1 5 c n j = 0 ∧ ∃ i, j ≤ i ∧ i < 5 ∧ c 4 42 (c 4 41 7 + i) ≠ zch 7 i) := by
  intro n
  induction n with
  | zero =>
    intro j h0 h1 h2
    omega
  | succ n ih =>
    intro j h0 h1 h2
    have e : fl96_25_4 (fun _ => 0) 1 5 c (n + 1) j = fl96_25_4_b (fl96_25_4 (fun _ => 0) 1 5 c n) (fun _ => 0) 1 5 c j := rfl
    rw [e]
    unfold fl96_25_4_b
    by_cases c1 : 5 ≤ j
    · rw [if_pos c1]
      exact .inl ⟨rfl, fun i i0 i1 => by omega⟩
    · rw [if_neg c1]
      simp only [zn]
      by_cases c2 : c 4 42 (c 4 41 7 + j) = zch 7 j
      · rw [if_pos c2]
        rcases ih (j + 1) (by omega) (by omega) (by omega) with ⟨g1, g2⟩ | ⟨g1, i, i0, i1, i2⟩
        · refine .inl ⟨g1, fun i i0 i1 => ?_⟩
          by_cases e9 : i = j
          · rw [e9]
            exact c2
          · exact g2 i (by omega) i1
        · exact .inr ⟨g1, i, by omega, i1, i2⟩
      · rw [if_neg c2]
        exact .inr ⟨rfl, j, Int.le_refl _, by omega, c2⟩
theorem word4_eq {c r : zM} (h : TP c r) : f96_4 (f95_1 c) c = f266_1 5 112 114 105 99 101 0 0 r ∧ (f96_4 (f95_1 c) c = 0 ∨ (f96_4 (f95_1 c) c = 1 ∧ f95_1 c = 5)) := by
  obtain ⟨l1, l2, l3⟩ := let_eq h
  have hp := h.2.2.2.1
  unfold f266_1
  simp only [zn]
  rw [l1, ← h.2.2.2.2.2]
  by_cases c1 : f95_1 c = 5
  · have ht : ∀ i, 0 ≤ i → i < 5 → tE (c 4 42 (c 4 41 7 + i)) (r 4 48 (c 4 41 7 + i)) := fun i i0 i1 => h.2.2.1 _ (by omega) (by omega)
    have e : f96_4 (f95_1 c) c = fl96_25_4 (fun _ => 0) 1 5 c (zfu 6) 0 := by
      unfold f96_4
      rw [c1, if_pos rfl, if_pos (by omega)]
    rw [e, c1, if_pos rfl]
    have z0 : zch 7 0 = 112 := by decide +kernel
    have z1 : zch 7 1 = 114 := by decide +kernel
    have z2 : zch 7 2 = 105 := by decide +kernel
    have z3 : zch 7 3 = 99 := by decide +kernel
    have z4 : zch 7 4 = 101 := by decide +kernel
    have t0 := ht 0 (by decide) (by decide)
    have t1 := ht 1 (by decide) (by decide)
    have t2 := ht 2 (by decide) (by decide)
    have t3 := ht 3 (by decide) (by decide)
    have t4 := ht 4 (by decide) (by decide)
    rw [Int.add_zero] at t0
    rcases sp4_loop (c := c) (zfu 6) 0 (by omega) (by omega) (by rw [zfu_eq]; decide) with ⟨g1, g2⟩ | ⟨g1, i, i0, i1, i2⟩
    · rw [g1]
      have d0 := g2 0 (by decide) (by decide)
      have d1 := g2 1 (by decide) (by decide)
      have d2 := g2 2 (by decide) (by decide)
      have d3 := g2 3 (by decide) (by decide)
      have d4 := g2 4 (by decide) (by decide)
      rw [Int.add_zero] at d0
      unfold tE at t0 t1 t2 t3 t4
      rw [if_pos (show r 4 48 (c 4 41 7) = 112 by omega), if_pos (show r 4 48 (c 4 41 7 + 1) = 114 by omega), if_pos (show r 4 48 (c 4 41 7 + 2) = 105 by omega), if_pos (show r 4 48 (c 4 41 7 + 3) = 99 by omega), if_pos (show r 4 48 (c 4 41 7 + 4) = 101 by omega), if_pos (by decide)]
      exact ⟨rfl, .inr ⟨rfl, rfl⟩⟩
    · rw [g1]
      refine ⟨?_, .inl rfl⟩
      symm
      rcases (show i = 0 ∨ i = 1 ∨ i = 2 ∨ i = 3 ∨ i = 4 by omega) with rfl | rfl | rfl | rfl | rfl
      · rw [Int.add_zero] at i2
        unfold tE at t0
        exact ite0 fun _ => (by exfalso; omega)
      · unfold tE at t1
        exact ite0 fun _ => ite0 fun _ => (by exfalso; omega)
      · unfold tE at t2
        exact ite0 fun _ => ite0 fun _ => ite0 fun _ => (by exfalso; omega)
      · unfold tE at t3
        exact ite0 fun _ => ite0 fun _ => ite0 fun _ => ite0 fun _ => (by exfalso; omega)
      · unfold tE at t4
        exact ite0 fun _ => ite0 fun _ => ite0 fun _ => ite0 fun _ => ite0 fun _ => (by exfalso; omega)
  · rw [if_neg (by omega)]
    have e : f96_4 (f95_1 c) c = 0 := by
      unfold f96_4
      rw [if_neg c1]
    exact ⟨e, .inl e⟩
end
section
/-! The calendar's text: tables. -/
theorem N0.congr {c r c' r' : zM} (h : N0 c r) (hc : ∀ i, i = 3 ∨ i = 4 ∨ i = 5 ∨ i = 7 → c' 4 41 i = c 4 41 i) (ht : c' 4 42 = c 4 42) (hr : ∀ i, 5 ≤ i → i ≤ 9 → r' 4 44 i = r 4 44 i) (hb : r' 4 48 = r 4 48) : N0 c' r' := by
  obtain ⟨⟨a1, a2, a3, a4, a5, a6⟩, b1, b2, b3, b4, b5⟩ := h
  have e3 := hc 3 (by omega)
  have e4 := hc 4 (by omega)
  have e5 := hc 5 (by omega)
  have e7 := hc 7 (by omega)
  have f5 := hr 5 (by omega) (by omega)
  have f6 := hr 6 (by omega) (by omega)
  have f7 := hr 7 (by omega) (by omega)
  have f8 := hr 8 (by omega) (by omega)
  have f9 := hr 9 (by omega) (by omega)
  refine ⟨⟨by omega, by omega, fun i i0 i1 => ?_, by omega, by omega, by omega⟩, by omega, by omega, by omega, by omega, by omega⟩
  rw [ht, hb]
  exact a3 i i0 (by omega)
theorem N0.pass {c r : zM} (h : N0 c r) {x : Int} (h0 : 0 ≤ x) (h1 : x ≤ c 4 41 3) : N0 (z_upd c 4 41 7 x) (z_upd r 4 44 8 x) := by
  obtain ⟨a, b1, b2, b3, b4, b5⟩ := h
  refine ⟨a.pres (EC.upd _ _ (by omega)) (ER.upd _ _ (by omega)) (by rw [z_upd_same]; exact h0) (by rw [z_upd_same]; exact h1) (by rw [z_upd_same, z_upd_same]), ?_, ?_, ?_, ?_, ?_⟩ <;> rw [z_upd_o _ _ rfl] <;> assumption
theorem fz_tl {t : Int} : ∀ (n : Nat) (r : zM), r 4 44 9 = 1 → fl269_40_1 (fun m => m) t n r = r
  | 0, _, _ => rfl
  | n + 1, r, h => by
    show fl269_40_1_b (fl269_40_1 (fun m => m) t n) (fun m => m) t r = r
    unfold fl269_40_1_b
    rw [if_neg (by omega)]
/-- what putSwitch and puts leave alone -/
theorem put_c {m : zM} {g : Nat} {t s x : Int} (h0 : 0 ≤ t) (h1 : t < 8) (hc : 0 ≤ m g 12 t ∧ m g 12 t ≤ 6) : (∀ g' k', g' ≠ g ∨ (k' ≠ 12 ∧ k' ≠ 13 ∧ k' ≠ 14) → (f81_1 g t s x m).2 g' k' = m g' k') ∧ (∀ v, v ≠ t → (f81_1 g t s x m).2 g 12 v = m g 12 v) ∧ (f82_1 g t s m = 0 → m g 12 t < 6 → (f81_1 g t s x m).2 g 12 t = m g 12 t + 1) := by
  obtain ⟨v, m1, r1, p1, p2, p3, p4, p5, p6, p7⟩ := put_cls m g t s x h0 h1 hc
  obtain ⟨u, e1, e2, e3, e4, e5⟩ := sb_spec m g t s hc
  rw [p1]
  refine ⟨p6, fun w hw => ?_, fun h2 h3 => ?_⟩
  · show m1 g 12 w = m g 12 w
    rcases p7 with ⟨a1, a2, a3, a4, a5, a6⟩ | ⟨a1, a2, a3, a4⟩ | ⟨a1, a2, a3, a4, a5, a6⟩
    · rw [a4]
    · rw [a4]
    · rw [a4, fu_i _ _ hw]
  · show m1 g 12 t = m g 12 t + 1
    have huv : u = v := by
      rcases Int.lt_trichotomy u v with c | c | c
      · have g1 := p4 u e2 c
        have g2 := e5 (by omega)
        omega
      · exact c
      · have g1 := e4 v p2 c
        have g2 := p5 (by omega)
        omega
    subst huv
    rw [hs_eq m g t s u e1 e2 e3] at h2
    rcases p7 with ⟨a1, a2, a3, a4, a5, a6⟩ | ⟨a1, a2, a3, a4⟩ | ⟨a1, a2, a3, a4, a5, a6⟩
    · rw [if_pos ⟨a1, a2⟩] at h2
      exact absurd h2 (by decide)
    · omega
    · rw [a4, fu_s]
theorem put_r {m : zM} {t s x : Int} (h0 : 0 ≤ t) (h1 : t < 8) (hc : 0 ≤ m 4 45 (287 + t) ∧ m 4 45 (287 + t) ≤ 6) : (∀ g' k', ¬ (g' = 4 ∧ k' = 45) → (f243_1 t s x m).2 g' k' = m g' k') ∧ (∀ i, i < 287 ∨ 390 < i → (f243_1 t s x m).2 4 45 i = m 4 45 i) := by
  obtain ⟨v, m2, r2, p1, p2, p3, p4, p5, p6, p7⟩ := put_ref m t s x h0 h1 hc
  rw [p1]
  refine ⟨p6, fun i hi => ?_⟩
  show m2 4 45 i = m 4 45 i
  rcases p7 with ⟨a1, a2, a3, a4⟩ | ⟨a1, a2, a3, a4⟩ | ⟨a1, a2, a3, a4⟩
  · rw [a4, fu_i _ _ (by omega), fu_i _ _ (by omega), fu_i _ _ (by omega)]
  · rw [a4]
  · rw [a4, fu_i _ _ (by omega), fu_i _ _ (by omega), fu_i _ _ (by omega)]
    unfold shW
    rw [if_neg (by omega)]
/-- the rows of SWITCHES -/
theorem sws_loop {p0 : Int → Int} {t : Int} (t0 : 0 ≤ t) (t1 : t < 8) : ∀ (n n2 : Nat) (k : Int) (c r : zM), N0 c r → PS p0 c r → tbit (c 4 41 9) t = 1 → k = c 3 12 t → 7 - k < n → 7 - k < n2 →
    ∃ v c' r', fl97_38_1 (fun _ m => (0, m)) (fun m => (1, m)) t n k c = (v, c') ∧ fl269_40_1 (fun m => m) t n2 r = r' ∧ ((v = 1 ∧ N0 c' r' ∧ PS p0 c' r') ∨ (v = 0 ∧ FL c' r')) := by
  intro n
  induction n with
  | zero =>
    intro n2 k c r h hp hb hk h1
    have h6 := (hp.2.2.2.2.2.2.2.2.2.2.1 t t0 t1).2
    omega
  | succ n ih =>
    intro n2 k c r h hp hb hk h1 h2
    have h6 := hp.2.2.2.2.2.2.2.2.2.2.1 t t0 t1
    obtain ⟨n2, rfl⟩ : ∃ j, n2 = j + 1 := ⟨n2 - 1, by omega⟩
    show ∃ v c' r', fl97_38_1_b (fl97_38_1 (fun _ m => (0, m)) (fun m => (1, m)) t n) (fun _ m => (0, m)) (fun m => (1, m)) t k c = (v, c') ∧ fl269_40_1_b (fl269_40_1 (fun m => m) t n2) (fun m => m) t r = r' ∧ _
    unfold fl97_38_1_b fl269_40_1_b
    rw [if_neg (show ¬ 6 < k by omega), if_pos h.2.2.2.1]
    obtain ⟨g1, g2, g3, g4, g5⟩ := digit_eq h
    obtain ⟨vd, c1, ed⟩ : ∃ a b, f103_1 c = (a, b) := ⟨_, _, rfl⟩
    obtain ⟨ud, r1, fd⟩ : ∃ a b, f271_1 r = (a, b) := ⟨_, _, rfl⟩
    rw [ed] at g1 g3 g4 g5
    rw [fd] at g2 g3 g4
    dsimp only at g1 g2 g3 g4 g5
    subst g4
    rw [zb_eq ed, zb_eq fd]
    have hp1 := hp.pres g1.ec g2.er
    by_cases cd : ud = 0
    · rw [if_pos cd, if_pos cd]
      exact ⟨_, _, _, rfl, rfl, .inl ⟨rfl, g3, hp1⟩⟩
    rw [if_neg cd, if_neg cd]
    have fin : ∀ (ec : EC c c1), c1 3 12 t = k := fun ec => by rw [ec.g3]; exact hk.symm
    have hk1 := fin g1.ec
    have hb1 : tbit (c1 4 41 9) t = 1 := by rw [g1 _ _ _ (by omega)]; exact hb
    -- the hour
    obtain ⟨q1, q2, q3⟩ := num_eq g3 (most := 23) (by omega)
    obtain ⟨vh, c2, eh⟩ : ∃ a b, f100_1 23 c1 = (a, b) := ⟨_, _, rfl⟩
    obtain ⟨uh, r2, fh⟩ : ∃ a b, f270_1 0 23 r1 = (a, b) := ⟨_, _, rfl⟩
    rw [eh, fh] at q3
    rw [eh] at q1
    rw [fh] at q2
    dsimp only at q1 q2 q3
    unfold f104_1
    rw [zb_eq fh]
    have e104 : ∀ {A : Int → zM → Int × zM}, zb (f100_1 23 c1) A = A vh c2 := zb_eq eh
    rw [e104]
    have frozen : ∀ {c3 r3 : zM}, FL c3 r3 → ∃ v c' r', zb ((0 : Int), c3) (fun v17 m15 => if v17 = 0 then ((0 : Int), m15) else fl97_38_1 (fun _ m => (0, m)) (fun m => (1, m)) t n (k + 1) m15) = (v, c') ∧ fl269_40_1 (fun m => m) t n2 r3 = r' ∧ ((v = 1 ∧ N0 c' r' ∧ PS p0 c' r') ∨ (v = 0 ∧ FL c' r')) := by
      intro c3 r3 hf
      refine ⟨0, c3, r3, ?_, fz_tl n2 r3 hf.2.1, .inr ⟨rfl, hf⟩⟩
      show (if (0 : Int) = 0 then ((0 : Int), c3) else fl97_38_1 (fun _ m => (0, m)) (fun m => (1, m)) t n (k + 1) c3) = (0, c3)
      exact if_pos rfl
    have wrong : ∀ {r3 : zM}, r3 4 44 9 = 1 → (∀ {A : Int → zM → zM} {A' : Int → zM → Int → zM → zM} {B : zM → zM}, (zs (f272_1 58 r3) fun m50 => zb (f270_1 0 59 m50) fun v55 m53 => if (m53 4 44 9) = 0 then A v55 m53 else (zb (f270_1 0 3 m53) fun v60 m58 => if (m58 4 44 9) = 0 then A' v55 m53 v60 m58 else B m58)) = B (f272_1 58 r3)) := by
      intro r3 h3 A A' B
      have h4 := frz h3 58
      simp only [zs, zb, fz_num h4]
      rw [if_neg (by omega), if_neg (by omega)]
    rcases q3 with ⟨a1, a2, a3, a4, a5⟩ | ⟨a1, a2, a3⟩
    case inr =>
      rw [if_pos a1, if_neg (by rw [a3.2.1]; decide), wrong a3.2.1]
      exact frozen (a3.fz (fz_must a3.2.1 58).fz)
    subst a3
    have hp2 := hp1.pres q1 q2
    have hk2 : c2 3 12 t = k := by rw [q1.g3]; exact hk1
    have hr2 : r2 4 45 (287 + t) = k := by rw [← hp2.2.2.2.2.2.2.2.2.2.1.1.1 t t0 t1]; exact hk2
    rw [if_neg (by omega), if_pos a4.2.2.2.1, hr2]
    by_cases c6 : k = 6
    · rw [if_neg (by omega), if_pos c6]
      obtain ⟨f1, f2, f3, f4⟩ := a4.fail (k := 4) (by decide) a5
      obtain ⟨v3, c3, e3⟩ : ∃ a b, f102_1 4 (c2 4 41 8) c2 = (a, b) := ⟨_, _, rfl⟩
      rw [e3] at f1 f2 f3
      dsimp only at f1 f2 f3
      subst f1
      rw [zb_eq e3]
      have e4 : ∀ {A : zM → zM}, zs (f268_1 4 (r2 4 44 10) r2) A = A (f268_1 4 (r2 4 44 10) r2) := zs_eq rfl
      rw [e4, wrong f2.2.1]
      exact frozen (f2.fz (fz_must f2.2.1 58).fz)
    rw [if_pos (by omega), if_neg c6]
    -- the sign
    obtain ⟨s1, s2, s3⟩ := sign_eq a4 (x := 58) (by omega)
    obtain ⟨v3, c3, e3⟩ : ∃ a b, f105_1 58 c2 = (a, b) := ⟨_, _, rfl⟩
    obtain ⟨r3, e4⟩ : ∃ a, f272_1 58 r2 = a := ⟨_, rfl⟩
    rw [e3, e4] at s3
    rw [e3] at s1
    rw [e4] at s2
    dsimp only at s1 s2 s3
    have x1 : ∀ {A : zM → zM}, zs (f272_1 58 r2) A = A r3 := zs_eq e4.symm
    have x2 : ∀ {A : Int → zM → Int × zM}, zb (f105_1 58 c2) A = A v3 c3 := zb_eq e3
    rw [x1, x2]
    rcases s3 with ⟨b1, b2, b3⟩ | ⟨b1, b2⟩
    case inr =>
      rw [if_pos b1, zb_eq (fz_num b2.2.1 0 59), if_neg (by rw [b2.2.1]; decide), zb_eq (fz_num b2.2.1 0 3), if_neg (by rw [b2.2.1]; decide)]
      exact frozen b2
    rw [if_neg (by omega)]
    have hp3 := hp2.pres s1 s2
    have hk3 : c3 3 12 t = k := by rw [s1.g3]; exact hk2
    -- the minute
    obtain ⟨m1, m2, m3⟩ := num_eq b2 (most := 59) (by omega)
    obtain ⟨vm, c4, e5⟩ : ∃ a b, f100_1 59 c3 = (a, b) := ⟨_, _, rfl⟩
    obtain ⟨um, r4, e6⟩ : ∃ a b, f270_1 0 59 r3 = (a, b) := ⟨_, _, rfl⟩
    rw [e5, e6] at m3
    rw [e5] at m1
    rw [e6] at m2
    dsimp only at m1 m2 m3
    have x3 : ∀ {A : Int → zM → zM}, zb (f270_1 0 59 r3) A = A um r4 := zb_eq e6
    have x4 : ∀ {A : Int → zM → Int × zM}, zb (f100_1 59 c3) A = A vm c4 := zb_eq e5
    rw [x3, x4]
    rcases m3 with ⟨d1, d2, d3, d4, d5⟩ | ⟨d1, d2, d3⟩
    case inr =>
      rw [if_pos d1, if_neg (by rw [d3.2.1]; decide), zb_eq (fz_num d3.2.1 0 3), if_neg (by rw [d3.2.1]; decide)]
      exact frozen d3
    subst d3
    rw [if_neg (by omega), if_pos d4.2.2.2.1]
    have hp4 := hp3.pres m1 m2
    have hk4 : c4 3 12 t = k := by rw [m1.g3]; exact hk3
    have hsec : (3600 : Int) * uh + 60 * um = uh * 3600 + um * 60 := by omega
    obtain ⟨w1, w2⟩ := isw_eq (c := c4) (r := r4) (g := 3) (t := t) (s := uh * 3600 + um * 60) hp4.2.2.2.2.2.2.2.2.2.1 hp4.2.2.2.2.2.2.2.2.2.2 t0 t1
    obtain ⟨z, hz⟩ : ∃ z, f82_1 3 t (uh * 3600 + um * 60) c4 = z := ⟨_, rfl⟩
    rw [hz] at w1 w2
    have x5 : ∀ {A : Int → zM}, zn (f273_1 t (3600 * uh + 60 * um) r4) A = A z := zn_eq (by rw [hsec, w1])
    have x6 : ∀ {A : Int → Int × zM}, zn (f82_1 3 t (uh * 3600 + um * 60) c4) A = A z := zn_eq hz.symm
    rw [x5, x6]
    by_cases cz : z = 0
    case neg =>
      rw [if_neg cz, if_neg cz]
      obtain ⟨f1, f2, f3, f4⟩ := d4.fail (k := 3) (by decide) d5
      obtain ⟨v5, c5, e7⟩ : ∃ a b, f102_1 3 (c4 4 41 8) c4 = (a, b) := ⟨_, _, rfl⟩
      obtain ⟨r5, e8⟩ : ∃ a, f268_1 3 (r4 4 44 10) r4 = a := ⟨_, rfl⟩
      rw [e7, e8] at f2
      rw [e7] at f1
      dsimp only at f1 f2
      subst f1
      have x7 : ∀ {A : zM → zM}, zs (f268_1 3 (r4 4 44 10) r4) A = A r5 := zs_eq e8.symm
      rw [zb_eq e7, x7, zb_eq (fz_num f2.2.1 0 3), if_neg (by rw [f2.2.1]; decide)]
      exact frozen f2
    rw [if_pos cz, if_pos cz]
    -- the tariff
    obtain ⟨t2, t3, t4⟩ := num_eq d4 (most := 3) (by omega)
    obtain ⟨vt, c5, e7⟩ : ∃ a b, f100_1 3 c4 = (a, b) := ⟨_, _, rfl⟩
    obtain ⟨ut, r5, e8⟩ : ∃ a b, f270_1 0 3 r4 = (a, b) := ⟨_, _, rfl⟩
    rw [e7, e8] at t4
    rw [e7] at t2
    rw [e8] at t3
    dsimp only at t2 t3 t4
    have x7 : ∀ {A : Int → zM → zM}, zb (f270_1 0 3 r4) A = A ut r5 := zb_eq e8
    have x8 : ∀ {A : Int → zM → Int × zM}, zb (f100_1 3 c4) A = A vt c5 := zb_eq e7
    rw [x7, x8]
    rcases t4 with ⟨g1, g2, g3, g4, g5⟩ | ⟨g1, g2, g3⟩
    case inr =>
      rw [if_pos g1, if_neg (by rw [g3.2.1]; decide)]
      exact frozen g3
    subst g3
    rw [if_neg (by omega), if_pos g4.2.2.2.1]
    have hp5 := hp4.pres t2 t3
    have hk5 : c5 3 12 t = k := by rw [t2.g3]; exact hk4
    obtain ⟨v6, c6, e9⟩ : ∃ a b, f81_1 3 t (uh * 3600 + um * 60) ut c5 = (a, b) := ⟨_, _, rfl⟩
    obtain ⟨u6, r6, e10⟩ : ∃ a b, f243_1 t (3600 * uh + 60 * um) ut r5 = (a, b) := ⟨_, _, rfl⟩
    have x9 : ∀ {A : Int → zM → zM}, zb (f243_1 t (3600 * uh + 60 * um) ut r5) A = A u6 r6 := zb_eq e10
    have x10 : ∀ {A : Int → zM → Int × zM}, zb (f81_1 3 t (uh * 3600 + um * 60) ut c5) A = A v6 c6 := zb_eq e9
    rw [x9, x10]
    rw [hsec] at e10
    have hcr := hp5.2.2.2.2.2.2.2.2.2.1
    have hcb := hp5.2.2.2.2.2.2.2.2.2.2
    obtain ⟨p1, p2⟩ := put_eq (t := t) (s := uh * 3600 + um * 60) (x := ut) hcr hcb t0 t1
    obtain ⟨p3, p4, p5⟩ := put_c (s := uh * 3600 + um * 60) (x := ut) t0 t1 (hcb.1 t t0 t1)
    obtain ⟨p6, p7⟩ := put_r (m := r5) (s := uh * 3600 + um * 60) (x := ut) t0 t1 (by rw [← hcr.1.1 t t0 t1]; exact hcb.1 t t0 t1)
    have p8 := CB.put (s := uh * 3600 + um * 60) (x := ut) hcb t0 t1 (by omega) ⟨g1, g2⟩
    rw [e9] at p2 p3 p4 p5 p8
    rw [e10] at p2 p6 p7
    dsimp only at p2 p3 p4 p5 p6 p7 p8
    have hb5 : tbit (c5 4 41 9) t = 1 := by rw [t2 _ _ _ (by omega), m1 _ _ _ (by omega), s1 _ _ _ (by omega), q1 _ _ _ (by omega)]; exact hb1
    have z5 : f82_1 3 t (uh * 3600 + um * 60) c5 = 0 := by
      have e3 : CR (c5 3) (r4 4 45) := by rw [t2.g3]; exact hp4.2.2.2.2.2.2.2.2.2.1
      rw [← (isw_eq (s := uh * 3600 + um * 60) e3 hcb t0 t1).1, w1]
      exact cz
    have z6 := p5 z5 (by omega)
    have y41 : c6 4 41 = c5 4 41 := p3 4 41 (.inl (by decide))
    have n6 : N0 c6 r6 := g4.congr (fun i _ => by rw [y41]) (p3 4 42 (.inl (by decide))) (fun i _ _ => by rw [p6 4 44 (by decide)]) (p6 4 48 (by decide))
    refine ih n2 (k + 1) c6 r6 n6 ?_ (by rw [y41]; exact hb5) (by omega) (by omega) (by omega)
    obtain ⟨l1, l2, l3, l4, l5, l6, l7, l8, l9, l10, l11⟩ := hp5
    unfold PS
    rw [y41, p6 4 49 (by decide), p6 4 50 (by decide), p6 4 44 (by decide), p3 4 43 (.inl (by decide)), p3 3 11 (.inr (by decide))]
    refine ⟨l1, l2, l3, l4, l5, fun e x0 x1 x2 => ?_, ⟨fun e x0 x1 x2 => ?_, fun i i0 i1 => ?_⟩, l8, fun x0 x1 x2 e => ?_, p2, p8⟩
    · rw [p7 _ (by omega)]
      exact l6 e x0 x1 x2
    · rw [p7 _ (by omega)]
      exact l7.1 e x0 x1 x2
    · rw [p7 _ (by omega)]
      exact l7.2 i i0 i1
    · by_cases e9 : x0 = t
      · subst e9
        rw [hb5] at e
        exact absurd e (by decide)
      · rw [p4 _ e9]
        exact l9 x0 x1 x2 e
end
section
/-! The calendar's text: the four lines. -/
theorem told_eq {c r : zM} (h : N0 c r) {x most : Int} (hx : 0 ≤ x ∧ x < 256) (hm : 0 ≤ most ∧ most < 8) :
    ∃ v c1 u r1, f99_1 most x c = (v, c1) ∧ f270_1 0 most r = (u, r1) ∧ EC c c1 ∧ ER r r1 ∧
      ((0 ≤ v ∧ v ≤ most ∧ u = v ∧ tbit x v = 0 ∧ N0 c1 r1) ∨ (v = -1 ∧ FL c1 r1) ∨ (v = -1 ∧ r1 4 44 9 = 0 ∧ 0 ≤ u ∧ u ≤ most ∧ tbit x u = 1 ∧ FL c1 (f268_1 3 (r1 4 44 10) r1))) := by
  obtain ⟨q1, q2, q3⟩ := num_eq h (most := most) (by omega)
  obtain ⟨v, c1, e1⟩ : ∃ a b, f100_1 most c = (a, b) := ⟨_, _, rfl⟩
  obtain ⟨u, r1, e2⟩ : ∃ a b, f270_1 0 most r = (a, b) := ⟨_, _, rfl⟩
  rw [e1, e2] at q3
  rw [e1] at q1
  rw [e2] at q2
  dsimp only at q1 q2 q3
  unfold f99_1
  rw [zb_eq e1]
  rcases q3 with ⟨a1, a2, a3, a4, a5⟩ | ⟨a1, a2, a3⟩
  · rw [if_neg (by omega)]
    simp only [zn]
    obtain ⟨t1, t2, t3⟩ := tbit_set hx (v := v) (by omega)
    by_cases c1' : tbit x v = 1
    · rw [if_pos (show zand (zshr x v) 1 = 1 from c1')]
      obtain ⟨f1, f2, f3, f4⟩ := a4.fail (k := 3) (by decide) a5
      obtain ⟨v3, c3, e3⟩ : ∃ a b, f102_1 3 (c1 4 41 8) c1 = (a, b) := ⟨_, _, rfl⟩
      rw [e3] at f1 f2 f3
      dsimp only at f1 f2 f3
      rw [zb_eq e3]
      exact ⟨_, _, u, r1, rfl, e2, q1.trans f3, q2, .inr (.inr ⟨rfl, a4.2.2.2.1, by omega, by omega, by rw [a3]; exact c1', f2⟩)⟩
    · rw [if_neg (show ¬ zand (zshr x v) 1 = 1 from c1')]
      exact ⟨_, _, u, r1, rfl, e2, q1, q2, .inl ⟨a1, a2, a3, by omega, a4⟩⟩
  · rw [if_pos a1]
    exact ⟨_, _, u, r1, rfl, e2, q1, q2, .inr (.inl ⟨a1, a3⟩)⟩
/-- what lines tell: done, or a fault on both sides -/
def OUT (p0 : Int → Int) (v : Int) (c r : zM) : Prop := (v = 1 ∧ N0 c r ∧ PS p0 c r) ∨ (v = 0 ∧ FL c r)
theorem PS.n3 {p0 : Int → Int} {c r c' r' : zM} (h : PS p0 c r) (h3 : c' 3 = c 3) (h43 : c' 4 43 = c 4 43) (h45 : r' 4 45 = r 4 45) (h6 : c' 4 41 6 = c 4 41 6) (h13 : r' 4 44 13 = r 4 44 13) (h14 : r' 4 44 14 = r 4 44 14)
    (hb : 0 ≤ c' 4 41 9 ∧ c' 4 41 9 < 256) (hb' : 0 ≤ c' 4 41 10 ∧ c' 4 41 10 < 256) (ht : ∀ v : Int, 0 ≤ v → v < 8 → tbit (c' 4 41 9) v = r' 4 49 v) (hs : ∀ v : Int, 0 ≤ v → v < 4 → tbit (c' 4 41 10) v = r' 4 50 v)
    (ht0 : ∀ v : Int, 0 ≤ v → v < 8 → tbit (c' 4 41 9) v = 0 → c 3 12 v = 0) : PS p0 c' r' := by
  obtain ⟨l1, l2, l3, l4, l5, l6, l7, l8, l9, l10, l11⟩ := h
  unfold PS
  rw [h3, h43, h45, h6, h13, h14]
  exact ⟨hb, hb', ht, hs, l5, l6, l7, l8, ht0, l10, l11⟩
theorem table_eq {p0 : Int → Int} {c r : zM} (h : N0 c r) (hp : PS p0 c r) (hl : c 4 41 7 + 5 ≤ c 4 41 3) :
    ∃ v c' r', f97_1 c = (v, c') ∧ f269_1 (z_upd r 4 44 8 (c 4 41 7 + 5)) = r' ∧ OUT p0 v c' r' := by
  have h0 : 0 ≤ c 4 41 7 := h.1.2.2.2.1
  have hN := h.pass (x := c 4 41 7 + 5) (by omega) hl
  have hP : PS p0 (z_upd c 4 41 7 (c 4 41 7 + 5)) (z_upd r 4 44 8 (c 4 41 7 + 5)) := hp.pres (EC.upd _ _ (by omega)) (ER.upd _ _ (by omega))
  unfold f97_1 f269_1
  simp only [zs]
  generalize z_upd c 4 41 7 (c 4 41 7 + 5) = c0 at hN hP ⊢
  generalize z_upd r 4 44 8 (c 4 41 7 + 5) = r0 at hN hP ⊢
  obtain ⟨v, c1, u, r1, e1, e2, g1, g2, g3⟩ := told_eq hN (x := c0 4 41 9) (most := 7) hP.1 (by omega)
  rw [zb_eq e1, zb_eq e2]
  have hP1 := hP.pres g1 g2
  rcases g3 with ⟨a1, a2, a3, a4, a5⟩ | ⟨a1, a2⟩ | ⟨a1, a2, a3, a4, a5, a6⟩
  · subst a3
    have e9 : c1 4 41 9 = c0 4 41 9 := g1 _ _ _ (by omega)
    obtain ⟨t1, t2, t3⟩ := tbit_set hP1.1 (v := u) (by omega)
    rw [← e9] at a4
    have e49 : r1 4 49 u = 0 := by rw [← hP1.2.2.1 u a1 (by omega)]; exact a4
    rw [if_neg (by omega), if_pos a5.2.2.2.1, if_pos e49]
    simp only [zn]
    obtain ⟨b, hb⟩ : ∃ b, b = zor (c1 4 41 9) (zshl 1 u) := ⟨_, rfl⟩
    rw [← hb] at t1 t3 ⊢
    have hN2 : N0 (z_upd c1 4 41 9 b) (z_upd r1 4 49 u 1) := a5.congr (fun i hi => z_upd_i _ _ _ _ (by omega)) (zu_k _ _ _ (by decide)) (fun i _ _ => z_upd_o _ _ rfl) (zu_k _ _ _ (by decide))
    have hP2 : PS p0 (z_upd c1 4 41 9 b) (z_upd r1 4 49 u 1) := by
      refine hP1.n3 (zu_g _ _ _ (by decide)) (zu_k _ _ _ (by decide)) (zu_k _ _ _ (by decide)) (z_upd_o _ _ rfl) (z_upd_o _ _ rfl) (z_upd_o _ _ rfl) ?_ ?_ ?_ ?_ ?_
      · rw [z_upd_same]
        exact t1
      · rw [z_upd_o _ _ rfl]
        exact hP1.2.1
      · intro v v0 v1
        rw [z_upd_same, t3 v v0 v1, zu_row]
        by_cases e : v = u
        · rw [if_pos e, e, fu_s]
        · rw [if_neg e, fu_i _ _ e]
          exact hP1.2.2.1 v v0 v1
      · intro v v0 v1
        rw [z_upd_o _ _ rfl, zu_k _ _ _ (by decide)]
        exact hP1.2.2.2.1 v v0 v1
      · intro v v0 v1 e
        rw [z_upd_same, t3 v v0 v1] at e
        by_cases e8 : v = u
        · rw [if_pos e8] at e
          exact absurd e (by decide)
        · rw [if_neg e8] at e
          exact hP1.2.2.2.2.2.2.2.2.1 v v0 v1 e
    have hc0 : c1 3 12 u = 0 := hP1.2.2.2.2.2.2.2.2.1 u a1 (by omega) a4
    refine sws_loop a1 (by omega) (zfu 8) (zfu 605) 0 _ _ hN2 hP2 ?_ ?_ (by rw [zfu_eq]; omega) (by rw [zfu_eq]; omega)
    · rw [z_upd_same, t3 u a1 (by omega), if_pos rfl]
    · rw [z_upd_o _ _ rfl]
      exact hc0.symm
  · rw [if_pos a1, if_neg (by rw [a2.2.1]; decide)]
    have hz : z_upd r1 4 49 u 1 4 44 9 = 1 := by rw [z_upd_o _ _ rfl]; exact a2.2.1
    exact ⟨_, _, _, rfl, rfl, .inr ⟨rfl, by rw [fz_tl _ _ hz]; exact a2.fz (FZ.upd _ _ _ (by decide))⟩⟩
  · have e9 : c1 4 41 9 = c0 4 41 9 := g1 _ _ _ (by omega)
    rw [← e9, hP1.2.2.1 u a3 (by omega)] at a5
    rw [if_pos a1, if_pos a2, if_neg (by omega)]
    generalize f268_1 3 (r1 4 44 10) r1 = r2 at a6 ⊢
    have hz : z_upd r2 4 49 u 1 4 44 9 = 1 := by rw [z_upd_o _ _ rfl]; exact a6.2.1
    exact ⟨_, _, _, rfl, rfl, .inr ⟨rfl, by rw [fz_tl _ _ hz]; exact a6.fz (FZ.upd _ _ _ (by decide))⟩⟩
end
section
/-! The calendar's text: SEASONS, SPECIAL days, PRICES. -/
theorem fz_fu {r : zM} (h : r 4 44 9 = 1) {k : Nat} (hk : k ≠ 44) (i x : Int) : z_upd r 4 k i x 4 44 9 = 1 := by
  rw [z_upd_o _ _ (by simp only [Ne.symm hk, false_and, decide_false])]
  exact h
theorem fz_se {v : Int} : ∀ (n : Nat) (y : Int) (r : zM), r 4 44 9 = 1 → FZ r (fl274_60_1 (fun m => m) v n y r)
  | 0, _, r, _ => FZ.rf r
  | n + 1, y, r, h => by
    show FZ r (fl274_60_1_b (fl274_60_1 (fun m => m) v n) (fun m => m) v y r)
    unfold fl274_60_1_b
    by_cases c : 7 ≤ y
    · rw [if_pos c]
      exact FZ.rf r
    · rw [if_neg c, zb_eq (fz_num h 0 7)]
      exact (FZ.upd _ _ _ (by decide)).trans (fz_se n _ _ (fz_fu h (by decide) _ _))
theorem PS.year {p0 : Int → Int} {c r : zM} (h : PS p0 c r) {s x : Int} (s0 : 0 ≤ s) (s1 : s < 4) (x0 : 0 ≤ x) (x1 : x ≤ 364) : PS p0 (z_upd c 3 15 s x) (z_upd r 4 45 (391 + s) x) := by
  obtain ⟨l1, l2, l3, l4, l5, l6, l7, l8, l9, l10, l11⟩ := h
  unfold PS
  have e4 : z_upd c 3 15 s x 4 = c 4 := zu_g _ _ _ (by decide)
  rw [e4, zu_k _ _ _ (show (49 : Nat) ≠ 45 by decide), zu_k _ _ _ (show (50 : Nat) ≠ 45 by decide), zu_k _ _ _ (show (44 : Nat) ≠ 45 by decide), zu_k _ _ _ (show (11 : Nat) ≠ 15 by decide), zu_k _ _ _ (show (12 : Nat) ≠ 15 by decide)]
  refine ⟨l1, l2, l3, l4, l5, fun e t t0 t1 => ?_, ⟨fun e t t0 t1 => ?_, fun i i0 i1 => ?_⟩, l8, l9, ⟨?_, ?_, ?_⟩, ?_⟩
  · rw [zu_row, fu_i _ _ (by omega)]
    exact l6 e t t0 t1
  · rw [zu_row, fu_i _ _ (by omega)]
    exact l7.1 e t t0 t1
  · rw [zu_row, fu_i _ _ (by omega)]
    exact l7.2 i i0 i1
  · rw [zu_k _ _ _ (show (12 : Nat) ≠ 15 by decide), zu_k _ _ _ (show (13 : Nat) ≠ 15 by decide), zu_k _ _ _ (show (14 : Nat) ≠ 15 by decide), zu_row]
    exact l10.1.w l11.n6 (fun i i0 i1 => fu_i _ _ (by omega))
  · rw [zu_row, zu_k _ _ _ (show (16 : Nat) ≠ 15 by decide), zu_row]
    exact l10.2.1.season s0 s1
  · rw [zu_k _ _ _ (show (11 : Nat) ≠ 15 by decide), zu_k _ _ _ (show (17 : Nat) ≠ 15 by decide), zu_k _ _ _ (show (18 : Nat) ≠ 15 by decide), zu_row]
    exact l10.2.2.w l11.d (fun i i0 i1 => fu_i _ _ (by omega))
  · obtain ⟨b1, b2, b3, b4, b5, b6, b7, b8⟩ := l11
    unfold CB
    rw [zu_k _ _ _ (show (11 : Nat) ≠ 15 by decide), zu_k _ _ _ (show (12 : Nat) ≠ 15 by decide), zu_k _ _ _ (show (13 : Nat) ≠ 15 by decide), zu_k _ _ _ (show (14 : Nat) ≠ 15 by decide), zu_k _ _ _ (show (16 : Nat) ≠ 15 by decide), zu_k _ _ _ (show (17 : Nat) ≠ 15 by decide), zu_k _ _ _ (show (18 : Nat) ≠ 15 by decide), zu_row]
    refine ⟨b1, b2, b3, b4, b5, b6, fun i i0 i1 => ?_, b8⟩
    unfold fu
    split
    · omega
    · exact b7 i i0 i1
theorem PS.week {p0 : Int → Int} {c r : zM} (h : PS p0 c r) {d x : Int} (s0 : 0 ≤ d) (s1 : d < 28) (x0 : 0 ≤ x) (x1 : x ≤ 7) : PS p0 (z_upd c 3 16 d x) (z_upd r 4 45 (395 + d) x) := by
  obtain ⟨l1, l2, l3, l4, l5, l6, l7, l8, l9, l10, l11⟩ := h
  unfold PS
  have e4 : z_upd c 3 16 d x 4 = c 4 := zu_g _ _ _ (by decide)
  rw [e4, zu_k _ _ _ (show (49 : Nat) ≠ 45 by decide), zu_k _ _ _ (show (50 : Nat) ≠ 45 by decide), zu_k _ _ _ (show (44 : Nat) ≠ 45 by decide), zu_k _ _ _ (show (11 : Nat) ≠ 16 by decide), zu_k _ _ _ (show (12 : Nat) ≠ 16 by decide)]
  refine ⟨l1, l2, l3, l4, l5, fun e t t0 t1 => ?_, ⟨fun e t t0 t1 => ?_, fun i i0 i1 => ?_⟩, l8, l9, ⟨?_, ?_, ?_⟩, ?_⟩
  · rw [zu_row, fu_i _ _ (by omega)]
    exact l6 e t t0 t1
  · rw [zu_row, fu_i _ _ (by omega)]
    exact l7.1 e t t0 t1
  · rw [zu_row, fu_i _ _ (by omega)]
    exact l7.2 i i0 i1
  · rw [zu_k _ _ _ (show (12 : Nat) ≠ 16 by decide), zu_k _ _ _ (show (13 : Nat) ≠ 16 by decide), zu_k _ _ _ (show (14 : Nat) ≠ 16 by decide), zu_row]
    exact l10.1.w l11.n6 (fun i i0 i1 => fu_i _ _ (by omega))
  · rw [zu_k _ _ _ (show (15 : Nat) ≠ 16 by decide), zu_row, zu_row]
    exact l10.2.1.week s0 s1
  · rw [zu_k _ _ _ (show (11 : Nat) ≠ 16 by decide), zu_k _ _ _ (show (17 : Nat) ≠ 16 by decide), zu_k _ _ _ (show (18 : Nat) ≠ 16 by decide), zu_row]
    exact l10.2.2.w l11.d (fun i i0 i1 => fu_i _ _ (by omega))
  · obtain ⟨b1, b2, b3, b4, b5, b6, b7, b8⟩ := l11
    unfold CB
    rw [zu_k _ _ _ (show (11 : Nat) ≠ 16 by decide), zu_k _ _ _ (show (12 : Nat) ≠ 16 by decide), zu_k _ _ _ (show (13 : Nat) ≠ 16 by decide), zu_k _ _ _ (show (14 : Nat) ≠ 16 by decide), zu_k _ _ _ (show (15 : Nat) ≠ 16 by decide), zu_k _ _ _ (show (17 : Nat) ≠ 16 by decide), zu_k _ _ _ (show (18 : Nat) ≠ 16 by decide), zu_row]
    refine ⟨b1, b2, b3, b4, b5, b6, b7, fun i i0 i1 => ?_⟩
    unfold fu
    split
    · omega
    · exact b8 i i0 i1
theorem N0.cal {c r : zM} (h : N0 c r) {g k : Nat} (hg : g ≠ 4) (i x : Int) {k' : Nat} (hk : k' ≠ 44 ∧ k' ≠ 48) (i' x' : Int) : N0 (z_upd c g k i x) (z_upd r 4 k' i' x') :=
  h.congr (fun j _ => by rw [zu_g _ _ _ (fun e => hg e.symm)]) (by rw [zu_g _ _ _ (fun e => hg e.symm)]) (fun j _ _ => by rw [zu_k _ _ _ (fun e => hk.1 e.symm)]) (zu_k _ _ _ (fun e => hk.2 e.symm))
/-- the seven TARIFF tables of a season -/
theorem week_loop {p0 : Int → Int} {s : Int} (s0 : 0 ≤ s) (s1 : s < 4) : ∀ (n n2 : Nat) (j : Int) (c r : zM), N0 c r → PS p0 c r → 0 ≤ j → j ≤ 7 → 7 - j < n → 7 - j < n2 →
    ∃ v c' r', fl106_62_1 (fun _ _ m => (0, m)) (fun m => (1, m)) s n j c = (v, c') ∧ fl274_60_1 (fun m => m) s n2 j r = r' ∧ OUT p0 v c' r' := by
  intro n
  induction n with
  | zero =>
    intro n2 j c r h hp j0 j1 h1
    omega
  | succ n ih =>
    intro n2 j c r h hp j0 j1 h1 h2
    obtain ⟨n2, rfl⟩ : ∃ j, n2 = j + 1 := ⟨n2 - 1, by omega⟩
    show ∃ v c' r', fl106_62_1_b (fl106_62_1 (fun _ _ m => (0, m)) (fun m => (1, m)) s n) (fun _ _ m => (0, m)) (fun m => (1, m)) s j c = (v, c') ∧ fl274_60_1_b (fl274_60_1 (fun m => m) s n2) (fun m => m) s j r = r' ∧ _
    unfold fl106_62_1_b fl274_60_1_b
    by_cases c1 : 7 ≤ j
    · rw [if_pos c1, if_pos c1]
      exact ⟨1, c, r, rfl, rfl, .inl ⟨rfl, h, hp⟩⟩
    rw [if_neg c1, if_neg c1]
    obtain ⟨q1, q2, q3⟩ := num_eq h (most := 7) (by omega)
    obtain ⟨v, c2, e1⟩ : ∃ a b, f100_1 7 c = (a, b) := ⟨_, _, rfl⟩
    obtain ⟨u, r2, e2⟩ : ∃ a b, f270_1 0 7 r = (a, b) := ⟨_, _, rfl⟩
    rw [e1, e2] at q3
    rw [e1] at q1
    rw [e2] at q2
    dsimp only at q1 q2 q3
    rw [zb_eq e1, zb_eq e2]
    rcases q3 with ⟨a1, a2, a3, a4, a5⟩ | ⟨a1, a2, a3⟩
    · subst a3
      rw [if_neg (by omega), show s * 7 + j = 7 * s + j by omega, show (395 : Int) + 7 * s + j = 395 + (7 * s + j) by omega]
      exact ih n2 (j + 1) _ _ (a4.cal (by decide) _ _ ⟨by decide, by decide⟩ _ _) ((hp.pres q1 q2).week (by omega) (by omega) a1 a2) (by omega) (by omega) (by omega) (by omega)
    · rw [if_pos a1]
      exact ⟨0, c2, _, rfl, rfl, .inr ⟨rfl, (a3.fz (FZ.upd _ _ _ (by decide))).fz (fz_se n2 _ _ (fz_fu a3.2.1 (by decide) _ _))⟩⟩
theorem season_eq {p0 : Int → Int} {c r : zM} (h : N0 c r) (hp : PS p0 c r) (hl : c 4 41 7 + 6 ≤ c 4 41 3) :
    ∃ v c' r', f106_1 c = (v, c') ∧ f274_1 (z_upd r 4 44 8 (c 4 41 7 + 6)) = r' ∧ OUT p0 v c' r' := by
  have h0 : 0 ≤ c 4 41 7 := h.1.2.2.2.1
  have hN := h.pass (x := c 4 41 7 + 6) (by omega) hl
  have hP : PS p0 (z_upd c 4 41 7 (c 4 41 7 + 6)) (z_upd r 4 44 8 (c 4 41 7 + 6)) := hp.pres (EC.upd _ _ (by omega)) (ER.upd _ _ (by omega))
  unfold f106_1 f274_1
  simp only [zs]
  generalize z_upd c 4 41 7 (c 4 41 7 + 6) = c0 at hN hP ⊢
  generalize z_upd r 4 44 8 (c 4 41 7 + 6) = r0 at hN hP ⊢
  obtain ⟨v, c1, u, r1, e1, e2, g1, g2, g3⟩ := told_eq hN (x := c0 4 41 10) (most := 3) hP.2.1 (by omega)
  rw [zb_eq e1, zb_eq e2]
  have hP1 := hP.pres g1 g2
  have wrong : ∀ {r2 : zM} {u : Int}, FL c1 r2 → FL c1 (zb (f270_1 0 364 (z_upd r2 4 50 u 1)) fun v23 m21 => fl274_60_1 (fun m26 => m26) u (zfu 8) 0 (z_upd m21 4 45 (391 + u) v23)) := by
    intro r2 u hf
    have h1 := fz_fu hf.2.1 (show (50 : Nat) ≠ 44 by decide) u 1
    rw [zb_eq (fz_num h1 0 364)]
    exact ((hf.fz (FZ.upd _ _ _ (by decide))).fz (FZ.upd _ _ _ (by decide))).fz (fz_se _ _ _ (fz_fu h1 (by decide) _ _))
  rcases g3 with ⟨a1, a2, a3, a4, a5⟩ | ⟨a1, a2⟩ | ⟨a1, a2, a3, a4, a5, a6⟩
  · subst a3
    have e9 : c1 4 41 10 = c0 4 41 10 := g1 _ _ _ (by omega)
    obtain ⟨t1, t2, t3⟩ := tbit_set hP1.2.1 (v := u) (by omega)
    rw [← e9] at a4
    have e50 : r1 4 50 u = 0 := by rw [← hP1.2.2.2.1 u a1 (by omega)]; exact a4
    rw [if_neg (by omega), if_pos a5.2.2.2.1, if_pos e50]
    simp only [zn]
    obtain ⟨b, hb⟩ : ∃ b, b = zor (c1 4 41 10) (zshl 1 u) := ⟨_, rfl⟩
    rw [← hb] at t1 t3 ⊢
    have hN2 : N0 (z_upd c1 4 41 10 b) (z_upd r1 4 50 u 1) := a5.congr (fun i hi => z_upd_i _ _ _ _ (by omega)) (zu_k _ _ _ (by decide)) (fun i _ _ => z_upd_o _ _ rfl) (zu_k _ _ _ (by decide))
    have hP2 : PS p0 (z_upd c1 4 41 10 b) (z_upd r1 4 50 u 1) := by
      refine hP1.n3 (zu_g _ _ _ (by decide)) (zu_k _ _ _ (by decide)) (zu_k _ _ _ (by decide)) (z_upd_o _ _ rfl) (z_upd_o _ _ rfl) (z_upd_o _ _ rfl) ?_ ?_ ?_ ?_ ?_
      · rw [z_upd_o _ _ rfl]
        exact hP1.1
      · rw [z_upd_same]
        exact t1
      · intro v v0 v1
        rw [z_upd_o _ _ rfl, zu_k _ _ _ (by decide)]
        exact hP1.2.2.1 v v0 v1
      · intro v v0 v1
        rw [z_upd_same, t3 v v0 (by omega), zu_row]
        by_cases e : v = u
        · rw [if_pos e, e, fu_s]
        · rw [if_neg e, fu_i _ _ e]
          exact hP1.2.2.2.1 v v0 v1
      · intro v v0 v1 e
        rw [z_upd_o _ _ rfl] at e
        exact hP1.2.2.2.2.2.2.2.2.1 v v0 v1 e
    generalize z_upd c1 4 41 10 b = c2 at hN2 hP2 ⊢
    generalize z_upd r1 4 50 u 1 = r2 at hN2 hP2 ⊢
    obtain ⟨q1, q2, q3⟩ := num_eq hN2 (most := 364) (by omega)
    obtain ⟨v, c3, e3⟩ : ∃ a b, f100_1 364 c2 = (a, b) := ⟨_, _, rfl⟩
    obtain ⟨u3, r3, e4⟩ : ∃ a b, f270_1 0 364 r2 = (a, b) := ⟨_, _, rfl⟩
    rw [e3, e4] at q3
    rw [e3] at q1
    rw [e4] at q2
    dsimp only at q1 q2 q3
    rw [zb_eq e3, zb_eq e4]
    rcases q3 with ⟨b1, b2, b3, b4, b5⟩ | ⟨b1, b2, b3⟩
    · subst b3
      rw [if_neg (by omega)]
      exact week_loop a1 (by omega) (zfu 8) (zfu 8) 0 _ _ (b4.cal (by decide) _ _ ⟨by decide, by decide⟩ _ _) ((hP2.pres q1 q2).year a1 (by omega) b1 b2) (by omega) (by omega) (by rw [zfu_eq]; omega) (by rw [zfu_eq]; omega)
    · rw [if_pos b1]
      exact ⟨0, c3, _, rfl, rfl, .inr ⟨rfl, (b3.fz (FZ.upd _ _ _ (by decide))).fz (fz_se _ _ _ (fz_fu b3.2.1 (by decide) _ _))⟩⟩
  · rw [if_pos a1, if_neg (by rw [a2.2.1]; decide)]
    exact ⟨_, _, _, rfl, rfl, .inr ⟨rfl, wrong a2⟩⟩
  · have e9 : c1 4 41 10 = c0 4 41 10 := g1 _ _ _ (by omega)
    rw [← e9, hP1.2.2.2.1 u a3 (by omega)] at a5
    rw [if_pos a1, if_pos a2, if_neg (by omega)]
    exact ⟨_, _, _, rfl, rfl, .inr ⟨rfl, wrong a6⟩⟩
end
