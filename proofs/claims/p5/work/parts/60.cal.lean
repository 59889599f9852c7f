/-! The calendar on both sides: what the two functions find in it. -/
theorem JB.o {B : Int} {m : zM} (h : JB B m) : J (zQ [] []) m B m := h.j
/-- how many special days there are among the first n -/
def spN (w : Int → Int) : Nat → Int
  | 0 => 0
  | n + 1 => spN w n + if w (423 + (n : Int)) = -1 then 0 else 1
/-- tables, seasons, special days of the class against the reference's row w -/
def CT (a12 a13 a14 w : Int → Int) : Prop :=
  (∀ t : Int, 0 ≤ t → t < 8 → a12 t = w (287 + t)) ∧
  (∀ t k : Int, 0 ≤ t → t < 8 → 0 ≤ k → k < a12 t → a13 (t * 6 + k) = w (295 + 6 * t + k) ∧ a14 (t * 6 + k) = w (343 + 6 * t + k)) ∧
  (∀ t k : Int, 0 ≤ t → t < 8 → 0 ≤ k → k + 1 < a12 t → a13 (t * 6 + k) < a13 (t * 6 + k + 1))
def CS (a15 a16 w : Int → Int) : Prop :=
  (∀ s : Int, 0 ≤ s → s < 4 → a15 s = w (391 + s)) ∧ (∀ d : Int, 0 ≤ d → d < 28 → a16 d = w (395 + d))
def CP (n : Int) (a17 a18 w : Int → Int) : Prop :=
  (∀ k : Int, 0 ≤ k → k < n → w (423 + a17 k) = a18 k) ∧
  (∀ j k : Int, 0 ≤ j → j < k → k < n → a17 j ≠ a17 k) ∧
  (∀ d : Int, 0 ≤ d → d < 365 → w (423 + d) ≠ -1 → ∃ k, 0 ≤ k ∧ k < n ∧ a17 k = d) ∧
  spN w 365 = n
def CR (c : Nat → Int → Int) (w : Int → Int) : Prop := CT (c 12) (c 13) (c 14) w ∧ CS (c 15) (c 16) w ∧ CP (c 11 7) (c 17) (c 18) w
/-- numbers of the class' calendar within their bounds -/
def CB (c : Nat → Int → Int) : Prop :=
  (∀ t : Int, 0 ≤ t → t < 8 → 0 ≤ c 12 t ∧ c 12 t ≤ 6) ∧ (0 ≤ c 11 7 ∧ c 11 7 ≤ 16) ∧
  (∀ k : Int, 0 ≤ k → k < 16 → 0 ≤ c 17 k ∧ c 17 k ≤ 364) ∧ (∀ k : Int, 0 ≤ k → k < 16 → 0 ≤ c 18 k ∧ c 18 k ≤ 7) ∧
  (∀ i : Int, 0 ≤ i → i < 48 → 0 ≤ c 13 i ∧ c 13 i ≤ 86399) ∧ (∀ i : Int, 0 ≤ i → i < 48 → 0 ≤ c 14 i ∧ c 14 i ≤ 3) ∧
  (∀ s : Int, 0 ≤ s → s < 4 → -1 ≤ c 15 s ∧ c 15 s ≤ 364) ∧ (∀ d : Int, 0 ≤ d → d < 28 → 0 ≤ c 16 d ∧ c 16 d ≤ 7)
theorem CB.of {B : Int} {m : zM} (h : JB B m) (g : Nat) : CB (m g) :=
  ⟨fun t h0 h1 => r12_0 h.o g (i := t) ⟨h0, by omega⟩, r11_7 h.o g, fun k h0 h1 => r17_0 h.o g (i := k) ⟨h0, by omega⟩, fun k h0 h1 => r18_0 h.o g (i := k) ⟨h0, by omega⟩,
   fun i h0 h1 => r13_0 h.o g (i := i) ⟨h0, by omega⟩, fun i h0 h1 => r14_0 h.o g (i := i) ⟨h0, by omega⟩, fun s h0 h1 => r15_0 h.o g (i := s) ⟨h0, by omega⟩, fun d h0 h1 => r16_0 h.o g (i := d) ⟨h0, by omega⟩⟩
theorem spN_congr {w w' : Int → Int} : ∀ n : Nat, (∀ d : Int, 0 ≤ d → d < n → w' (423 + d) = w (423 + d)) → spN w' n = spN w n
  | 0, _ => rfl
  | n + 1, h => by
    unfold spN
    rw [spN_congr n (fun d h0 h1 => h d h0 (by omega)), h n (by omega) (by omega)]
theorem CT.w {a12 a13 a14 w w' : Int → Int} (h : CT a12 a13 a14 w) (hb : ∀ t : Int, 0 ≤ t → t < 8 → a12 t ≤ 6) (hw : ∀ i : Int, 287 ≤ i → i ≤ 390 → w' i = w i) : CT a12 a13 a14 w' :=
  ⟨fun t h0 h1 => by rw [hw _ (by omega) (by omega)]; exact h.1 t h0 h1, fun t k h0 h1 h2 h3 => by
    have := hb t h0 h1
    rw [hw _ (by omega) (by omega), hw _ (by omega) (by omega)]
    exact h.2.1 t k h0 h1 h2 h3, h.2.2⟩
theorem CS.w {a15 a16 w w' : Int → Int} (h : CS a15 a16 w) (hw : ∀ i : Int, 391 ≤ i → i ≤ 422 → w' i = w i) : CS a15 a16 w' :=
  ⟨fun s h0 h1 => by rw [hw _ (by omega) (by omega)]; exact h.1 s h0 h1, fun d h0 h1 => by rw [hw _ (by omega) (by omega)]; exact h.2 d h0 h1⟩
theorem CP.w {n : Int} {a17 a18 w w' : Int → Int} (h : CP n a17 a18 w) (hb : ∀ k : Int, 0 ≤ k → k < n → 0 ≤ a17 k ∧ a17 k ≤ 364) (hw : ∀ i : Int, 423 ≤ i → i ≤ 787 → w' i = w i) : CP n a17 a18 w' :=
  ⟨fun k h0 h1 => by
    have := hb k h0 h1
    rw [hw _ (by omega) (by omega)]
    exact h.1 k h0 h1, h.2.1, fun d h0 h1 h2 => h.2.2.1 d h0 h1 (by rwa [hw _ (by omega) (by omega)] at h2), by rw [← h.2.2.2]; exact spN_congr 365 (fun d h0 h1 => hw _ (by omega) (by omega))⟩
theorem CB.n6 {c : Nat → Int → Int} (h : CB c) : ∀ t : Int, 0 ≤ t → t < 8 → c 12 t ≤ 6 := fun t h0 h1 => (h.1 t h0 h1).2
theorem CB.d {c : Nat → Int → Int} (h : CB c) : ∀ k : Int, 0 ≤ k → k < c 11 7 → 0 ≤ c 17 k ∧ c 17 k ≤ 364 := fun k h0 h1 => h.2.2.1 k h0 (by have := h.2.1; omega)
theorem CR.w {c : Nat → Int → Int} {w w' : Int → Int} (h : CR c w) (hb : CB c) (hw : ∀ i : Int, 287 ≤ i → i ≤ 787 → w' i = w i) : CR c w' :=
  ⟨h.1.w hb.n6 (fun i h0 h1 => hw i h0 (by omega)), h.2.1.w (fun i h0 h1 => hw i (by omega) (by omega)), h.2.2.w hb.d (fun i h0 h1 => hw i (by omega) h1)⟩
theorem CR.c {c c' : Nat → Int → Int} {w : Int → Int} (h : CR c w) (h11 : c' 11 7 = c 11 7) (h12 : c' 12 = c 12) (h13 : c' 13 = c 13) (h14 : c' 14 = c 14) (h15 : c' 15 = c 15) (h16 : c' 16 = c 16) (h17 : c' 17 = c 17) (h18 : c' 18 = c 18) : CR c' w := by
  unfold CR
  rw [h11, h12, h13, h14, h15, h16, h17, h18]
  exact h
/-! switchesBefore -/
theorem sb_loop {m : zM} {g : Nat} {y1 y2 y3 : Int} : ∀ (n : Nat) (y4 : Int), 0 ≤ y4 → y4 ≤ m g 12 y1 → m g 12 y1 - y4 < n → (∀ k, 0 ≤ k → k < y4 → m g 13 (y3 + k) < y2) →
    ∃ v, fl32_8_1 (fun y => y) g y1 y2 y3 m n y4 = v ∧ 0 ≤ v ∧ v ≤ m g 12 y1 ∧ (∀ k, 0 ≤ k → k < v → m g 13 (y3 + k) < y2) ∧ (v < m g 12 y1 → y2 ≤ m g 13 (y3 + v)) := by
  intro n
  induction n with
  | zero =>
    intro y4 h0 h1 h2
    omega
  | succ n ih =>
    intro y4 h0 h1 h2 h3
    show ∃ v, fl32_8_1_b (fl32_8_1 (fun y => y) g y1 y2 y3 m n) (fun y => y) g y1 y2 y3 m y4 = v ∧ _
    unfold fl32_8_1_b
    split
    · exact ⟨y4, rfl, h0, by omega, h3, by omega⟩
    · split
      · rename_i h5
        exact ⟨y4, rfl, h0, h1, h3, fun _ => h5⟩
      · refine ih (y4 + 1) (by omega) (by omega) (by omega) (fun k hk hk2 => ?_)
        by_cases e : k = y4
        · subst e
          omega
        · exact h3 k hk (by omega)
theorem sb_spec (m : zM) (g : Nat) (t s : Int) (h : 0 ≤ m g 12 t ∧ m g 12 t ≤ 6) : ∃ v, f32_1 g t s m = v ∧ 0 ≤ v ∧ v ≤ m g 12 t ∧ (∀ k, 0 ≤ k → k < v → m g 13 (t * 6 + k) < s) ∧ (v < m g 12 t → s ≤ m g 13 (t * 6 + v)) :=
  sb_loop (zfu 7) 0 (by omega) (by omega) (by rw [zfu_eq]; omega) (fun k _ _ => by omega)
/-- later switches have later seconds -/
theorem CR.mono {c : Nat → Int → Int} {w : Int → Int} (h : CR c w) {t : Int} (h0 : 0 ≤ t) (h1 : t < 8) : ∀ (n : Nat) (j k : Int), 0 ≤ j → k = j + n → k < c 12 t → c 13 (t * 6 + j) ≤ c 13 (t * 6 + k)
  | 0, j, k, _, e, _ => by
    rw [show k = j by omega]
    exact Int.le_refl _
  | n + 1, j, k, hj, e, hk => by
    have e1 := CR.mono h h0 h1 n j (k - 1) hj (by omega) (by omega)
    have e2 := h.1.2.2 t (k - 1) h0 h1 (by omega) (by omega)
    rw [show t * 6 + (k - 1) + 1 = t * 6 + k by omega] at e2
    omega
/-! the TARIFF -/
theorem ta_loop {m n' : zM} {g : Nat} {y1 t s v : Int} (h : CR (m g) (n' 4 45)) (h0 : 0 ≤ t) (h1 : t < 8) (hs : y1.tmod 86400 = s) (v0 : 0 ≤ v) (v1 : v ≤ m g 12 t) (v2 : ∀ k, 0 ≤ k → k < v → m g 13 (t * 6 + k) < s + 1) (v3 : v < m g 12 t → s + 1 ≤ m g 13 (t * 6 + v)) :
    ∀ (n : Nat) (y3 y4 : Int), 0 ≤ y4 → y4 ≤ m g 12 t → m g 12 t - y4 < n → (y4 = 0 ∨ v = 0 → y3 = 0) → (0 < y4 → y4 ≤ v → y3 = m g 14 (t * 6 + y4 - 1)) → (0 < v → v < y4 → y3 = m g 14 (t * 6 + v - 1)) →
    fl217_14_1 (fun y => y) y1 t n' n y3 y4 = if v = 0 then 0 else m g 14 (t * 6 + v - 1) := by
  intro n
  induction n with
  | zero =>
    intro y3 y4 a0 a1 a2
    omega
  | succ n ih =>
    intro y3 y4 a0 a1 a2 a3 a4 a5
    show fl217_14_1_b (fl217_14_1 (fun y => y) y1 t n' n) (fun y => y) y1 t n' y3 y4 = _
    unfold fl217_14_1_b
    have e1 := h.1.1 t h0 h1
    rw [← e1]
    by_cases c1 : y4 < m g 12 t
    · rw [if_pos c1]
      simp only [zn, hs]
      obtain ⟨e2, e3⟩ := h.1.2.1 t y4 h0 h1 a0 c1
      rw [← e2, ← e3]
      by_cases c2 : y4 < v
      · have := v2 y4 a0 c2
        rw [if_pos (by omega)]
        refine ih _ (y4 + 1) (by omega) (by omega) (by omega) (fun e => by omega) (fun _ _ => ?_) (fun e1 e2 => by omega)
        congr 1
        omega
      · have h9 : m g 13 (t * 6 + v) ≤ m g 13 (t * 6 + y4) := h.mono h0 h1 (y4 - v).toNat v y4 v0 (by omega) c1
        have := v3 (by omega)
        rw [if_neg (by omega)]
        refine ih _ (y4 + 1) (by omega) (by omega) (by omega) (fun e => a3 (by omega)) (fun e1 e2 => by omega) (fun e1 e2 => ?_)
        by_cases c3 : y4 = v
        · rw [a4 (by omega) (by omega), c3]
        · exact a5 e1 (by omega)
    · rw [if_neg c1]
      by_cases c2 : v = 0
      · rw [if_pos c2]
        exact a3 (.inr c2)
      · rw [if_neg c2]
        by_cases c3 : v < y4
        · exact a5 (by omega) c3
        · rw [a4 (by omega) (by omega), show y4 = v by omega]
/-! SEASONS -/
theorem se_loop {m n' : zM} {g : Nat} {d : Int} (h : ∀ s : Int, 0 ≤ s → s < 4 → m g 15 s = n' 4 45 (391 + s)) : ∀ (n : Nat) (y2 y3 y4 : Int), 0 ≤ y4 → -1 ≤ y2 → y2 < 4 → 0 ≤ y3 → y3 < 4 →
    fl30_7_1 (fun a b => zn (if a = (-1) then b else a) fun v => v) g d m n y2 y3 y4 = fl219_7_1 (fun a b => zn (if a = (-1) then b else a) fun v => v) d n' n y2 y3 y4 := by
  intro n
  induction n with
  | zero => intro y2 y3 y4 _ _ _ _ _; rfl
  | succ n ih =>
    intro y2 y3 y4 h0 h1 h2 h3 h4
    show fl30_7_1_b (fl30_7_1 _ g d m n) _ g d m y2 y3 y4 = fl219_7_1_b (fl219_7_1 _ d n' n) _ d n' y2 y3 y4
    unfold fl30_7_1_b fl219_7_1_b
    by_cases c1 : 4 ≤ y4
    · rw [if_pos c1, if_pos c1]
    · rw [if_neg c1, if_neg c1, h y4 h0 (by omega)]
      by_cases c2 : n' 4 45 (391 + y4) = -1
      · rw [if_pos c2, if_pos c2]
        exact ih y2 y3 (y4 + 1) (by omega) h1 h2 h3 h4
      · rw [if_neg c2, if_neg c2]
        simp only [zn]
        rw [h y3 h3 h4]
        have e : (if d < n' 4 45 (391 + y4) then y2 else if y2 = -1 then y4 else if n' 4 45 (391 + y4) ≤ m g 15 y2 then y2 else y4) = (if n' 4 45 (391 + y4) ≤ d then (if y2 = -1 then y4 else if n' 4 45 (391 + y4) ≤ n' 4 45 (391 + y2) then y2 else y4) else y2) := by
          by_cases c3 : d < n' 4 45 (391 + y4)
          · rw [if_pos c3, if_neg (by omega)]
          · rw [if_neg c3, if_pos (show n' 4 45 (391 + y4) ≤ d by omega)]
            by_cases c4 : y2 = -1
            · rw [if_pos c4, if_pos c4]
            · rw [if_neg c4, if_neg c4, h y2 (by omega) h2]
        rw [e]
        refine ih _ _ (y4 + 1) (by omega) ?_ ?_ ?_ ?_
        · split
          · split
            · omega
            · split <;> omega
          · omega
        · split
          · split
            · omega
            · split <;> omega
          · omega
        · split <;> omega
        · split <;> omega
theorem se_eq {m n' : zM} {g : Nat} (h : CR (m g) (n' 4 45)) (d : Int) : f30_1 g d m = f219_1 d n' := se_loop h.2.1.1 (zfu 5) (-1) 0 0 (by omega) (by omega) (by omega) (by omega) (by omega)
theorem se_rng_loop {n' : zM} {d : Int} : ∀ (n : Nat) (y2 y3 y4 : Int), 0 ≤ y4 → y4 ≤ 4 → 4 - y4 < n → -1 ≤ y2 → y2 < 4 → 0 ≤ y3 → y3 < 4 →
    0 ≤ fl219_7_1 (fun a b => zn (if a = (-1) then b else a) fun v => v) d n' n y2 y3 y4 ∧ fl219_7_1 (fun a b => zn (if a = (-1) then b else a) fun v => v) d n' n y2 y3 y4 < 4 := by
  intro n
  induction n with
  | zero => intro y2 y3 y4 h0 h1 h2; omega
  | succ n ih =>
    intro y2 y3 y4 h0 h1 h2 h3 h4 h5 h6
    show 0 ≤ fl219_7_1_b (fl219_7_1 _ d n' n) _ d n' y2 y3 y4 ∧ fl219_7_1_b (fl219_7_1 _ d n' n) _ d n' y2 y3 y4 < 4
    unfold fl219_7_1_b
    by_cases c1 : 4 ≤ y4
    · rw [if_pos c1]
      simp only [zn]
      split <;> omega
    · rw [if_neg c1]
      by_cases c2 : n' 4 45 (391 + y4) = -1
      · rw [if_pos c2]
        exact ih y2 y3 (y4 + 1) (by omega) (by omega) (by omega) h3 h4 h5 h6
      · rw [if_neg c2]
        simp only [zn]
        refine ih _ _ (y4 + 1) (by omega) (by omega) (by omega) ?_ ?_ ?_ ?_
        · split
          · split
            · omega
            · split <;> omega
          · omega
        · split
          · split
            · omega
            · split <;> omega
          · omega
        · split <;> omega
        · split <;> omega
theorem se_rng (n' : zM) (d : Int) : 0 ≤ f219_1 d n' ∧ f219_1 d n' < 4 := se_rng_loop (zfu 5) (-1) 0 0 (by omega) (by omega) (by rw [zfu_eq]; omega) (by omega) (by omega) (by omega) (by omega)
/-! SPECIAL days -/
theorem sp_loop {m : zM} {g : Nat} {d : Int} : ∀ (n : Nat) (y2 : Int), 0 ≤ y2 → y2 ≤ m g 11 7 → m g 11 7 - y2 < n → (∀ k, 0 ≤ k → k < y2 → m g 17 k ≠ d) →
    (fl29_2_1 (fun y => y) (-1) g d m n y2 = -1 ∧ ∀ k, 0 ≤ k → k < m g 11 7 → m g 17 k ≠ d) ∨ (0 ≤ fl29_2_1 (fun y => y) (-1) g d m n y2 ∧ fl29_2_1 (fun y => y) (-1) g d m n y2 < m g 11 7 ∧ m g 17 (fl29_2_1 (fun y => y) (-1) g d m n y2) = d) := by
  intro n
  induction n with
  | zero => intro y2 h0 h1 h2; omega
  | succ n ih =>
    intro y2 h0 h1 h2 h3
    have e : fl29_2_1 (fun y => y) (-1) g d m (n + 1) y2 = fl29_2_1_b (fl29_2_1 (fun y => y) (-1) g d m n) (fun y => y) (-1) g d m y2 := rfl
    rw [e]
    unfold fl29_2_1_b
    by_cases c1 : m g 11 7 ≤ y2
    · rw [if_pos c1]
      exact .inl ⟨rfl, fun k k0 k1 => h3 k k0 (by omega)⟩
    · rw [if_neg c1]
      by_cases c2 : m g 17 y2 = d
      · rw [if_pos c2]
        exact .inr ⟨h0, (by show y2 < m g 11 7; omega), c2⟩
      · rw [if_neg c2]
        refine ih (y2 + 1) (by omega) (by omega) (by omega) (fun k k0 k1 => ?_)
        by_cases c3 : k = y2
        · rw [c3]; exact c2
        · exact h3 k k0 (by omega)
theorem sp_spec (m : zM) (g : Nat) (d : Int) (h : 0 ≤ m g 11 7 ∧ m g 11 7 ≤ 16) : (f29_1 g d m = -1 ∧ ∀ k, 0 ≤ k → k < m g 11 7 → m g 17 k ≠ d) ∨ (0 ≤ f29_1 g d m ∧ f29_1 g d m < m g 11 7 ∧ m g 17 (f29_1 g d m) = d) :=
  sp_loop (zfu 17) 0 (by omega) (by omega) (by rw [zfu_eq]; omega) (fun k _ _ => by omega)
/-- a SPECIAL day on both sides -/
theorem CR.sp {m n' : zM} {g : Nat} (h : CR (m g) (n' 4 45)) (hb : CB (m g)) {d : Int} (h0 : 0 ≤ d) (h1 : d < 365) :
    (f29_1 g d m = -1 ∧ n' 4 45 (423 + d) = -1 ∧ ∀ k, 0 ≤ k → k < m g 11 7 → m g 17 k ≠ d) ∨ (0 ≤ f29_1 g d m ∧ f29_1 g d m < m g 11 7 ∧ m g 17 (f29_1 g d m) = d ∧ n' 4 45 (423 + d) = m g 18 (f29_1 g d m) ∧ n' 4 45 (423 + d) ≠ -1) := by
  rcases sp_spec m g d hb.2.1 with ⟨e1, e2⟩ | ⟨e1, e2, e3⟩
  · refine .inl ⟨e1, ?_, e2⟩
    by_cases c : n' 4 45 (423 + d) = -1
    · exact c
    · obtain ⟨k, k0, k1, k2⟩ := h.2.2.2.2.1 d h0 h1 c
      exact absurd k2 (e2 k k0 k1)
  · have e4 := h.2.2.1 _ e1 e2
    rw [e3] at e4
    have e5 := hb.2.2.2.1 (f29_1 g d m) e1 (by have := hb.2.1; omega)
    exact .inr ⟨e1, e2, e3, e4, by omega⟩
/-- TABLE of a DAY -/
theorem tb_eq {m n' : zM} {g : Nat} (h : CR (m g) (n' 4 45)) (hb : CB (m g)) {d : Int} (h0 : 0 ≤ d) : f28_1 g d m = f218_1 d n' ∧ 0 ≤ f218_1 d n' ∧ f218_1 d n' < 8 := by
  unfold f28_1 f218_1
  simp only [zn]
  have hd : 0 ≤ d % 365 ∧ d % 365 < 365 := by omega
  rcases h.sp hb hd.1 hd.2 with ⟨e1, e2, e3⟩ | ⟨e1, e2, e3, e4, e5⟩
  · rw [if_pos e1, if_pos e2, se_eq h]
    have e6 := se_rng n' (d % 365)
    have e7 := h.2.1.2 (f219_1 (d % 365) n' * 7 + d % 7) (by omega) (by omega)
    have e8 := hb.2.2.2.2.2.2.2 (f219_1 (d % 365) n' * 7 + d % 7) (by omega) (by omega)
    rw [show (395 + 7 * f219_1 (d % 365) n' + d % 7) = 395 + (f219_1 (d % 365) n' * 7 + d % 7) by omega, ← e7]
    exact ⟨rfl, e8.1, by omega⟩
  · rw [if_neg (by omega), if_neg e5, e4]
    have e6 := hb.2.2.2.1 (f29_1 g (d % 365) m) e1 (by have := hb.2.1; omega)
    exact ⟨rfl, e6.1, by omega⟩
/-- TARIFF at a SECOND of a TABLE -/
theorem tn_eq {m n' : zM} {g : Nat} (h : CR (m g) (n' 4 45)) (hb : CB (m g)) {t y1 : Int} (h0 : 0 ≤ t) (h1 : t < 8) : f31_1 g t (y1.tmod 86400) m = fl217_14_1 (fun y => y) y1 t n' (zfu 7) 0 0 := by
  unfold f31_1
  simp only [zn]
  have hc := hb.1 t h0 h1
  obtain ⟨v, e1, e2, e3, e4, e5⟩ := sb_spec m g t (y1.tmod 86400 + 1) hc
  rw [e1]
  exact (ta_loop h h0 h1 rfl e2 e3 e4 e5 (zfu 7) 0 0 (by omega) (by omega) (by rw [zfu_eq]; omega) (fun _ => rfl) (fun e => by omega) (fun _ e => by omega)).symm
/-- TARIFF at a TIME -/
theorem tf_eq {m n' : zM} {g : Nat} (h : CR (m g) (n' 4 45)) (hb : CB (m g)) {x : Int} (h0 : 0 ≤ x) : f27_1 g x m = f217_1 x n' := by
  unfold f27_1 f217_1
  simp only [zn]
  have e1 : x.tdiv 86400 = x / 86400 := Int.tdiv_eq_ediv_of_nonneg h0
  have e2 : x.tmod 86400 = x % 86400 := Int.tmod_eq_emod_of_nonneg h0
  obtain ⟨e3, e4, e5⟩ := tb_eq h hb (d := x / 86400) (by omega)
  rw [e1, e3, ← e2]
  exact tn_eq h hb e4 e5
