/-! The class sums the period up. -/
def cT (c : Nat → Int → Int) (P N : Int) (q : Nat) (k f : Nat) : Int := match q with
  | 0 => c 20 ((k : Int) * P + f) * c 21 ((k : Int) * P + f)
  | 1 => c 20 ((k : Int) * P + f) * c 21 ((((k : Int) + N / 4) % N) * P + f)
  | 2 => c 20 ((k : Int) * P + f) * c 20 ((k : Int) * P + f)
  | _ => c 21 ((k : Int) * P + f) * c 21 ((k : Int) * P + f)
/-- k whole rows are summed up, and F of the next -/
def IN (c : Nat → Int → Int) (P N : Int) (k F : Nat) (a22 : Int → Int) : Prop := ∀ q : Nat, q < 4 → (∀ f : Nat, (f : Int) < P → a22 ((q : Int) * 4 + f) = sumN (fun j => cT c P N q j f) (if f < F then k + 1 else k)) ∧
  a22 ((q : Int) * 4 + 3) = sumN (fun f => sumN (fun j => cT c P N q j f) k) P.toNat + sumN (fun f => cT c P N q k f) F
def cB5 (c : Nat → Int → Int) : Prop := ∀ i, 0 ≤ i → i < 48 → (-500 ≤ c 20 i ∧ c 20 i ≤ 500) ∧ (-500 ≤ c 21 i ∧ c 21 i ≤ 500)
theorem idx48 {P N : Int} {k f : Int} (hP : 1 ≤ P ∧ P ≤ 3) (hN : 4 ≤ N ∧ N ≤ 16) (k0 : 0 ≤ k) (k1 : k < N) (f0 : 0 ≤ f) (f1 : f < P) : 0 ≤ k * P + f ∧ k * P + f < 48 := by
  rcases (show P = 1 ∨ P = 2 ∨ P = 3 by omega) with rfl | rfl | rfl <;> omega
theorem cT_b {c : Nat → Int → Int} (h : cB5 c) {P N : Int} (hP : 1 ≤ P ∧ P ≤ 3) (hN : 4 ≤ N ∧ N ≤ 16) (q : Nat) {k f : Nat} (hk : (k : Int) < N) (hf : (f : Int) < P) : -250000 ≤ cT c P N q k f ∧ cT c P N q k f ≤ 250000 := by
  obtain ⟨i0, i1⟩ := idx48 hP hN (k := (k : Int)) (f := (f : Int)) (by omega) hk (by omega) hf
  obtain ⟨u, v⟩ := h _ i0 i1
  unfold cT
  split
  · exact mul_bd u v
  · have e1 : 0 ≤ ((k : Int) + N / 4) % N := Int.emod_nonneg _ (by omega)
    have e2 : ((k : Int) + N / 4) % N < N := Int.emod_lt_of_pos _ (by omega)
    obtain ⟨j0, j1⟩ := idx48 hP hN (k := ((k : Int) + N / 4) % N) (f := (f : Int)) e1 e2 (by omega) hf
    exact mul_bd u (h _ j0 j1).2
  · exact mul_bd u u
  · exact mul_bd v v
/-- one number is added -/
theorem add22 (m : zM) (g : Nat) {q f x : Int} (hx : -250000 ≤ x ∧ x ≤ 250000) (hq : 0 ≤ q ∧ q < 4) (hf : 0 ≤ f ∧ f < 3) (h1 : -100000000 ≤ m g 22 (q * 4 + f) ∧ m g 22 (q * 4 + f) ≤ 100000000) (h2 : -100000000 ≤ m g 22 (q * 4 + 3) ∧ m g 22 (q * 4 + 3) ≤ 100000000) :
    (∀ i, f22_1 g q f x m g 22 i = if i = q * 4 + f ∨ i = q * 4 + 3 then m g 22 i + x else m g 22 i) ∧ ∀ g' k, (g' ≠ g ∨ k ≠ 22) → f22_1 g q f x m g' k = m g' k := by
  unfold f22_1
  simp only [zn_a, zs_a]
  have e : z_upd m g 22 (q * 4 + f) (w64 (m g 22 (q * 4 + f) + x)) g 22 (q * 4 + 3) = m g 22 (q * 4 + 3) := by rw [zu_row, fu_i _ _ (by omega)]
  rw [e, w64_id (by omega), w64_id (by omega)]
  refine ⟨fun i => ?_, fun g' k h => ?_⟩
  · rw [zu_row, zu_row]
    by_cases a : i = q * 4 + 3
    · rw [a, fu_s, if_pos (.inr rfl)]
    · rw [fu_i _ _ a]
      by_cases b : i = q * 4 + f
      · rw [b, fu_s, if_pos (.inl rfl)]
      · rw [fu_i _ _ b, if_neg (by omega)]
  · rcases h with h | h
    · rw [zu_g _ _ _ h, zu_g _ _ _ h]
    · rw [zu_k _ _ _ h, zu_k _ _ _ h]
/-- what IN says of sizes -/
theorem IN.bd {c : Nat → Int → Int} {P N : Int} {k F : Nat} {a : Int → Int} (h : IN c P N k F a) (hc : cB5 c) (hP : 1 ≤ P ∧ P ≤ 3) (hN : 4 ≤ N ∧ N ≤ 16) (hk : (k : Int) < N) (hF : (F : Int) ≤ P) {q : Nat} (hq : q < 4) :
    (∀ f : Nat, (f : Int) < P → -100000000 ≤ a ((q : Int) * 4 + f) ∧ a ((q : Int) * 4 + f) ≤ 100000000) ∧ -100000000 ≤ a ((q : Int) * 4 + 3) ∧ a ((q : Int) * 4 + 3) ≤ 100000000 := by
  obtain ⟨h1, h2⟩ := h q hq
  refine ⟨fun f hf => ?_, ?_⟩
  · rw [h1 f hf]
    have b := sumN_bd (f := fun j => cT c P N q j f) (b := 250000) (if f < F then k + 1 else k) (fun j hj => cT_b hc hP hN q (by split at hj <;> omega) hf)
    have : (((if f < F then k + 1 else k) : Nat) : Int) ≤ 17 := by split <;> omega
    omega
  · rw [h2]
    have b := sumN_bd (f := fun f => cT c P N q k f) (b := 250000) F (fun j hj => cT_b hc hP hN q hk (by omega))
    have d := sumN_bd (f := fun f => sumN (fun j => cT c P N q j f) k) (b := 4000000) P.toNat (fun f hf => by
      have e := sumN_bd (f := fun j => cT c P N q j f) (b := 250000) k (fun j hj => cT_b hc hP hN q (by omega) (by omega))
      omega)
    omega
theorem sumIf (f : Nat → Int) (k : Nat) (p q : Prop) [Decidable p] [Decidable q] (x : Int) (h : (q ∧ ¬ p ∧ x = f k) ∨ ((p ↔ q) ∧ x = 0)) : sumN f (if p then k + 1 else k) + x = sumN f (if q then k + 1 else k) := by
  rcases h with ⟨a, b, e⟩ | ⟨a, e⟩
  · rw [if_pos a, if_neg b, e]
    rfl
  · rw [e]
    by_cases hp : p
    · rw [if_pos hp, if_pos (a.mp hp)]
      omega
    · rw [if_neg hp, if_neg (fun h => hp (a.mpr h))]
      omega
theorem sumup_in {g : Nat} {kk : zM → zM} {c : Nat → Int → Int} {P N : Int} {k : Nat} (hc : cB5 c) (hP : 1 ≤ P ∧ P ≤ 3) (hN : 4 ≤ N ∧ N ≤ 16) (hk : (k : Int) < N) : ∀ (n F : Nat) (m : zM), (F : Int) ≤ P → P - F < n → IN c P N k F (m g 22) → m g 19 3 = P → m g 19 4 = N → (∀ i, m g 20 i = c 20 i) → (∀ i, m g 21 i = c 21 i) →
    ∃ m', fl21_37_1 kk g (N / 4) k (((k : Int) + N / 4) % N) n F m = kk m' ∧ IN c P N k P.toNat (m' g 22) ∧ (∀ g' j, (g' ≠ g ∨ j ≠ 22) → m' g' j = m g' j)
  | 0, F, m, h0, h1, h2, h3, h4, h5, h6 => by omega
  | n + 1, F, m, h0, h1, h2, h3, h4, h5, h6 => by
    show ∃ m', fl21_37_1_b (fl21_37_1 kk g (N / 4) k (((k : Int) + N / 4) % N) n) kk g (N / 4) k (((k : Int) + N / 4) % N) F m = kk m' ∧ _
    unfold fl21_37_1_b
    by_cases h : m g 19 3 ≤ (F : Int)
    · rw [if_pos h]
      refine ⟨m, rfl, ?_, fun _ _ _ => rfl⟩
      rw [show P.toNat = F by omega]
      exact h2
    · rw [if_neg h]
      simp only [zn_a, zs_a]
      have hF : (F : Int) < P := by omega
      have hf3 : (0 : Int) ≤ (F : Int) ∧ (F : Int) < 3 := by omega
      rw [h3, h5, h6]
      obtain ⟨m1, q1⟩ : ∃ x, x = f22_1 g 0 F (c 20 ((k : Int) * P + F) * c 21 ((k : Int) * P + F)) m := ⟨_, rfl⟩
      have t0 := cT_b hc hP hN 0 hk hF
      have b0 := h2.bd hc hP hN hk h0 (q := 0) (by omega)
      obtain ⟨a1, a2⟩ := add22 m g (q := 0) (f := (F : Int)) (x := cT c P N 0 k F) t0 (by omega) hf3 (b0.1 F hF) b0.2
      have e1 : f22_1 g 0 F (cT c P N 0 k F) m = m1 := q1.symm
      rw [e1] at a1 a2
      rw [← q1, a2 g 19 (.inr (by decide)), a2 g 20 (.inr (by decide)), a2 g 21 (.inr (by decide)), h3, h5, h6]
      obtain ⟨m2, q2⟩ : ∃ x, x = f22_1 g 1 F (c 20 ((k : Int) * P + F) * c 21 ((((k : Int) + N / 4) % N) * P + F)) m1 := ⟨_, rfl⟩
      have t1 := cT_b hc hP hN 1 hk hF
      have b1 := h2.bd hc hP hN hk h0 (q := 1) (by omega)
      have s1 : ∀ i, 4 ≤ i → m1 g 22 i = m g 22 i := fun i hi => by rw [a1 i, if_neg (by omega)]
      obtain ⟨a3, a4⟩ := add22 m1 g (q := 1) (f := (F : Int)) (x := cT c P N 1 k F) t1 (by omega) hf3 (by rw [s1 _ (by omega)]; exact b1.1 F hF) (by rw [s1 _ (by omega)]; exact b1.2)
      have e2 : f22_1 g 1 F (cT c P N 1 k F) m1 = m2 := q2.symm
      rw [e2] at a3 a4
      rw [← q2, a4 g 20 (.inr (by decide)), a2 g 20 (.inr (by decide)), h5]
      obtain ⟨m3, q3⟩ : ∃ x, x = f22_1 g 2 F (c 20 ((k : Int) * P + F) * c 20 ((k : Int) * P + F)) m2 := ⟨_, rfl⟩
      have t2 := cT_b hc hP hN 2 hk hF
      have b2 := h2.bd hc hP hN hk h0 (q := 2) (by omega)
      have s2 : ∀ i, 8 ≤ i → m2 g 22 i = m g 22 i := fun i hi => by rw [a3 i, if_neg (by omega), s1 i (by omega)]
      obtain ⟨a5, a6⟩ := add22 m2 g (q := 2) (f := (F : Int)) (x := cT c P N 2 k F) t2 (by omega) hf3 (by rw [s2 _ (by omega)]; exact b2.1 F hF) (by rw [s2 _ (by omega)]; exact b2.2)
      have e3 : f22_1 g 2 F (cT c P N 2 k F) m2 = m3 := q3.symm
      rw [e3] at a5 a6
      rw [← q3, a6 g 21 (.inr (by decide)), a4 g 21 (.inr (by decide)), a2 g 21 (.inr (by decide)), h6]
      obtain ⟨m4, q4⟩ : ∃ x, x = f22_1 g 3 F (c 21 ((k : Int) * P + F) * c 21 ((k : Int) * P + F)) m3 := ⟨_, rfl⟩
      have t3 := cT_b hc hP hN 3 hk hF
      have b3 := h2.bd hc hP hN hk h0 (q := 3) (by omega)
      have s3 : ∀ i, 12 ≤ i → m3 g 22 i = m g 22 i := fun i hi => by rw [a5 i, if_neg (by omega), s2 i (by omega)]
      obtain ⟨a7, a8⟩ := add22 m3 g (q := 3) (f := (F : Int)) (x := cT c P N 3 k F) t3 (by omega) hf3 (by rw [s3 _ (by omega)]; exact b3.1 F hF) (by rw [s3 _ (by omega)]; exact b3.2)
      have e4 : f22_1 g 3 F (cT c P N 3 k F) m3 = m4 := q4.symm
      rw [e4] at a7 a8
      rw [← q4]
      have fr : ∀ g' j, (g' ≠ g ∨ j ≠ 22) → m4 g' j = m g' j := fun g' j hj => by rw [a8 g' j hj, a6 g' j hj, a4 g' j hj, a2 g' j hj]
      -- what row 22 is now
      have tot : ∀ (q : Nat), q < 4 → ∀ i : Int, (q : Int) * 4 ≤ i → i < (q : Int) * 4 + 4 → m4 g 22 i = if i = (q : Int) * 4 + F ∨ i = (q : Int) * 4 + 3 then m g 22 i + cT c P N q k F else m g 22 i := by
        intro q hq i i0 i1
        rcases (show q = 0 ∨ q = 1 ∨ q = 2 ∨ q = 3 by omega) with rfl | rfl | rfl | rfl
        · rw [a7 i, if_neg (by omega), a5 i, if_neg (by omega), a3 i, if_neg (by omega), a1 i]
          rfl
        · rw [a7 i, if_neg (by omega), a5 i, if_neg (by omega), a3 i, s1 i (by omega)]
          rfl
        · rw [a7 i, if_neg (by omega), a5 i, s2 i (by omega)]
          rfl
        · rw [a7 i, s3 i (by omega)]
          rfl
      have hIN : IN c P N k (F + 1) (m4 g 22) := by
        intro q hq
        obtain ⟨g1, g2⟩ := h2 q hq
        refine ⟨fun f hf => ?_, ?_⟩
        · rw [tot q hq _ (by omega) (by omega)]
          have g3 := g1 f hf
          by_cases e : f = F
          · rw [if_pos (.inl (by rw [e])), g3]
            exact sumIf _ _ _ _ _ (.inl ⟨by omega, by omega, by rw [e]⟩)
          · rw [if_neg (by omega), g3, ← Int.add_zero (sumN _ (if f < F then k + 1 else k))]
            exact sumIf _ _ _ _ _ (.inr ⟨by omega, rfl⟩)
        · rw [tot q hq _ (by omega) (by omega), if_pos (.inr rfl), g2]
          show _ + _ + cT c P N q k F = _ + (sumN (fun f => cT c P N q k f) F + cT c P N q k F)
          omega
      obtain ⟨m', g1, g2, g3⟩ := sumup_in (kk := kk) (k := k) hc hP hN hk n (F + 1) m4 (by omega) (by omega) hIN (by rw [fr g 19 (.inr (by decide))]; exact h3) (by rw [fr g 19 (.inr (by decide))]; exact h4) (fun i => by rw [fr g 20 (.inr (by decide))]; exact h5 i) (fun i => by rw [fr g 21 (.inr (by decide))]; exact h6 i)
      exact ⟨m', g1, g2, fun g' j hj => by rw [g3 g' j hj, fr g' j hj]⟩
theorem IN.next {c : Nat → Int → Int} {P N : Int} {k : Nat} {a : Int → Int} (hP : 1 ≤ P) (h : IN c P N k P.toNat a) : IN c P N (k + 1) 0 a := by
  intro q hq
  obtain ⟨h1, h2⟩ := h q hq
  refine ⟨fun f hf => ?_, ?_⟩
  · rw [h1 f hf, if_pos (by omega), if_neg (by omega)]
  · rw [h2, ← sumN_add]
    show _ = sumN (fun f => sumN (fun j => cT c P N q j f) k + cT c P N q k f) P.toNat + 0
    omega
theorem sumup_out {g : Nat} {kk : zM → zM} {c : Nat → Int → Int} {P : Int} {N : Nat} (hc : cB5 c) (hP : 1 ≤ P ∧ P ≤ 3) (hN : 4 ≤ N ∧ N ≤ 16) : ∀ (n k : Nat) (m : zM), k ≤ N → N - k < n → IN c P N k 0 (m g 22) → m g 19 3 = P → m g 19 4 = N → (∀ i, m g 20 i = c 20 i) → (∀ i, m g 21 i = c 21 i) →
    ∃ m', fl21_17_1 kk g ((N : Int) / 4) n k m = kk m' ∧ IN c P N N 0 (m' g 22) ∧ (∀ g' j, (g' ≠ g ∨ j ≠ 22) → m' g' j = m g' j)
  | 0, k, m, h0, h1, h2, h3, h4, h5, h6 => by omega
  | n + 1, k, m, h0, h1, h2, h3, h4, h5, h6 => by
    show ∃ m', fl21_17_1_b (fl21_17_1 kk g ((N : Int) / 4) n) kk g ((N : Int) / 4) k m = kk m' ∧ _
    unfold fl21_17_1_b
    by_cases h : m g 19 4 ≤ (k : Int)
    · rw [if_pos h]
      have e : k = N := by omega
      subst e
      exact ⟨m, rfl, h2, fun _ _ _ => rfl⟩
    · rw [if_neg h, zn_a, h4]
      obtain ⟨m1, g1, g2, g3⟩ := sumup_in (g := g) (kk := fun m512 => fl21_17_1 kk g ((N : Int) / 4) n ((k : Int) + 1) m512) (k := k) hc hP (N := (N : Int)) (by omega) (by omega) (zfu 4) 0 m (by omega) (by rw [zfu_eq]; omega) h2 h3 h4 h5 h6
      rw [show ((0 : Nat) : Int) = 0 from rfl] at g1
      rw [g1]
      obtain ⟨m', e, e1, e2⟩ := sumup_out (kk := kk) hc hP hN n (k + 1) m1 (by omega) (by omega) (g2.next hP.1) (by rw [g3 g 19 (.inr (by decide))]; exact h3) (by rw [g3 g 19 (.inr (by decide))]; exact h4) (fun i => by rw [g3 g 20 (.inr (by decide))]; exact h5 i) (fun i => by rw [g3 g 21 (.inr (by decide))]; exact h6 i)
      rw [show ((k + 1 : Nat) : Int) = (k : Int) + 1 by omega] at e
      exact ⟨m', e, e1, fun g' j hj => by rw [e2 g' j hj, g3 g' j hj]⟩
theorem nul11 {g : Nat} : ∀ (n : Nat) (y : Int) (m : zM), 0 ≤ y → y ≤ 16 → 16 - y < n → (∀ i, y ≤ i → i < 16 → fl11_6_1 (fun m => m) g 0 16 n y m g 22 i = 0) ∧ (∀ i, (i < y ∨ 16 ≤ i) → fl11_6_1 (fun m => m) g 0 16 n y m g 22 i = m g 22 i)
  | 0, y, m, h0, h1, h2 => by omega
  | n + 1, y, m, h0, h1, h2 => by
    show (∀ i, y ≤ i → i < 16 → fl11_6_1_b (fl11_6_1 (fun m => m) g 0 16 n) (fun m => m) g 0 16 y m g 22 i = 0) ∧ (∀ i, (i < y ∨ 16 ≤ i) → fl11_6_1_b (fl11_6_1 (fun m => m) g 0 16 n) (fun m => m) g 0 16 y m g 22 i = m g 22 i)
    unfold fl11_6_1_b
    by_cases h : 16 ≤ y
    · rw [if_pos h]
      exact ⟨fun i i0 i1 => by omega, fun _ _ => rfl⟩
    · rw [if_neg h, zs_a]
      obtain ⟨a, b⟩ := nul11 (g := g) n (y + 1) (z_upd m g 22 y 0) (by omega) (by omega) (by omega)
      refine ⟨fun i i0 i1 => ?_, fun i hi => ?_⟩
      · by_cases e : i = y
        · rw [b i (by omega), zu_row, e, fu_s]
        · exact a i (by omega) i1
      · rw [b i (by omega), zu_row, fu_i _ _ (by omega)]
/-- all of it -/
theorem sumup_c {m : zM} {g : Nat} (hc : cB5 (m g)) (hP : 1 ≤ m g 19 3 ∧ m g 19 3 ≤ 3) (hN : 4 ≤ m g 19 4 ∧ m g 19 4 ≤ 16) : IN (m g) (m g 19 3) (m g 19 4) (m g 19 4).toNat 0 (f21_1 g m g 22) ∧ isRoot (f21_1 g m g 22 3 * f21_1 g m g 22 3 + f21_1 g m g 22 7 * f21_1 g m g 22 7) (f21_1 g m g 19 6) ∧
    (∀ g' j, (g' ≠ g ∨ (j ≠ 22 ∧ j ≠ 19)) → f21_1 g m g' j = m g' j) ∧ (∀ i, i ≠ 6 → f21_1 g m g 19 i = m g 19 i) := by
  have hw := f11_w (g := g) (a := 0) (N := 16) (zfu 17) 0 m
  obtain ⟨z1, z2⟩ := nul11 (g := g) (zfu 17) 0 m (by omega) (by omega) (by rw [zfu_eq]; omega)
  have e0 : ∀ m, f11_1 g 0 m = fl11_6_1 (fun m => m) g 0 16 (zfu 17) 0 m := fun _ => rfl
  unfold f21_1
  rw [zs_a, e0]
  generalize fl11_6_1 (fun m => m) g 0 16 (zfu 17) 0 m = m0 at hw z1 z2 ⊢
  have q19 : ∀ i, i ≠ 6 → m0 g 19 i = m g 19 i := fun i hi => hw g 19 i (by omega)
  obtain ⟨N, hNN⟩ : ∃ N : Nat, m g 19 4 = (N : Int) := ⟨(m g 19 4).toNat, by omega⟩
  rw [q19 4 (by decide), hNN, Int.toNat_natCast]
  rw [hNN] at hN
  have h0 : IN (m g) (m g 19 3) N 0 0 (m0 g 22) := by
    intro q hq
    refine ⟨fun f hf => ?_, ?_⟩
    · rw [z1 _ (by omega) (by omega), if_neg (by omega)]
      rfl
    · rw [z1 _ (by omega) (by omega)]
      have : sumN (fun f => sumN (fun j => cT (m g) (m g 19 3) N q j f) 0) (m g 19 3).toNat = 0 := by
        have : ∀ n : Nat, sumN (fun f => sumN (fun j => cT (m g) (m g 19 3) N q j f) 0) n = 0 := fun n => by
          induction n with
          | zero => rfl
          | succ n ih =>
            show sumN _ n + 0 = 0
            rw [ih]
            rfl
        exact this _
      rw [this]
      rfl
  obtain ⟨m1, e, e1, e2⟩ := sumup_out (g := g) (kk := fun m505 => zn (f23_1 g 3 m505) fun v511 => zs (z_upd m505 g 19 6 v511) fun m512 => m512) hc hP (N := N) (by omega) (zfu 17) 0 m0 (by omega) (by rw [zfu_eq]; omega) h0 (q19 3 (by decide)) (by rw [q19 4 (by decide)]; exact hNN) (fun i => hw g 20 i (by omega)) (fun i => hw g 21 i (by omega))
  have e' : fl21_17_1 (fun m505 => zn (f23_1 g 3 m505) fun v511 => zs (z_upd m505 g 19 6 v511) fun m512 => m512) g ((N : Int) / 4) (zfu 17) 0 m0 = zn (f23_1 g 3 m1) fun v511 => zs (z_upd m1 g 19 6 v511) fun m512 => m512 := e
  rw [e', zn_a, zs_a]
  have r22 : ∀ i, z_upd m1 g 19 6 (f23_1 g 3 m1) g 22 i = m1 g 22 i := fun i => by rw [zu_k _ _ _ (by decide)]
  have hb0 := (e1 0 (by omega)).2
  have hb1 := (e1 1 (by omega)).2
  have bd : ∀ q : Nat, q < 4 → -12000000 ≤ m1 g 22 ((q : Int) * 4 + 3) ∧ m1 g 22 ((q : Int) * 4 + 3) ≤ 12000000 := fun q hq => by
    rw [(e1 q hq).2]
    have d := sumN_bd (f := fun f => sumN (fun j => cT (m g) (m g 19 3) N q j f) N) (b := 4000000) (m g 19 3).toNat (fun f hf => by
      have e := sumN_bd (f := fun j => cT (m g) (m g 19 3) N q j f) (b := 250000) N (fun j hj => cT_b hc hP (by omega) q (by omega) (by omega))
      omega)
    show -12000000 ≤ _ + (0 : Int) ∧ _ + (0 : Int) ≤ 12000000
    omega
  have b3 : -12000000 ≤ m1 g 22 3 ∧ m1 g 22 3 ≤ 12000000 := bd 0 (by omega)
  have b7 : -12000000 ≤ m1 g 22 7 ∧ m1 g 22 7 ≤ 12000000 := bd 1 (by omega)
  refine ⟨?_, ?_, fun g' j hj => ?_, fun i hi => ?_⟩
  · rw [show z_upd m1 g 19 6 (f23_1 g 3 m1) g 22 = m1 g 22 from funext r22]
    exact e1
  · rw [r22, r22, zu_row, fu_s]
    unfold f23_1
    simp only [zn_a]
    rw [show (0 : Int) + 3 = 3 by decide, show (4 : Int) + 3 = 7 by decide]
    have s3 : m1 g 22 3 * m1 g 22 3 ≤ 144000000000000 ∧ 0 ≤ m1 g 22 3 * m1 g 22 3 := ⟨by
      have h1 : 0 ≤ (12000000 + m1 g 22 3) * (12000000 - m1 g 22 3) := Int.mul_nonneg (by omega) (by omega)
      rw [Int.add_mul, Int.mul_sub, Int.mul_sub] at h1
      omega, sq_nn _⟩
    have s7 : m1 g 22 7 * m1 g 22 7 ≤ 144000000000000 ∧ 0 ≤ m1 g 22 7 * m1 g 22 7 := ⟨by
      have h1 : 0 ≤ (12000000 + m1 g 22 7) * (12000000 - m1 g 22 7) := Int.mul_nonneg (by omega) (by omega)
      rw [Int.add_mul, Int.mul_sub, Int.mul_sub] at h1
      omega, sq_nn _⟩
    rw [w64_id (x := m1 g 22 3 * m1 g 22 3) (by omega), w64_id (x := m1 g 22 7 * m1 g 22 7) (by omega), w64_id (x := m1 g 22 3 * m1 g 22 3 + m1 g 22 7 * m1 g 22 7) (by omega)]
    exact rt_cls _ (by omega)
  · have h9 : m0 g' j = m g' j := funext fun i => hw g' j i (by omega)
    rcases hj with hj | hj
    · rw [zu_g _ _ _ hj, e2 g' j (.inl hj), h9]
    · rw [zu_k _ _ _ hj.2, e2 g' j (.inr hj.1), h9]
  · rw [zu_row, fu_i _ _ hi, e2 g 19 (.inr (by decide)), q19 i hi]
