/-- the free slots as a list: group, cell, first, last; (1, 0) is the whole cell -/
def zm (L : List (Nat × Nat × Int × Int)) (g k : Nat) (i : Int) : Prop := match L with
  | [] => False
  | x :: r => (x.1 = g ∧ x.2.1 = k ∧ (x.2.2.2 < x.2.2.1 ∨ (x.2.2.1 ≤ i ∧ i ≤ x.2.2.2))) ∨ zm r g k i
def zfr (L : List (Nat × Nat × Int × Int)) (S : zS) : zS := (zm L, S.2)
section
variable {S : zS} {m0 m m1 : zM} {B B' : Int} {L : List (Nat × Nat × Int × Int)} {g k : Nat} {i a b : Int} {x : Nat × Nat × Int × Int}
def zZ : zS := (fun _ _ _ => False, False, False)
/-- what can be told with set -/
def cB (a b : Int) : Prop := (a = 0 ∧ 0 ≤ b ∧ b ≤ 1000000) ∨ (a = 1 ∧ 1 ≤ b ∧ b ≤ 1000000) ∨ (a = 2 ∧ 0 ≤ b ∧ b ≤ 250000) ∨ (a = 3 ∧ 0 ≤ b ∧ b ≤ 60) ∨ (a = 4 ∧ (b = 60 ∨ b = 300 ∨ b = 900 ∨ b = 1800 ∨ b = 3600)) ∨ (a = 5 ∧ 1 ≤ b ∧ b ≤ 6) ∨ (10 ≤ a ∧ a ≤ 13 ∧ 0 ≤ b ∧ b ≤ 100) ∨ (a = 20 ∧ 0 ≤ b ∧ b ≤ 100) ∨ (a = 21 ∧ 0 ≤ b ∧ b ≤ 200) ∨ (a = 22 ∧ 0 ≤ b ∧ b ≤ 100)
noncomputable def cBi (a b : Int) : Int := @ite Int (cB a b) (Classical.propDecidable _) 1 0
theorem cBi_1 {a b : Int} (h : cB a b) : cBi a b = 1 := if_pos h
theorem cBi_0 {a b : Int} (h : ¬ cB a b) : cBi a b = 0 := if_neg h
theorem row_o {m : zM} {g k g' k' : Nat} {i x : Int} (h : decide (k' = k) = false) : z_upd m g k i x g' k' = m g' k' := funext fun i' => by
  unfold z_upd
  rw [if_neg (fun e => (of_decide_eq_false h) e.2.1)]
theorem row_g {m : zM} {g k g' : Nat} {i x : Int} (h : g' ≠ g) : z_upd m g k i x g' k = m g' k := funext fun i' => by
  unfold z_upd
  rw [if_neg (fun e => h e.1)]
theorem rowc_o {m : zM} {g1 k1 g0 k0 : Nat} {sp dp n : Int} {g k : Nat} (h : decide (k = k1) = false) : z_cpy m g1 k1 g0 k0 sp dp n g k = m g k := funext fun i' => by
  unfold z_cpy
  rw [if_neg (fun e => (of_decide_eq_false h) e.2.1)]
theorem z_upd_g (m : zM) {g g' k : Nat} {i x : Int} (h : g' ≠ g) : z_upd m g k i x g' k i = m g' k i := by
  unfold z_upd
  rw [if_neg (fun e => h e.1)]
theorem zm_z (h : b < a ∨ (a ≤ i ∧ i ≤ b)) : (zfr ((g, k, a, b) :: L) S).1 g k i := .inl ⟨rfl, rfl, h⟩
theorem zm_s (h : (zfr L S).1 g k i) : (zfr (x :: L) S).1 g k i := .inr h
theorem zi_n : zin (zfr [] S) S := ⟨fun _ _ _ _ h => h.elim, Iff.rfl, Iff.rfl⟩
theorem zi_c (h : ∀ i, (b < a ∨ (a ≤ i ∧ i ≤ b)) → S.1 g k i) (t : zin (zfr L S) S) : zin (zfr ((g, k, a, b) :: L) S) S := ⟨fun g' k' i' hj h' => by
  rcases h' with ⟨e1, e2, e3⟩ | e
  · have e1 : g = g' := e1
    have e2 : k = k' := e2
    subst e1 e2
    exact h i' e3
  · exact t.1 g' k' i' hj e, Iff.rfl, Iff.rfl⟩
/-- slots a .. b (the whole cell: 1, 0) that aren't in the list, by their numbers alone -/
def zno (L : List (Nat × Nat × Int × Int)) (g k : Nat) (a b : Int) : Bool := match L with
  | [] => true
  | x :: r => (!(decide (x.2.1 = k) && ((decide (x.2.2.2 < x.2.2.1) || (decide (b < a) || (decide (x.2.2.1 ≤ b) && decide (a ≤ x.2.2.2)))) && decide (x.1 = g)))) && zno r g k a b
theorem zno_mem : ∀ {L : List (Nat × Nat × Int × Int)}, zno L g k a b = true → (b < a ∨ (a ≤ i ∧ i ≤ b)) → ¬ zm L g k i
  | [], _, _ => fun h => h
  | y :: r, h, hi => fun h' => by
    unfold zno at h
    simp only [Bool.and_eq_true, Bool.not_eq_true', Bool.and_eq_false_iff, Bool.or_eq_false_iff, decide_eq_false_iff_not] at h
    rcases h' with ⟨e1, e2, e3⟩ | e
    · rcases h.1 with h1 | h1 | h1
      · exact h1 e2
      · obtain ⟨h2, h3, h4⟩ := h1
        rcases hi with hi | hi
        · exact h3 hi
        · rcases e3 with e3 | e3
          · exact h2 e3
          · rcases h4 with h4 | h4
            · exact h4 (by omega)
            · exact h4 (by omega)
      · exact h1 e1
    · exact zno_mem h.2 hi e
theorem J.ow (h : J S m0 B m) : J (zfr L S) m B m := J.rf h.1.1
theorem J.eq (h : J (zfr L S) m0 B m) (ht : jt g k i = true) (hn : zno L g k i i = true) (hk : decide (k = 33) = false := by rfl) : m g k i = m0 g k i := by
  have h1 := (h.2 g k i ht).resolve_left (zno_mem hn (.inr ⟨Int.le_refl _, Int.le_refl _⟩))
  unfold tvx at h1
  have h2 := of_decide_eq_false hk
  rw [if_neg (fun e => h2 e.1), if_neg (fun e => h2 e.1)] at h1
  exact h1
theorem J.eq4 (h : J (zfr L S) m0 B m) (hn : zno L g 33 3 3 = true) : m g 33 3 % 4 = m0 g 33 3 % 4 := (h.2 g 33 3 rfl).resolve_left (zno_mem hn (.inr ⟨Int.le_refl _, Int.le_refl _⟩))
theorem J.win (h : J (zfr L S) m0 B m) (ht : ∀ i, a ≤ i → i ≤ b → jt g k i = true) (hn : zno L g k a b = true) (hk : decide (k = 33) = false := by rfl) : ∀ i, a ≤ i → i ≤ b → m g k i = m0 g k i := fun i h1 h2 => by
  have h3 := (h.2 g k i (ht i h1 h2)).resolve_left (zno_mem hn (.inr ⟨h1, h2⟩))
  unfold tvx at h3
  have h4 := of_decide_eq_false hk
  rw [if_neg (fun e => h4 e.1), if_neg (fun e => h4 e.1)] at h3
  exact h3
theorem J.row (h : J (zfr L S) m0 B m) (ht : ∀ i, jt g k i = true) (hn : zno L g k 1 0 = true) (hk : decide (k = 33) = false := by rfl) : m g k = m0 g k := funext fun i => by
  have h3 := (h.2 g k i (ht i)).resolve_left (zno_mem hn (.inl (by decide)))
  unfold tvx at h3
  have h4 := of_decide_eq_false hk
  rw [if_neg (fun e => h4 e.1), if_neg (fun e => h4 e.1)] at h3
  exact h3
theorem J.mo (h : J (zfr L S) m0 B m) (h8 : zno L 4 44 8 8 = true) (h9 : zno L 4 44 9 9 = true) : m0 4 44 8 ≤ m 4 44 8 ∧ m0 4 44 9 ≤ m 4 44 9 := ⟨(h.1.2 4).1.resolve_left (zno_mem h8 (.inr ⟨Int.le_refl _, Int.le_refl _⟩)), (h.1.2 4).2.resolve_left (zno_mem h9 (.inr ⟨Int.le_refl _, Int.le_refl _⟩))⟩
/-- one more copy that is known serves less -/
theorem J.wk {p q : Prop} (h : J (S.1, p, q) m0 B m) (hp : S.2.1 → p) (hq : S.2.2 → q) : J S m0 B m := ⟨⟨fun g k i hj => h.1.1 g k i (fun e1 e2 e3 => ⟨fun e => hp ((hj e1 e2 e3).1 e), fun e => ((hj e1 e2 e3).2 e).imp hq id⟩), h.1.2⟩, h.2⟩
/-- the store that says that there is an image -/
theorem J.img {x : Int} (h : J S m0 B m) (hm : m1 = z_upd m 4 44 3 x) (hx : 0 ≤ x ∧ x ≤ 1) (hi : S.2.2 ∨ m 4 44 3 = 1 ∨ x = 0) (hs : S.1 4 44 3) : J S m0 B m1 := by
  subst hm
  have key : ∀ (g' : Nat) (i' : Int), (i' = 8 ∨ i' = 9) → z_upd m 4 44 3 x g' 44 i' = m g' 44 i' := by
    intro g' i' hi'
    unfold z_upd
    rw [if_neg]
    rintro ⟨rfl, -, rfl⟩
    rcases hi' with e | e <;> exact absurd e (by decide)
  refine ⟨⟨fun g' k' i' hq => ?_, fun g' => by rw [key g' 8 (.inl rfl), key g' 9 (.inr rfl)]; exact h.1.2 g'⟩, fun g' k' i' h9 => ?_⟩
  · unfold z_upd
    split
    · rename_i e
      obtain ⟨rfl, rfl, rfl⟩ := e
      unfold jl jh
      rw [jf_at (show (3 : Int) ≤ 3 ∧ (3 : Int) ≤ 3 by omega) 0 (jb 44) rfl rfl]
      exact hx
    · refine h.1.1 g' k' i' (fun e1 e2 e3 => ⟨fun e => (hq e1 e2 e3).1 e, fun e => ?_⟩)
      rcases (hq e1 e2 e3).2 e with h1 | h1
      · exact .inl h1
      · have h2 : z_upd m 4 44 3 x 4 44 3 = x := by
          unfold z_upd
          rw [if_pos ⟨rfl, rfl, rfl⟩]
        rw [h2] at h1
        rcases hi with h3 | h3 | h3
        · exact .inl h3
        · exact .inr h3
        · omega
  · unfold z_upd
    split
    · rename_i e
      obtain ⟨rfl, rfl, rfl⟩ := e
      exact .inl hs
    · exact h.2 g' k' i' h9
theorem J.cp {kf kt : Nat} {S' : zS} (h : J S m0 B m) (hb : jb kt = jb kf) (hf : jq S m 4 kf 0) (ht : ∀ i, jt 4 kt i = true → S.1 4 kt i) (hk : kt ≠ 44) (h1 : S'.1 = S.1) (h2 : ∀ k, k ≠ kt → (k = 46 → S'.2.1 → S.2.1) ∧ (k = 47 → S'.2.2 → S.2.2)) : J S' m0 B (z_cpy m 4 kt 4 kf 0 0 1619) := by
  have key : ∀ (g : Nat) (i : Int), z_cpy m 4 kt 4 kf 0 0 1619 g 44 i = m g 44 i := by
    intro g i
    unfold z_cpy
    rw [if_neg]
    exact fun e => hk e.2.1.symm
  refine ⟨⟨fun g k i hq => ?_, fun g => by rw [key, key, h1]; exact h.1.2 g⟩, fun g k i h9 => ?_⟩
  · unfold z_cpy
    split
    · rename_i e
      obtain ⟨rfl, rfl, e1, e2⟩ := e
      rw [show i - 0 + 0 = i by omega]
      have h3 := h.1.1 4 kf i (fun _ _ _ => hf rfl (by omega) (by omega))
      unfold jl jh at h3 ⊢
      rw [hb]
      exact h3
    · rename_i hne
      refine h.1.1 g k i (fun e1 e2 e3 => ?_)
      have hkt : k ≠ kt := fun e => hne ⟨e1, e, e2, by omega⟩
      have h3 := hq e1 e2 e3
      rw [key] at h3
      exact ⟨fun e => (h2 k hkt).1 e (h3.1 e), fun e => (h3.2 e).imp ((h2 k hkt).2 e) id⟩
  · rw [h1]
    unfold z_cpy
    split
    · rename_i e
      obtain ⟨rfl, rfl, -, -⟩ := e
      exact .inl (ht i h9)
    · exact h.2 g k i h9
theorem z_cpy_at {kt kf : Nat} {i : Int} (h : 0 ≤ i ∧ i < 1619) : z_cpy m 4 kt 4 kf 0 0 1619 4 kt i = m 4 kf i := by
  unfold z_cpy
  rw [if_pos ⟨rfl, rfl, h.1, by omega⟩, show i - 0 + 0 = i by omega]
end
theorem z_cp_step (m : zM) {kf kt : Nat} (hk : kf ≠ kt) {y : Int} (hy : 0 ≤ y) : z_upd (z_cpy m 4 kt 4 kf 0 0 y) 4 kt y (z_cpy m 4 kt 4 kf 0 0 y 4 kf y) = z_cpy m 4 kt 4 kf 0 0 (y + 1) := by
  have h0 : z_cpy m 4 kt 4 kf 0 0 y 4 kf y = m 4 kf y := by
    unfold z_cpy
    rw [if_neg]
    exact fun e => hk e.2.1
  rw [h0]
  funext g k i
  unfold z_upd z_cpy
  by_cases h1 : g = 4 ∧ k = kt
  · obtain ⟨rfl, rfl⟩ := h1
    by_cases h2 : i = y
    · subst h2
      rw [if_pos ⟨rfl, rfl, rfl⟩, if_pos ⟨rfl, rfl, hy, by omega⟩]
      rw [show i - 0 + 0 = i by omega]
    · rw [if_neg (fun e => h2 e.2.2)]
      by_cases h3 : 0 ≤ i ∧ i < 0 + y
      · rw [if_pos ⟨rfl, rfl, h3.1, h3.2⟩, if_pos ⟨rfl, rfl, h3.1, by omega⟩]
      · rw [if_neg (fun e => h3 e.2.2), if_neg (fun e => h3 ⟨e.2.2.1, by omega⟩)]
  · rw [if_neg (fun e => h1 ⟨e.1, e.2.1⟩), if_neg (fun e => h1 ⟨e.1, e.2.1⟩), if_neg (fun e => h1 ⟨e.1, e.2.1⟩)]
theorem z_cp_zero (m : zM) {kf kt : Nat} : z_cpy m 4 kt 4 kf 0 0 0 = m := by
  funext g k i
  unfold z_cpy
  rw [if_neg (fun e => by omega)]
theorem l_cp_45_46 {s : Nat × (Nat → Int32)} {d : Nat} {Q : Option zV → zM → Prop} {m : zM}
    (K : X (EE s) d 261 21 [] [] (z_cpy m 4 46 4 45 0 0 1619) Q) :
    ∀ (n : Nat) (y : Int), 0 ≤ y ∧ y ≤ 1619 → 1619 - y < (n : Int) → X (EE s) d 261 2 [(0, zr 4 45), (1, zr 4 46), (2, zi y)] [] (z_cpy m 4 46 4 45 0 0 y) Q := by
  intro n
  induction n with
  | zero =>
    intro y hy hn
    exfalso
    omega
  | succ n ih =>
    intro y hy hn
    refine X.iload_n 3 i261_2 rfl rfl rfl ?_
    refine X.sipush 6 i261_3 rfl rfl (by decide) ?_
    refine X.icmpge 21 9 i261_6 rfl rfl rfl (fun h1 => ?_) (fun h1 => ?_)
    · refine X.cut [] i261_21 rfl ?_
      have e : y = 1619 := by omega
      rw [e]
      exact K
    · refine X.aload_n 10 i261_9 rfl rfl rfl ?_
      refine X.iload_n 11 i261_10 rfl rfl rfl ?_
      refine X.aload_n 12 i261_11 rfl rfl rfl ?_
      refine X.iload_n 13 i261_12 rfl rfl rfl ?_
      refine X.lald 14 i261_13 rfl rfl (by decide) rfl (by omega) ?_
      refine X.last' 15 i261_14 rfl rfl (by decide) rfl (by omega) (fun hr m1 hm1 => ?_)
      rw [z_cp_step m (by decide) hy.1] at hm1
      subst hm1
      refine X.iinc 18 [(0, zr 4 45), (1, zr 4 46), (2, zi (y + 1))] i261_15 rfl rfl rfl (by omega) rfl ?_
      refine X.goto 2 i261_18 rfl rfl ?_
      exact ih (y + 1) (by omega) (by omega)
theorem c_cq_45_46 {s : Nat × (Nat → Int32)} {S : zS} {m0 m : zM} {B : Int} {d : Nat} {Q : Option zV → zM → Prop} (_hd : 13 ≤ d) (hJ : J S m0 B m) (_hB : B + 0 ≤ 1000000000) (hs0 : ∀ i, (0 < 0 ∨ (0 ≤ i ∧ i ≤ 0)) → S.1 4 46 i) (hs1 : ∀ i, (1 < 1 ∨ (1 ≤ i ∧ i ≤ 1)) → S.1 4 46 i) (hs2 : ∀ i, (2 < 2 ∨ (2 ≤ i ∧ i ≤ 2)) → S.1 4 46 i) (hs3 : ∀ i, (3 < 3 ∨ (3 ≤ i ∧ i ≤ 3)) → S.1 4 46 i) (hs4 : ∀ i, (11 < 11 ∨ (11 ≤ i ∧ i ≤ 11)) → S.1 4 46 i) (hs5 : ∀ i, (13 < 13 ∨ (13 ≤ i ∧ i ≤ 13)) → S.1 4 46 i) (hs6 : ∀ i, (18 < 18 ∨ (18 ≤ i ∧ i ≤ 18)) → S.1 4 46 i) (hs7 : ∀ i, (40 < 40 ∨ (40 ≤ i ∧ i ≤ 40)) → S.1 4 46 i) (hs8 : ∀ i, (41 < 41 ∨ (41 ≤ i ∧ i ≤ 41)) → S.1 4 46 i) (hs9 : ∀ i, (1614 < 1614 ∨ (1614 ≤ i ∧ i ≤ 1614)) → S.1 4 46 i) (hs10 : ∀ i, (1615 < 1615 ∨ (1615 ≤ i ∧ i ≤ 1615)) → S.1 4 46 i) (hs11 : ∀ i, (1616 < 1616 ∨ (1616 ≤ i ∧ i ≤ 1616)) → S.1 4 46 i) (hs12 : ∀ i, (1617 < 1617 ∨ (1617 ≤ i ∧ i ≤ 1617)) → S.1 4 46 i) (hs13 : ∀ i, (31 < 28 ∨ (28 ≤ i ∧ i ≤ 31)) → S.1 4 46 i) (hs14 : ∀ i, (294 < 287 ∨ (287 ≤ i ∧ i ≤ 294)) → S.1 4 46 i) (hs15 : ∀ i, (342 < 295 ∨ (295 ≤ i ∧ i ≤ 342)) → S.1 4 46 i) (hs16 : ∀ i, (390 < 343 ∨ (343 ≤ i ∧ i ≤ 390)) → S.1 4 46 i) (hs17 : ∀ i, (394 < 391 ∨ (391 ≤ i ∧ i ≤ 394)) → S.1 4 46 i) (hs18 : ∀ i, (422 < 395 ∨ (395 ≤ i ∧ i ≤ 422)) → S.1 4 46 i) (hs19 : ∀ i, (787 < 423 ∨ (423 ≤ i ∧ i ≤ 787)) → S.1 4 46 i)
    (hQ : ∀ m', J (S.1, True, S.2.2) m0 B m' → (m' = z_cpy m 4 46 4 45 0 0 1619) → Q none m') : X (EE s) d 261 0 [(0, zr 4 45), (1, zr 4 46)] [] m Q := by
  refine X.iconst 1 i261_0 rfl rfl (by decide) ?_
  refine X.istore_n 2 [(0, zr 4 45), (1, zr 4 46), (2, zi 0)] i261_1 rfl rfl rfl ?_
  have h := l_cp_45_46 (s := s) (d := d) (Q := Q) (m := m) (by
    refine X.retv i261_21 rfl t261 ?_
    exact hQ _ (hJ.cp rfl (fun _ _ _ => ⟨fun e => absurd e (by decide), fun e => absurd e (by decide)⟩) (fun i h => by
    have h := of_decide_eq_true (show decide ((4 : Nat) = 4 ∧ (i = 0 ∨ i = 1 ∨ i = 2 ∨ i = 3 ∨ i = 11 ∨ i = 13 ∨ i = 18 ∨ i = 40 ∨ i = 41 ∨ i = 1614 ∨ i = 1615 ∨ i = 1616 ∨ i = 1617 ∨ (28 ≤ i ∧ i ≤ 31) ∨ (287 ≤ i ∧ i ≤ 294) ∨ (295 ≤ i ∧ i ≤ 342) ∨ (343 ≤ i ∧ i ≤ 390) ∨ (391 ≤ i ∧ i ≤ 394) ∨ (395 ≤ i ∧ i ≤ 422) ∨ (423 ≤ i ∧ i ≤ 787))) = true from h)
    rcases h.2 with h | h | h | h | h | h | h | h | h | h | h | h | h | h | h | h | h | h | h | h
    · exact hs0 i (by omega)
    · exact hs1 i (by omega)
    · exact hs2 i (by omega)
    · exact hs3 i (by omega)
    · exact hs4 i (by omega)
    · exact hs5 i (by omega)
    · exact hs6 i (by omega)
    · exact hs7 i (by omega)
    · exact hs8 i (by omega)
    · exact hs9 i (by omega)
    · exact hs10 i (by omega)
    · exact hs11 i (by omega)
    · exact hs12 i (by omega)
    · exact hs13 i (by omega)
    · exact hs14 i (by omega)
    · exact hs15 i (by omega)
    · exact hs16 i (by omega)
    · exact hs17 i (by omega)
    · exact hs18 i (by omega)
    · exact hs19 i (by omega)) (by decide) rfl (fun k hk => ⟨fun e => absurd e hk, fun _ h => h⟩)) rfl) 1620 0 (by omega) (by omega)
  rw [z_cp_zero] at h
  exact h
theorem l_cp_46_45 {s : Nat × (Nat → Int32)} {d : Nat} {Q : Option zV → zM → Prop} {m : zM}
    (K : X (EE s) d 261 21 [] [] (z_cpy m 4 45 4 46 0 0 1619) Q) :
    ∀ (n : Nat) (y : Int), 0 ≤ y ∧ y ≤ 1619 → 1619 - y < (n : Int) → X (EE s) d 261 2 [(0, zr 4 46), (1, zr 4 45), (2, zi y)] [] (z_cpy m 4 45 4 46 0 0 y) Q := by
  intro n
  induction n with
  | zero =>
    intro y hy hn
    exfalso
    omega
  | succ n ih =>
    intro y hy hn
    refine X.iload_n 3 i261_2 rfl rfl rfl ?_
    refine X.sipush 6 i261_3 rfl rfl (by decide) ?_
    refine X.icmpge 21 9 i261_6 rfl rfl rfl (fun h1 => ?_) (fun h1 => ?_)
    · refine X.cut [] i261_21 rfl ?_
      have e : y = 1619 := by omega
      rw [e]
      exact K
    · refine X.aload_n 10 i261_9 rfl rfl rfl ?_
      refine X.iload_n 11 i261_10 rfl rfl rfl ?_
      refine X.aload_n 12 i261_11 rfl rfl rfl ?_
      refine X.iload_n 13 i261_12 rfl rfl rfl ?_
      refine X.lald 14 i261_13 rfl rfl (by decide) rfl (by omega) ?_
      refine X.last' 15 i261_14 rfl rfl (by decide) rfl (by omega) (fun hr m1 hm1 => ?_)
      rw [z_cp_step m (by decide) hy.1] at hm1
      subst hm1
      refine X.iinc 18 [(0, zr 4 46), (1, zr 4 45), (2, zi (y + 1))] i261_15 rfl rfl rfl (by omega) rfl ?_
      refine X.goto 2 i261_18 rfl rfl ?_
      exact ih (y + 1) (by omega) (by omega)
theorem c_cq_46_45 {s : Nat × (Nat → Int32)} {S : zS} {m0 m : zM} {B : Int} {d : Nat} {Q : Option zV → zM → Prop} (_hd : 13 ≤ d) (hJ : J S m0 B m) (_hB : B + 0 ≤ 1000000000) (hf : S.2.1) (hs0 : ∀ i, (0 < 0 ∨ (0 ≤ i ∧ i ≤ 0)) → S.1 4 45 i) (hs1 : ∀ i, (1 < 1 ∨ (1 ≤ i ∧ i ≤ 1)) → S.1 4 45 i) (hs2 : ∀ i, (2 < 2 ∨ (2 ≤ i ∧ i ≤ 2)) → S.1 4 45 i) (hs3 : ∀ i, (3 < 3 ∨ (3 ≤ i ∧ i ≤ 3)) → S.1 4 45 i) (hs4 : ∀ i, (11 < 11 ∨ (11 ≤ i ∧ i ≤ 11)) → S.1 4 45 i) (hs5 : ∀ i, (13 < 13 ∨ (13 ≤ i ∧ i ≤ 13)) → S.1 4 45 i) (hs6 : ∀ i, (18 < 18 ∨ (18 ≤ i ∧ i ≤ 18)) → S.1 4 45 i) (hs7 : ∀ i, (40 < 40 ∨ (40 ≤ i ∧ i ≤ 40)) → S.1 4 45 i) (hs8 : ∀ i, (41 < 41 ∨ (41 ≤ i ∧ i ≤ 41)) → S.1 4 45 i) (hs9 : ∀ i, (1614 < 1614 ∨ (1614 ≤ i ∧ i ≤ 1614)) → S.1 4 45 i) (hs10 : ∀ i, (1615 < 1615 ∨ (1615 ≤ i ∧ i ≤ 1615)) → S.1 4 45 i) (hs11 : ∀ i, (1616 < 1616 ∨ (1616 ≤ i ∧ i ≤ 1616)) → S.1 4 45 i) (hs12 : ∀ i, (1617 < 1617 ∨ (1617 ≤ i ∧ i ≤ 1617)) → S.1 4 45 i) (hs13 : ∀ i, (31 < 28 ∨ (28 ≤ i ∧ i ≤ 31)) → S.1 4 45 i) (hs14 : ∀ i, (294 < 287 ∨ (287 ≤ i ∧ i ≤ 294)) → S.1 4 45 i) (hs15 : ∀ i, (342 < 295 ∨ (295 ≤ i ∧ i ≤ 342)) → S.1 4 45 i) (hs16 : ∀ i, (390 < 343 ∨ (343 ≤ i ∧ i ≤ 390)) → S.1 4 45 i) (hs17 : ∀ i, (394 < 391 ∨ (391 ≤ i ∧ i ≤ 394)) → S.1 4 45 i) (hs18 : ∀ i, (422 < 395 ∨ (395 ≤ i ∧ i ≤ 422)) → S.1 4 45 i) (hs19 : ∀ i, (787 < 423 ∨ (423 ≤ i ∧ i ≤ 787)) → S.1 4 45 i)
    (hQ : ∀ m', J S m0 B m' → (m' = z_cpy m 4 45 4 46 0 0 1619) → Q none m') : X (EE s) d 261 0 [(0, zr 4 46), (1, zr 4 45)] [] m Q := by
  refine X.iconst 1 i261_0 rfl rfl (by decide) ?_
  refine X.istore_n 2 [(0, zr 4 46), (1, zr 4 45), (2, zi 0)] i261_1 rfl rfl rfl ?_
  have h := l_cp_46_45 (s := s) (d := d) (Q := Q) (m := m) (by
    refine X.retv i261_21 rfl t261 ?_
    exact hQ _ (hJ.cp rfl (fun _ _ _ => ⟨fun _ => hf, fun e => absurd e (by decide)⟩) (fun i h => by
    have h := of_decide_eq_true (show decide ((4 : Nat) = 4 ∧ (i = 0 ∨ i = 1 ∨ i = 2 ∨ i = 3 ∨ i = 11 ∨ i = 13 ∨ i = 18 ∨ i = 40 ∨ i = 41 ∨ i = 1614 ∨ i = 1615 ∨ i = 1616 ∨ i = 1617 ∨ (28 ≤ i ∧ i ≤ 31) ∨ (287 ≤ i ∧ i ≤ 294) ∨ (295 ≤ i ∧ i ≤ 342) ∨ (343 ≤ i ∧ i ≤ 390) ∨ (391 ≤ i ∧ i ≤ 394) ∨ (395 ≤ i ∧ i ≤ 422) ∨ (423 ≤ i ∧ i ≤ 787))) = true from h)
    rcases h.2 with h | h | h | h | h | h | h | h | h | h | h | h | h | h | h | h | h | h | h | h
    · exact hs0 i (by omega)
    · exact hs1 i (by omega)
    · exact hs2 i (by omega)
    · exact hs3 i (by omega)
    · exact hs4 i (by omega)
    · exact hs5 i (by omega)
    · exact hs6 i (by omega)
    · exact hs7 i (by omega)
    · exact hs8 i (by omega)
    · exact hs9 i (by omega)
    · exact hs10 i (by omega)
    · exact hs11 i (by omega)
    · exact hs12 i (by omega)
    · exact hs13 i (by omega)
    · exact hs14 i (by omega)
    · exact hs15 i (by omega)
    · exact hs16 i (by omega)
    · exact hs17 i (by omega)
    · exact hs18 i (by omega)
    · exact hs19 i (by omega)) (by decide) rfl (fun k hk => ⟨fun _ h => h, fun _ h => h⟩)) rfl) 1620 0 (by omega) (by omega)
  rw [z_cp_zero] at h
  exact h
theorem l_cp_45_47 {s : Nat × (Nat → Int32)} {d : Nat} {Q : Option zV → zM → Prop} {m : zM}
    (K : X (EE s) d 261 21 [] [] (z_cpy m 4 47 4 45 0 0 1619) Q) :
    ∀ (n : Nat) (y : Int), 0 ≤ y ∧ y ≤ 1619 → 1619 - y < (n : Int) → X (EE s) d 261 2 [(0, zr 4 45), (1, zr 4 47), (2, zi y)] [] (z_cpy m 4 47 4 45 0 0 y) Q := by
  intro n
  induction n with
  | zero =>
    intro y hy hn
    exfalso
    omega
  | succ n ih =>
    intro y hy hn
    refine X.iload_n 3 i261_2 rfl rfl rfl ?_
    refine X.sipush 6 i261_3 rfl rfl (by decide) ?_
    refine X.icmpge 21 9 i261_6 rfl rfl rfl (fun h1 => ?_) (fun h1 => ?_)
    · refine X.cut [] i261_21 rfl ?_
      have e : y = 1619 := by omega
      rw [e]
      exact K
    · refine X.aload_n 10 i261_9 rfl rfl rfl ?_
      refine X.iload_n 11 i261_10 rfl rfl rfl ?_
      refine X.aload_n 12 i261_11 rfl rfl rfl ?_
      refine X.iload_n 13 i261_12 rfl rfl rfl ?_
      refine X.lald 14 i261_13 rfl rfl (by decide) rfl (by omega) ?_
      refine X.last' 15 i261_14 rfl rfl (by decide) rfl (by omega) (fun hr m1 hm1 => ?_)
      rw [z_cp_step m (by decide) hy.1] at hm1
      subst hm1
      refine X.iinc 18 [(0, zr 4 45), (1, zr 4 47), (2, zi (y + 1))] i261_15 rfl rfl rfl (by omega) rfl ?_
      refine X.goto 2 i261_18 rfl rfl ?_
      exact ih (y + 1) (by omega) (by omega)
theorem c_cq_45_47 {s : Nat × (Nat → Int32)} {S : zS} {m0 m : zM} {B : Int} {d : Nat} {Q : Option zV → zM → Prop} (_hd : 13 ≤ d) (hJ : J S m0 B m) (_hB : B + 0 ≤ 1000000000) (hs0 : ∀ i, (0 < 0 ∨ (0 ≤ i ∧ i ≤ 0)) → S.1 4 47 i) (hs1 : ∀ i, (1 < 1 ∨ (1 ≤ i ∧ i ≤ 1)) → S.1 4 47 i) (hs2 : ∀ i, (2 < 2 ∨ (2 ≤ i ∧ i ≤ 2)) → S.1 4 47 i) (hs3 : ∀ i, (3 < 3 ∨ (3 ≤ i ∧ i ≤ 3)) → S.1 4 47 i) (hs4 : ∀ i, (11 < 11 ∨ (11 ≤ i ∧ i ≤ 11)) → S.1 4 47 i) (hs5 : ∀ i, (13 < 13 ∨ (13 ≤ i ∧ i ≤ 13)) → S.1 4 47 i) (hs6 : ∀ i, (18 < 18 ∨ (18 ≤ i ∧ i ≤ 18)) → S.1 4 47 i) (hs7 : ∀ i, (40 < 40 ∨ (40 ≤ i ∧ i ≤ 40)) → S.1 4 47 i) (hs8 : ∀ i, (41 < 41 ∨ (41 ≤ i ∧ i ≤ 41)) → S.1 4 47 i) (hs9 : ∀ i, (1614 < 1614 ∨ (1614 ≤ i ∧ i ≤ 1614)) → S.1 4 47 i) (hs10 : ∀ i, (1615 < 1615 ∨ (1615 ≤ i ∧ i ≤ 1615)) → S.1 4 47 i) (hs11 : ∀ i, (1616 < 1616 ∨ (1616 ≤ i ∧ i ≤ 1616)) → S.1 4 47 i) (hs12 : ∀ i, (1617 < 1617 ∨ (1617 ≤ i ∧ i ≤ 1617)) → S.1 4 47 i) (hs13 : ∀ i, (31 < 28 ∨ (28 ≤ i ∧ i ≤ 31)) → S.1 4 47 i) (hs14 : ∀ i, (294 < 287 ∨ (287 ≤ i ∧ i ≤ 294)) → S.1 4 47 i) (hs15 : ∀ i, (342 < 295 ∨ (295 ≤ i ∧ i ≤ 342)) → S.1 4 47 i) (hs16 : ∀ i, (390 < 343 ∨ (343 ≤ i ∧ i ≤ 390)) → S.1 4 47 i) (hs17 : ∀ i, (394 < 391 ∨ (391 ≤ i ∧ i ≤ 394)) → S.1 4 47 i) (hs18 : ∀ i, (422 < 395 ∨ (395 ≤ i ∧ i ≤ 422)) → S.1 4 47 i) (hs19 : ∀ i, (787 < 423 ∨ (423 ≤ i ∧ i ≤ 787)) → S.1 4 47 i)
    (hQ : ∀ m', J (S.1, S.2.1, True) m0 B m' → (m' = z_cpy m 4 47 4 45 0 0 1619) → Q none m') : X (EE s) d 261 0 [(0, zr 4 45), (1, zr 4 47)] [] m Q := by
  refine X.iconst 1 i261_0 rfl rfl (by decide) ?_
  refine X.istore_n 2 [(0, zr 4 45), (1, zr 4 47), (2, zi 0)] i261_1 rfl rfl rfl ?_
  have h := l_cp_45_47 (s := s) (d := d) (Q := Q) (m := m) (by
    refine X.retv i261_21 rfl t261 ?_
    exact hQ _ (hJ.cp rfl (fun _ _ _ => ⟨fun e => absurd e (by decide), fun e => absurd e (by decide)⟩) (fun i h => by
    have h := of_decide_eq_true (show decide ((4 : Nat) = 4 ∧ (i = 0 ∨ i = 1 ∨ i = 2 ∨ i = 3 ∨ i = 11 ∨ i = 13 ∨ i = 18 ∨ i = 40 ∨ i = 41 ∨ i = 1614 ∨ i = 1615 ∨ i = 1616 ∨ i = 1617 ∨ (28 ≤ i ∧ i ≤ 31) ∨ (287 ≤ i ∧ i ≤ 294) ∨ (295 ≤ i ∧ i ≤ 342) ∨ (343 ≤ i ∧ i ≤ 390) ∨ (391 ≤ i ∧ i ≤ 394) ∨ (395 ≤ i ∧ i ≤ 422) ∨ (423 ≤ i ∧ i ≤ 787))) = true from h)
    rcases h.2 with h | h | h | h | h | h | h | h | h | h | h | h | h | h | h | h | h | h | h | h
    · exact hs0 i (by omega)
    · exact hs1 i (by omega)
    · exact hs2 i (by omega)
    · exact hs3 i (by omega)
    · exact hs4 i (by omega)
    · exact hs5 i (by omega)
    · exact hs6 i (by omega)
    · exact hs7 i (by omega)
    · exact hs8 i (by omega)
    · exact hs9 i (by omega)
    · exact hs10 i (by omega)
    · exact hs11 i (by omega)
    · exact hs12 i (by omega)
    · exact hs13 i (by omega)
    · exact hs14 i (by omega)
    · exact hs15 i (by omega)
    · exact hs16 i (by omega)
    · exact hs17 i (by omega)
    · exact hs18 i (by omega)
    · exact hs19 i (by omega)) (by decide) rfl (fun k hk => ⟨fun _ h => h, fun e => absurd e hk⟩)) rfl) 1620 0 (by omega) (by omega)
  rw [z_cp_zero] at h
  exact h
theorem l_cp_47_45 {s : Nat × (Nat → Int32)} {d : Nat} {Q : Option zV → zM → Prop} {m : zM}
    (K : X (EE s) d 261 21 [] [] (z_cpy m 4 45 4 47 0 0 1619) Q) :
    ∀ (n : Nat) (y : Int), 0 ≤ y ∧ y ≤ 1619 → 1619 - y < (n : Int) → X (EE s) d 261 2 [(0, zr 4 47), (1, zr 4 45), (2, zi y)] [] (z_cpy m 4 45 4 47 0 0 y) Q := by
  intro n
  induction n with
  | zero =>
    intro y hy hn
    exfalso
    omega
  | succ n ih =>
    intro y hy hn
    refine X.iload_n 3 i261_2 rfl rfl rfl ?_
    refine X.sipush 6 i261_3 rfl rfl (by decide) ?_
    refine X.icmpge 21 9 i261_6 rfl rfl rfl (fun h1 => ?_) (fun h1 => ?_)
    · refine X.cut [] i261_21 rfl ?_
      have e : y = 1619 := by omega
      rw [e]
      exact K
    · refine X.aload_n 10 i261_9 rfl rfl rfl ?_
      refine X.iload_n 11 i261_10 rfl rfl rfl ?_
      refine X.aload_n 12 i261_11 rfl rfl rfl ?_
      refine X.iload_n 13 i261_12 rfl rfl rfl ?_
      refine X.lald 14 i261_13 rfl rfl (by decide) rfl (by omega) ?_
      refine X.last' 15 i261_14 rfl rfl (by decide) rfl (by omega) (fun hr m1 hm1 => ?_)
      rw [z_cp_step m (by decide) hy.1] at hm1
      subst hm1
      refine X.iinc 18 [(0, zr 4 47), (1, zr 4 45), (2, zi (y + 1))] i261_15 rfl rfl rfl (by omega) rfl ?_
      refine X.goto 2 i261_18 rfl rfl ?_
      exact ih (y + 1) (by omega) (by omega)
theorem c_cq_47_45 {s : Nat × (Nat → Int32)} {S : zS} {m0 m : zM} {B : Int} {d : Nat} {Q : Option zV → zM → Prop} (_hd : 13 ≤ d) (hJ : J S m0 B m) (_hB : B + 0 ≤ 1000000000) (hf : S.2.2 ∨ m 4 44 3 = 1) (hs0 : ∀ i, (0 < 0 ∨ (0 ≤ i ∧ i ≤ 0)) → S.1 4 45 i) (hs1 : ∀ i, (1 < 1 ∨ (1 ≤ i ∧ i ≤ 1)) → S.1 4 45 i) (hs2 : ∀ i, (2 < 2 ∨ (2 ≤ i ∧ i ≤ 2)) → S.1 4 45 i) (hs3 : ∀ i, (3 < 3 ∨ (3 ≤ i ∧ i ≤ 3)) → S.1 4 45 i) (hs4 : ∀ i, (11 < 11 ∨ (11 ≤ i ∧ i ≤ 11)) → S.1 4 45 i) (hs5 : ∀ i, (13 < 13 ∨ (13 ≤ i ∧ i ≤ 13)) → S.1 4 45 i) (hs6 : ∀ i, (18 < 18 ∨ (18 ≤ i ∧ i ≤ 18)) → S.1 4 45 i) (hs7 : ∀ i, (40 < 40 ∨ (40 ≤ i ∧ i ≤ 40)) → S.1 4 45 i) (hs8 : ∀ i, (41 < 41 ∨ (41 ≤ i ∧ i ≤ 41)) → S.1 4 45 i) (hs9 : ∀ i, (1614 < 1614 ∨ (1614 ≤ i ∧ i ≤ 1614)) → S.1 4 45 i) (hs10 : ∀ i, (1615 < 1615 ∨ (1615 ≤ i ∧ i ≤ 1615)) → S.1 4 45 i) (hs11 : ∀ i, (1616 < 1616 ∨ (1616 ≤ i ∧ i ≤ 1616)) → S.1 4 45 i) (hs12 : ∀ i, (1617 < 1617 ∨ (1617 ≤ i ∧ i ≤ 1617)) → S.1 4 45 i) (hs13 : ∀ i, (31 < 28 ∨ (28 ≤ i ∧ i ≤ 31)) → S.1 4 45 i) (hs14 : ∀ i, (294 < 287 ∨ (287 ≤ i ∧ i ≤ 294)) → S.1 4 45 i) (hs15 : ∀ i, (342 < 295 ∨ (295 ≤ i ∧ i ≤ 342)) → S.1 4 45 i) (hs16 : ∀ i, (390 < 343 ∨ (343 ≤ i ∧ i ≤ 390)) → S.1 4 45 i) (hs17 : ∀ i, (394 < 391 ∨ (391 ≤ i ∧ i ≤ 394)) → S.1 4 45 i) (hs18 : ∀ i, (422 < 395 ∨ (395 ≤ i ∧ i ≤ 422)) → S.1 4 45 i) (hs19 : ∀ i, (787 < 423 ∨ (423 ≤ i ∧ i ≤ 787)) → S.1 4 45 i)
    (hQ : ∀ m', J S m0 B m' → (m' = z_cpy m 4 45 4 47 0 0 1619) → Q none m') : X (EE s) d 261 0 [(0, zr 4 47), (1, zr 4 45)] [] m Q := by
  refine X.iconst 1 i261_0 rfl rfl (by decide) ?_
  refine X.istore_n 2 [(0, zr 4 47), (1, zr 4 45), (2, zi 0)] i261_1 rfl rfl rfl ?_
  have h := l_cp_47_45 (s := s) (d := d) (Q := Q) (m := m) (by
    refine X.retv i261_21 rfl t261 ?_
    exact hQ _ (hJ.cp rfl (fun _ _ _ => ⟨fun e => absurd e (by decide), fun _ => hf⟩) (fun i h => by
    have h := of_decide_eq_true (show decide ((4 : Nat) = 4 ∧ (i = 0 ∨ i = 1 ∨ i = 2 ∨ i = 3 ∨ i = 11 ∨ i = 13 ∨ i = 18 ∨ i = 40 ∨ i = 41 ∨ i = 1614 ∨ i = 1615 ∨ i = 1616 ∨ i = 1617 ∨ (28 ≤ i ∧ i ≤ 31) ∨ (287 ≤ i ∧ i ≤ 294) ∨ (295 ≤ i ∧ i ≤ 342) ∨ (343 ≤ i ∧ i ≤ 390) ∨ (391 ≤ i ∧ i ≤ 394) ∨ (395 ≤ i ∧ i ≤ 422) ∨ (423 ≤ i ∧ i ≤ 787))) = true from h)
    rcases h.2 with h | h | h | h | h | h | h | h | h | h | h | h | h | h | h | h | h | h | h | h
    · exact hs0 i (by omega)
    · exact hs1 i (by omega)
    · exact hs2 i (by omega)
    · exact hs3 i (by omega)
    · exact hs4 i (by omega)
    · exact hs5 i (by omega)
    · exact hs6 i (by omega)
    · exact hs7 i (by omega)
    · exact hs8 i (by omega)
    · exact hs9 i (by omega)
    · exact hs10 i (by omega)
    · exact hs11 i (by omega)
    · exact hs12 i (by omega)
    · exact hs13 i (by omega)
    · exact hs14 i (by omega)
    · exact hs15 i (by omega)
    · exact hs16 i (by omega)
    · exact hs17 i (by omega)
    · exact hs18 i (by omega)
    · exact hs19 i (by omega)) (by decide) rfl (fun k hk => ⟨fun _ h => h, fun _ h => h⟩)) rfl) 1620 0 (by omega) (by omega)
  rw [z_cp_zero] at h
  exact h
theorem zro2_0 {s : Nat × (Nat → Int32)} : z_ro (EE s) 2 0 = 0 := by
  show (sA2.getD 0 0).toInt = (0 : Int)
  decide
theorem zro2_1 {s : Nat × (Nat → Int32)} : z_ro (EE s) 2 1 = 1 := by
  show (sA2.getD 1 0).toInt = (1 : Int)
  decide
theorem zro2_2 {s : Nat × (Nat → Int32)} : z_ro (EE s) 2 2 = 0 := by
  show (sA2.getD 2 0).toInt = (0 : Int)
  decide
theorem zro2_3 {s : Nat × (Nat → Int32)} : z_ro (EE s) 2 3 = 0 := by
  show (sA2.getD 3 0).toInt = (0 : Int)
  decide
theorem zro2_4 {s : Nat × (Nat → Int32)} : z_ro (EE s) 2 4 = 60 := by
  show (sA2.getD 4 0).toInt = (60 : Int)
  decide
theorem zro2_5 {s : Nat × (Nat → Int32)} : z_ro (EE s) 2 5 = 1 := by
  show (sA2.getD 5 0).toInt = (1 : Int)
  decide
theorem zro2_6 {s : Nat × (Nat → Int32)} : z_ro (EE s) 2 6 = 0 := by
  show (sA2.getD 6 0).toInt = (0 : Int)
  decide
theorem zro2_7 {s : Nat × (Nat → Int32)} : z_ro (EE s) 2 7 = 0 := by
  show (sA2.getD 7 0).toInt = (0 : Int)
  decide
theorem zro2_8 {s : Nat × (Nat → Int32)} : z_ro (EE s) 2 8 = 0 := by
  show (sA2.getD 8 0).toInt = (0 : Int)
  decide
theorem zro2_9 {s : Nat × (Nat → Int32)} : z_ro (EE s) 2 9 = 0 := by
  show (sA2.getD 9 0).toInt = (0 : Int)
  decide
theorem zro2_10 {s : Nat × (Nat → Int32)} : z_ro (EE s) 2 10 = 0 := by
  show (sA2.getD 10 0).toInt = (0 : Int)
  decide
theorem zro2_11 {s : Nat × (Nat → Int32)} : z_ro (EE s) 2 11 = 0 := by
  show (sA2.getD 11 0).toInt = (0 : Int)
  decide
theorem zro2_12 {s : Nat × (Nat → Int32)} : z_ro (EE s) 2 12 = 0 := by
  show (sA2.getD 12 0).toInt = (0 : Int)
  decide
theorem zro3_0 {s : Nat × (Nat → Int32)} : z_ro (EE s) 3 0 = 1000000 := by
  show (sA3.getD 0 0).toInt = (1000000 : Int)
  decide
theorem zro3_1 {s : Nat × (Nat → Int32)} : z_ro (EE s) 3 1 = 1000000 := by
  show (sA3.getD 1 0).toInt = (1000000 : Int)
  decide
theorem zro3_2 {s : Nat × (Nat → Int32)} : z_ro (EE s) 3 2 = 250000 := by
  show (sA3.getD 2 0).toInt = (250000 : Int)
  decide
theorem zro3_3 {s : Nat × (Nat → Int32)} : z_ro (EE s) 3 3 = 60 := by
  show (sA3.getD 3 0).toInt = (60 : Int)
  decide
theorem zro3_4 {s : Nat × (Nat → Int32)} : z_ro (EE s) 3 4 = 3600 := by
  show (sA3.getD 4 0).toInt = (3600 : Int)
  decide
theorem zro3_5 {s : Nat × (Nat → Int32)} : z_ro (EE s) 3 5 = 6 := by
  show (sA3.getD 5 0).toInt = (6 : Int)
  decide
theorem zro3_6 {s : Nat × (Nat → Int32)} : z_ro (EE s) 3 6 = 100 := by
  show (sA3.getD 6 0).toInt = (100 : Int)
  decide
theorem zro3_7 {s : Nat × (Nat → Int32)} : z_ro (EE s) 3 7 = 100 := by
  show (sA3.getD 7 0).toInt = (100 : Int)
  decide
theorem zro3_8 {s : Nat × (Nat → Int32)} : z_ro (EE s) 3 8 = 100 := by
  show (sA3.getD 8 0).toInt = (100 : Int)
  decide
theorem zro3_9 {s : Nat × (Nat → Int32)} : z_ro (EE s) 3 9 = 100 := by
  show (sA3.getD 9 0).toInt = (100 : Int)
  decide
theorem zro3_10 {s : Nat × (Nat → Int32)} : z_ro (EE s) 3 10 = 100 := by
  show (sA3.getD 10 0).toInt = (100 : Int)
  decide
theorem zro3_11 {s : Nat × (Nat → Int32)} : z_ro (EE s) 3 11 = 200 := by
  show (sA3.getD 11 0).toInt = (200 : Int)
  decide
theorem zro3_12 {s : Nat × (Nat → Int32)} : z_ro (EE s) 3 12 = 100 := by
  show (sA3.getD 12 0).toInt = (100 : Int)
  decide
