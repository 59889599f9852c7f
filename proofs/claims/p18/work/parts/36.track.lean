/-- the free slots as a list -/
def zfr (L : List (Nat × Nat × Int)) (S : zS) : zS := (fun g k i => (g, k, i) ∈ L, S.2)
section
variable {S : zS} {m0 m m1 : zM} {B B' : Int} {L : List (Nat × Nat × Int)} {g k : Nat} {i : Int} {x : Nat × Nat × Int}
def zZ : zS := (fun _ _ _ => False, False, False)
/-- what can be told with set -/
def cB (a b : Int) : Prop := (a = 0 ∧ 0 ≤ b ∧ b ≤ 1000000) ∨ (a = 1 ∧ 1 ≤ b ∧ b ≤ 1000000) ∨ (a = 2 ∧ 0 ≤ b ∧ b ≤ 250000) ∨ (a = 3 ∧ 0 ≤ b ∧ b ≤ 60) ∨ (a = 4 ∧ (b = 60 ∨ b = 300 ∨ b = 900 ∨ b = 1800 ∨ b = 3600)) ∨ (a = 5 ∧ 1 ≤ b ∧ b ≤ 6) ∨ (10 ≤ a ∧ a ≤ 13 ∧ 0 ≤ b ∧ b ≤ 100) ∨ (a = 20 ∧ 0 ≤ b ∧ b ≤ 100) ∨ (a = 21 ∧ 0 ≤ b ∧ b ≤ 200) ∨ (a = 22 ∧ 0 ≤ b ∧ b ≤ 100)
noncomputable def cBi (a b : Int) : Int := @ite Int (cB a b) (Classical.propDecidable _) 1 0
theorem cBi_1 {a b : Int} (h : cB a b) : cBi a b = 1 := if_pos h
theorem cBi_0 {a b : Int} (h : ¬ cB a b) : cBi a b = 0 := if_neg h
theorem z_upd_g (m : zM) {g g' k : Nat} {i x : Int} (h : g' ≠ g) : z_upd m g k i x g' k i = m g' k i := by
  unfold z_upd
  rw [if_neg (fun e => h e.1)]
theorem zm_z : (zfr ((g, k, i) :: L) S).1 g k i := List.mem_cons_self
theorem zm_s (h : (zfr L S).1 g k i) : (zfr (x :: L) S).1 g k i := List.mem_cons_of_mem _ h
theorem zi_n : zin (zfr [] S) S := ⟨fun _ _ _ _ h => absurd h List.not_mem_nil, Iff.rfl, Iff.rfl⟩
theorem zi_c (h : S.1 g k i) (t : zin (zfr L S) S) : zin (zfr ((g, k, i) :: L) S) S := ⟨fun g' k' i' hj h' => by
  rcases List.mem_cons.mp h' with e | e
  · injection e with e1 e2
    injection e2 with e2 e3
    subst e1 e2 e3
    exact h
  · exact t.1 g' k' i' hj e, Iff.rfl, Iff.rfl⟩
/-- a slot that isn't in the list, by its numbers alone -/
def zno (L : List (Nat × Nat × Int)) (g k : Nat) (i : Int) : Bool := match L with
  | [] => true
  | x :: r => (!(decide (x.2.1 = k) && (decide (x.2.2 = i) && decide (x.1 = g)))) && zno r g k i
theorem zno_mem : ∀ {L : List (Nat × Nat × Int)}, zno L g k i = true → ¬ (g, k, i) ∈ L
  | [], _ => List.not_mem_nil
  | y :: r, h => fun h' => by
    unfold zno at h
    simp only [Bool.and_eq_true, Bool.not_eq_true', Bool.and_eq_false_iff, decide_eq_false_iff_not] at h
    rcases List.mem_cons.mp h' with e | e
    · subst e
      rcases h.1 with h1 | h1 | h1
      · exact h1 rfl
      · exact h1 rfl
      · exact h1 rfl
    · exact zno_mem h.2 e
theorem J.ow (h : J S m0 B m) : J (zfr L S) m B m := J.rf h.1.1
theorem J.eq (h : J (zfr L S) m0 B m) (ht : jt g k i = true) (hn : zno L g k i = true) : m g k i = m0 g k i := (h.2 g k i ht).resolve_left (zno_mem hn)
theorem J.mo (h : J (zfr L S) m0 B m) (h8 : zno L 4 44 8 = true) (h9 : zno L 4 44 9 = true) : m0 4 44 8 ≤ m 4 44 8 ∧ m0 4 44 9 ≤ m 4 44 9 := ⟨(h.1.2 4).1.resolve_left (zno_mem h8), (h.1.2 4).2.resolve_left (zno_mem h9)⟩
/-- one more copy that is known serves less -/
theorem J.wk {p q : Prop} (h : J (S.1, p, q) m0 B m) (hp : S.2.1 → p) (hq : S.2.2 → q) : J S m0 B m := ⟨⟨fun g k i hj => h.1.1 g k i (fun e1 e2 e3 => ⟨fun e => hp ((hj e1 e2 e3).1 e), fun e => ((hj e1 e2 e3).2 e).imp hq id⟩), h.1.2⟩, h.2⟩
/-- the store that says that there is an image -/
theorem J.img {x : Int} (h : J S m0 B m) (hm : m1 = z_upd m 4 44 3 x) (hx : 0 ≤ x ∧ x ≤ 1) (hi : S.2.2 ∨ m 4 44 3 = 1 ∨ x = 0) (hs : S.1 4 44 3) : J S m0 B m1 := by
  subst hm
  have key : ∀ (g' : Nat) (i' : Int), (i' = 8 ∨ i' = 9) → z_upd m 4 44 3 x g' 44 i' = m g' 44 i' := by
    intro g' i' hi'
    unfold z_upd
    rw [if_neg]
    rintro ⟨rfl, -, rfl⟩
    rcases hi' with e | e <;> exact absurd e (by decide)
  refine ⟨⟨fun g' k' i' hq => ?_, fun g' => by rw [key g' 8 (.inl rfl), key g' 9 (.inr rfl)]; exact h.1.2 g'⟩, fun g' k' i' h9 => ?_⟩
  · unfold z_upd
    split
    · rename_i e
      obtain ⟨rfl, rfl, rfl⟩ := e
      unfold jl jh
      rw [jf_at (show (3 : Int) ≤ 3 ∧ (3 : Int) ≤ 3 by omega) 0 (jb 44) rfl rfl]
      exact hx
    · refine h.1.1 g' k' i' (fun e1 e2 e3 => ⟨fun e => (hq e1 e2 e3).1 e, fun e => ?_⟩)
      rcases (hq e1 e2 e3).2 e with h1 | h1
      · exact .inl h1
      · have h2 : z_upd m 4 44 3 x 4 44 3 = x := by
          unfold z_upd
          rw [if_pos ⟨rfl, rfl, rfl⟩]
        rw [h2] at h1
        rcases hi with h3 | h3 | h3
        · exact .inl h3
        · exact .inr h3
        · omega
  · unfold z_upd
    split
    · rename_i e
      obtain ⟨rfl, rfl, rfl⟩ := e
      exact .inl hs
    · exact h.2 g' k' i' h9
theorem J.cp {kf kt : Nat} {S' : zS} (h : J S m0 B m) (hb : jb kt = jb kf) (hf : jq S m 4 kf 0) (ht : ∀ i, jt 4 kt i = true → S.1 4 kt i) (hk : kt ≠ 44) (h1 : S'.1 = S.1) (h2 : ∀ k, k ≠ kt → (k = 46 → S'.2.1 → S.2.1) ∧ (k = 47 → S'.2.2 → S.2.2)) : J S' m0 B (z_cpy m 4 kt 4 kf 0 0 1619) := by
  have key : ∀ (g : Nat) (i : Int), z_cpy m 4 kt 4 kf 0 0 1619 g 44 i = m g 44 i := by
    intro g i
    unfold z_cpy
    rw [if_neg]
    exact fun e => hk e.2.1.symm
  refine ⟨⟨fun g k i hq => ?_, fun g => by rw [key, key, h1]; exact h.1.2 g⟩, fun g k i h9 => ?_⟩
  · unfold z_cpy
    split
    · rename_i e
      obtain ⟨rfl, rfl, e1, e2⟩ := e
      rw [show i - 0 + 0 = i by omega]
      have h3 := h.1.1 4 kf i (fun _ _ _ => hf rfl (by omega) (by omega))
      unfold jl jh at h3 ⊢
      rw [hb]
      exact h3
    · rename_i hne
      refine h.1.1 g k i (fun e1 e2 e3 => ?_)
      have hkt : k ≠ kt := fun e => hne ⟨e1, e, e2, by omega⟩
      have h3 := hq e1 e2 e3
      rw [key] at h3
      exact ⟨fun e => (h2 k hkt).1 e (h3.1 e), fun e => (h3.2 e).imp ((h2 k hkt).2 e) id⟩
  · rw [h1]
    unfold z_cpy
    split
    · rename_i e
      obtain ⟨rfl, rfl, -, -⟩ := e
      exact .inl (ht i h9)
    · exact h.2 g k i h9
theorem z_cpy_at {kt kf : Nat} {i : Int} (h : 0 ≤ i ∧ i < 1619) : z_cpy m 4 kt 4 kf 0 0 1619 4 kt i = m 4 kf i := by
  unfold z_cpy
  rw [if_pos ⟨rfl, rfl, h.1, by omega⟩, show i - 0 + 0 = i by omega]
end
theorem z_cp_step (m : zM) {kf kt : Nat} (hk : kf ≠ kt) {y : Int} (hy : 0 ≤ y) : z_upd (z_cpy m 4 kt 4 kf 0 0 y) 4 kt y (z_cpy m 4 kt 4 kf 0 0 y 4 kf y) = z_cpy m 4 kt 4 kf 0 0 (y + 1) := by
  have h0 : z_cpy m 4 kt 4 kf 0 0 y 4 kf y = m 4 kf y := by
    unfold z_cpy
    rw [if_neg]
    exact fun e => hk e.2.1
  rw [h0]
  funext g k i
  unfold z_upd z_cpy
  by_cases h1 : g = 4 ∧ k = kt
  · obtain ⟨rfl, rfl⟩ := h1
    by_cases h2 : i = y
    · subst h2
      rw [if_pos ⟨rfl, rfl, rfl⟩, if_pos ⟨rfl, rfl, hy, by omega⟩]
      rw [show i - 0 + 0 = i by omega]
    · rw [if_neg (fun e => h2 e.2.2)]
      by_cases h3 : 0 ≤ i ∧ i < 0 + y
      · rw [if_pos ⟨rfl, rfl, h3.1, h3.2⟩, if_pos ⟨rfl, rfl, h3.1, by omega⟩]
      · rw [if_neg (fun e => h3 e.2.2), if_neg (fun e => h3 ⟨e.2.2.1, by omega⟩)]
  · rw [if_neg (fun e => h1 ⟨e.1, e.2.1⟩), if_neg (fun e => h1 ⟨e.1, e.2.1⟩), if_neg (fun e => h1 ⟨e.1, e.2.1⟩)]
theorem z_cp_zero (m : zM) {kf kt : Nat} : z_cpy m 4 kt 4 kf 0 0 0 = m := by
  funext g k i
  unfold z_cpy
  rw [if_neg (fun e => by omega)]
theorem l_cp_45_46 {s : Nat × (Nat → Int32)} {d : Nat} {Q : Option zV → zM → Prop} {m : zM}
    (K : X (EE s) d 261 21 [] [] (z_cpy m 4 46 4 45 0 0 1619) Q) :
    ∀ (n : Nat) (y : Int), 0 ≤ y ∧ y ≤ 1619 → 1619 - y < (n : Int) → X (EE s) d 261 2 [(0, zr 4 45), (1, zr 4 46), (2, zi y)] [] (z_cpy m 4 46 4 45 0 0 y) Q := by
  intro n
  induction n with
  | zero =>
    intro y hy hn
    exfalso
    omega
  | succ n ih =>
    intro y hy hn
    refine X.iload_n 3 i261_2 rfl rfl rfl ?_
    refine X.sipush 6 i261_3 rfl rfl (by decide) ?_
    refine X.icmpge 21 9 i261_6 rfl rfl rfl (fun h1 => ?_) (fun h1 => ?_)
    · refine X.cut [] i261_21 rfl ?_
      have e : y = 1619 := by omega
      rw [e]
      exact K
    · refine X.aload_n 10 i261_9 rfl rfl rfl ?_
      refine X.iload_n 11 i261_10 rfl rfl rfl ?_
      refine X.aload_n 12 i261_11 rfl rfl rfl ?_
      refine X.iload_n 13 i261_12 rfl rfl rfl ?_
      refine X.lald 14 i261_13 rfl rfl (by decide) rfl (by omega) ?_
      refine X.last' 15 i261_14 rfl rfl (by decide) rfl (by omega) (fun hr m1 hm1 => ?_)
      rw [z_cp_step m (by decide) hy.1] at hm1
      subst hm1
      refine X.iinc 18 [(0, zr 4 45), (1, zr 4 46), (2, zi (y + 1))] i261_15 rfl rfl rfl (by omega) rfl ?_
      refine X.goto 2 i261_18 rfl rfl ?_
      exact ih (y + 1) (by omega) (by omega)
theorem c_cq_45_46 {s : Nat × (Nat → Int32)} {S : zS} {m0 m : zM} {B : Int} {d : Nat} {Q : Option zV → zM → Prop} (_hd : 13 ≤ d) (hJ : J S m0 B m) (_hB : B + 0 ≤ 1000000000) (hs0 : S.1 4 46 0) (hs1 : S.1 4 46 1) (hs2 : S.1 4 46 2) (hs3 : S.1 4 46 3) (hs4 : S.1 4 46 11) (hs5 : S.1 4 46 13) (hs6 : S.1 4 46 18) (hs7 : S.1 4 46 1614) (hs8 : S.1 4 46 1615) (hs9 : S.1 4 46 1616) (hs10 : S.1 4 46 1617)
    (hQ : ∀ m', J (S.1, True, S.2.2) m0 B m' → (m' = z_cpy m 4 46 4 45 0 0 1619) → Q none m') : X (EE s) d 261 0 [(0, zr 4 45), (1, zr 4 46)] [] m Q := by
  refine X.iconst 1 i261_0 rfl rfl (by decide) ?_
  refine X.istore_n 2 [(0, zr 4 45), (1, zr 4 46), (2, zi 0)] i261_1 rfl rfl rfl ?_
  have h := l_cp_45_46 (s := s) (d := d) (Q := Q) (m := m) (by
    refine X.retv i261_21 rfl t261 ?_
    exact hQ _ (hJ.cp rfl (fun _ _ _ => ⟨fun e => absurd e (by decide), fun e => absurd e (by decide)⟩) (fun i h => by
    have h := of_decide_eq_true (show decide ((4 : Nat) = 4 ∧ (i = 0 ∨ i = 1 ∨ i = 2 ∨ i = 3 ∨ i = 11 ∨ i = 13 ∨ i = 18 ∨ i = 1614 ∨ i = 1615 ∨ i = 1616 ∨ i = 1617)) = true from h)
    rcases h.2 with rfl | rfl | rfl | rfl | rfl | rfl | rfl | rfl | rfl | rfl | rfl
    · exact hs0
    · exact hs1
    · exact hs2
    · exact hs3
    · exact hs4
    · exact hs5
    · exact hs6
    · exact hs7
    · exact hs8
    · exact hs9
    · exact hs10) (by decide) rfl (fun k hk => ⟨fun e => absurd e hk, fun _ h => h⟩)) rfl) 1620 0 (by omega) (by omega)
  rw [z_cp_zero] at h
  exact h
theorem l_cp_46_45 {s : Nat × (Nat → Int32)} {d : Nat} {Q : Option zV → zM → Prop} {m : zM}
    (K : X (EE s) d 261 21 [] [] (z_cpy m 4 45 4 46 0 0 1619) Q) :
    ∀ (n : Nat) (y : Int), 0 ≤ y ∧ y ≤ 1619 → 1619 - y < (n : Int) → X (EE s) d 261 2 [(0, zr 4 46), (1, zr 4 45), (2, zi y)] [] (z_cpy m 4 45 4 46 0 0 y) Q := by
  intro n
  induction n with
  | zero =>
    intro y hy hn
    exfalso
    omega
  | succ n ih =>
    intro y hy hn
    refine X.iload_n 3 i261_2 rfl rfl rfl ?_
    refine X.sipush 6 i261_3 rfl rfl (by decide) ?_
    refine X.icmpge 21 9 i261_6 rfl rfl rfl (fun h1 => ?_) (fun h1 => ?_)
    · refine X.cut [] i261_21 rfl ?_
      have e : y = 1619 := by omega
      rw [e]
      exact K
    · refine X.aload_n 10 i261_9 rfl rfl rfl ?_
      refine X.iload_n 11 i261_10 rfl rfl rfl ?_
      refine X.aload_n 12 i261_11 rfl rfl rfl ?_
      refine X.iload_n 13 i261_12 rfl rfl rfl ?_
      refine X.lald 14 i261_13 rfl rfl (by decide) rfl (by omega) ?_
      refine X.last' 15 i261_14 rfl rfl (by decide) rfl (by omega) (fun hr m1 hm1 => ?_)
      rw [z_cp_step m (by decide) hy.1] at hm1
      subst hm1
      refine X.iinc 18 [(0, zr 4 46), (1, zr 4 45), (2, zi (y + 1))] i261_15 rfl rfl rfl (by omega) rfl ?_
      refine X.goto 2 i261_18 rfl rfl ?_
      exact ih (y + 1) (by omega) (by omega)
theorem c_cq_46_45 {s : Nat × (Nat → Int32)} {S : zS} {m0 m : zM} {B : Int} {d : Nat} {Q : Option zV → zM → Prop} (_hd : 13 ≤ d) (hJ : J S m0 B m) (_hB : B + 0 ≤ 1000000000) (hf : S.2.1) (hs0 : S.1 4 45 0) (hs1 : S.1 4 45 1) (hs2 : S.1 4 45 2) (hs3 : S.1 4 45 3) (hs4 : S.1 4 45 11) (hs5 : S.1 4 45 13) (hs6 : S.1 4 45 18) (hs7 : S.1 4 45 1614) (hs8 : S.1 4 45 1615) (hs9 : S.1 4 45 1616) (hs10 : S.1 4 45 1617)
    (hQ : ∀ m', J S m0 B m' → (m' = z_cpy m 4 45 4 46 0 0 1619) → Q none m') : X (EE s) d 261 0 [(0, zr 4 46), (1, zr 4 45)] [] m Q := by
  refine X.iconst 1 i261_0 rfl rfl (by decide) ?_
  refine X.istore_n 2 [(0, zr 4 46), (1, zr 4 45), (2, zi 0)] i261_1 rfl rfl rfl ?_
  have h := l_cp_46_45 (s := s) (d := d) (Q := Q) (m := m) (by
    refine X.retv i261_21 rfl t261 ?_
    exact hQ _ (hJ.cp rfl (fun _ _ _ => ⟨fun _ => hf, fun e => absurd e (by decide)⟩) (fun i h => by
    have h := of_decide_eq_true (show decide ((4 : Nat) = 4 ∧ (i = 0 ∨ i = 1 ∨ i = 2 ∨ i = 3 ∨ i = 11 ∨ i = 13 ∨ i = 18 ∨ i = 1614 ∨ i = 1615 ∨ i = 1616 ∨ i = 1617)) = true from h)
    rcases h.2 with rfl | rfl | rfl | rfl | rfl | rfl | rfl | rfl | rfl | rfl | rfl
    · exact hs0
    · exact hs1
    · exact hs2
    · exact hs3
    · exact hs4
    · exact hs5
    · exact hs6
    · exact hs7
    · exact hs8
    · exact hs9
    · exact hs10) (by decide) rfl (fun k hk => ⟨fun _ h => h, fun _ h => h⟩)) rfl) 1620 0 (by omega) (by omega)
  rw [z_cp_zero] at h
  exact h
theorem l_cp_45_47 {s : Nat × (Nat → Int32)} {d : Nat} {Q : Option zV → zM → Prop} {m : zM}
    (K : X (EE s) d 261 21 [] [] (z_cpy m 4 47 4 45 0 0 1619) Q) :
    ∀ (n : Nat) (y : Int), 0 ≤ y ∧ y ≤ 1619 → 1619 - y < (n : Int) → X (EE s) d 261 2 [(0, zr 4 45), (1, zr 4 47), (2, zi y)] [] (z_cpy m 4 47 4 45 0 0 y) Q := by
  intro n
  induction n with
  | zero =>
    intro y hy hn
    exfalso
    omega
  | succ n ih =>
    intro y hy hn
    refine X.iload_n 3 i261_2 rfl rfl rfl ?_
    refine X.sipush 6 i261_3 rfl rfl (by decide) ?_
    refine X.icmpge 21 9 i261_6 rfl rfl rfl (fun h1 => ?_) (fun h1 => ?_)
    · refine X.cut [] i261_21 rfl ?_
      have e : y = 1619 := by omega
      rw [e]
      exact K
    · refine X.aload_n 10 i261_9 rfl rfl rfl ?_
      refine X.iload_n 11 i261_10 rfl rfl rfl ?_
      refine X.aload_n 12 i261_11 rfl rfl rfl ?_
      refine X.iload_n 13 i261_12 rfl rfl rfl ?_
      refine X.lald 14 i261_13 rfl rfl (by decide) rfl (by omega) ?_
      refine X.last' 15 i261_14 rfl rfl (by decide) rfl (by omega) (fun hr m1 hm1 => ?_)
      rw [z_cp_step m (by decide) hy.1] at hm1
      subst hm1
      refine X.iinc 18 [(0, zr 4 45), (1, zr 4 47), (2, zi (y + 1))] i261_15 rfl rfl rfl (by omega) rfl ?_
      refine X.goto 2 i261_18 rfl rfl ?_
      exact ih (y + 1) (by omega) (by omega)
theorem c_cq_45_47 {s : Nat × (Nat → Int32)} {S : zS} {m0 m : zM} {B : Int} {d : Nat} {Q : Option zV → zM → Prop} (_hd : 13 ≤ d) (hJ : J S m0 B m) (_hB : B + 0 ≤ 1000000000) (hs0 : S.1 4 47 0) (hs1 : S.1 4 47 1) (hs2 : S.1 4 47 2) (hs3 : S.1 4 47 3) (hs4 : S.1 4 47 11) (hs5 : S.1 4 47 13) (hs6 : S.1 4 47 18) (hs7 : S.1 4 47 1614) (hs8 : S.1 4 47 1615) (hs9 : S.1 4 47 1616) (hs10 : S.1 4 47 1617)
    (hQ : ∀ m', J (S.1, S.2.1, True) m0 B m' → (m' = z_cpy m 4 47 4 45 0 0 1619) → Q none m') : X (EE s) d 261 0 [(0, zr 4 45), (1, zr 4 47)] [] m Q := by
  refine X.iconst 1 i261_0 rfl rfl (by decide) ?_
  refine X.istore_n 2 [(0, zr 4 45), (1, zr 4 47), (2, zi 0)] i261_1 rfl rfl rfl ?_
  have h := l_cp_45_47 (s := s) (d := d) (Q := Q) (m := m) (by
    refine X.retv i261_21 rfl t261 ?_
    exact hQ _ (hJ.cp rfl (fun _ _ _ => ⟨fun e => absurd e (by decide), fun e => absurd e (by decide)⟩) (fun i h => by
    have h := of_decide_eq_true (show decide ((4 : Nat) = 4 ∧ (i = 0 ∨ i = 1 ∨ i = 2 ∨ i = 3 ∨ i = 11 ∨ i = 13 ∨ i = 18 ∨ i = 1614 ∨ i = 1615 ∨ i = 1616 ∨ i = 1617)) = true from h)
    rcases h.2 with rfl | rfl | rfl | rfl | rfl | rfl | rfl | rfl | rfl | rfl | rfl
    · exact hs0
    · exact hs1
    · exact hs2
    · exact hs3
    · exact hs4
    · exact hs5
    · exact hs6
    · exact hs7
    · exact hs8
    · exact hs9
    · exact hs10) (by decide) rfl (fun k hk => ⟨fun _ h => h, fun e => absurd e hk⟩)) rfl) 1620 0 (by omega) (by omega)
  rw [z_cp_zero] at h
  exact h
theorem l_cp_47_45 {s : Nat × (Nat → Int32)} {d : Nat} {Q : Option zV → zM → Prop} {m : zM}
    (K : X (EE s) d 261 21 [] [] (z_cpy m 4 45 4 47 0 0 1619) Q) :
    ∀ (n : Nat) (y : Int), 0 ≤ y ∧ y ≤ 1619 → 1619 - y < (n : Int) → X (EE s) d 261 2 [(0, zr 4 47), (1, zr 4 45), (2, zi y)] [] (z_cpy m 4 45 4 47 0 0 y) Q := by
  intro n
  induction n with
  | zero =>
    intro y hy hn
    exfalso
    omega
  | succ n ih =>
    intro y hy hn
    refine X.iload_n 3 i261_2 rfl rfl rfl ?_
    refine X.sipush 6 i261_3 rfl rfl (by decide) ?_
    refine X.icmpge 21 9 i261_6 rfl rfl rfl (fun h1 => ?_) (fun h1 => ?_)
    · refine X.cut [] i261_21 rfl ?_
      have e : y = 1619 := by omega
      rw [e]
      exact K
    · refine X.aload_n 10 i261_9 rfl rfl rfl ?_
      refine X.iload_n 11 i261_10 rfl rfl rfl ?_
      refine X.aload_n 12 i261_11 rfl rfl rfl ?_
      refine X.iload_n 13 i261_12 rfl rfl rfl ?_
      refine X.lald 14 i261_13 rfl rfl (by decide) rfl (by omega) ?_
      refine X.last' 15 i261_14 rfl rfl (by decide) rfl (by omega) (fun hr m1 hm1 => ?_)
      rw [z_cp_step m (by decide) hy.1] at hm1
      subst hm1
      refine X.iinc 18 [(0, zr 4 47), (1, zr 4 45), (2, zi (y + 1))] i261_15 rfl rfl rfl (by omega) rfl ?_
      refine X.goto 2 i261_18 rfl rfl ?_
      exact ih (y + 1) (by omega) (by omega)
theorem c_cq_47_45 {s : Nat × (Nat → Int32)} {S : zS} {m0 m : zM} {B : Int} {d : Nat} {Q : Option zV → zM → Prop} (_hd : 13 ≤ d) (hJ : J S m0 B m) (_hB : B + 0 ≤ 1000000000) (hf : S.2.2 ∨ m 4 44 3 = 1) (hs0 : S.1 4 45 0) (hs1 : S.1 4 45 1) (hs2 : S.1 4 45 2) (hs3 : S.1 4 45 3) (hs4 : S.1 4 45 11) (hs5 : S.1 4 45 13) (hs6 : S.1 4 45 18) (hs7 : S.1 4 45 1614) (hs8 : S.1 4 45 1615) (hs9 : S.1 4 45 1616) (hs10 : S.1 4 45 1617)
    (hQ : ∀ m', J S m0 B m' → (m' = z_cpy m 4 45 4 47 0 0 1619) → Q none m') : X (EE s) d 261 0 [(0, zr 4 47), (1, zr 4 45)] [] m Q := by
  refine X.iconst 1 i261_0 rfl rfl (by decide) ?_
  refine X.istore_n 2 [(0, zr 4 47), (1, zr 4 45), (2, zi 0)] i261_1 rfl rfl rfl ?_
  have h := l_cp_47_45 (s := s) (d := d) (Q := Q) (m := m) (by
    refine X.retv i261_21 rfl t261 ?_
    exact hQ _ (hJ.cp rfl (fun _ _ _ => ⟨fun e => absurd e (by decide), fun _ => hf⟩) (fun i h => by
    have h := of_decide_eq_true (show decide ((4 : Nat) = 4 ∧ (i = 0 ∨ i = 1 ∨ i = 2 ∨ i = 3 ∨ i = 11 ∨ i = 13 ∨ i = 18 ∨ i = 1614 ∨ i = 1615 ∨ i = 1616 ∨ i = 1617)) = true from h)
    rcases h.2 with rfl | rfl | rfl | rfl | rfl | rfl | rfl | rfl | rfl | rfl | rfl
    · exact hs0
    · exact hs1
    · exact hs2
    · exact hs3
    · exact hs4
    · exact hs5
    · exact hs6
    · exact hs7
    · exact hs8
    · exact hs9
    · exact hs10) (by decide) rfl (fun k hk => ⟨fun _ h => h, fun _ h => h⟩)) rfl) 1620 0 (by omega) (by omega)
  rw [z_cp_zero] at h
  exact h
theorem zro2_0 {s : Nat × (Nat → Int32)} : z_ro (EE s) 2 0 = 0 := by
  show (sA2.getD 0 0).toInt = (0 : Int)
  decide
theorem zro2_1 {s : Nat × (Nat → Int32)} : z_ro (EE s) 2 1 = 1 := by
  show (sA2.getD 1 0).toInt = (1 : Int)
  decide
theorem zro2_2 {s : Nat × (Nat → Int32)} : z_ro (EE s) 2 2 = 0 := by
  show (sA2.getD 2 0).toInt = (0 : Int)
  decide
theorem zro2_3 {s : Nat × (Nat → Int32)} : z_ro (EE s) 2 3 = 0 := by
  show (sA2.getD 3 0).toInt = (0 : Int)
  decide
theorem zro2_4 {s : Nat × (Nat → Int32)} : z_ro (EE s) 2 4 = 60 := by
  show (sA2.getD 4 0).toInt = (60 : Int)
  decide
theorem zro2_5 {s : Nat × (Nat → Int32)} : z_ro (EE s) 2 5 = 1 := by
  show (sA2.getD 5 0).toInt = (1 : Int)
  decide
theorem zro2_6 {s : Nat × (Nat → Int32)} : z_ro (EE s) 2 6 = 0 := by
  show (sA2.getD 6 0).toInt = (0 : Int)
  decide
theorem zro2_7 {s : Nat × (Nat → Int32)} : z_ro (EE s) 2 7 = 0 := by
  show (sA2.getD 7 0).toInt = (0 : Int)
  decide
theorem zro2_8 {s : Nat × (Nat → Int32)} : z_ro (EE s) 2 8 = 0 := by
  show (sA2.getD 8 0).toInt = (0 : Int)
  decide
theorem zro2_9 {s : Nat × (Nat → Int32)} : z_ro (EE s) 2 9 = 0 := by
  show (sA2.getD 9 0).toInt = (0 : Int)
  decide
theorem zro2_10 {s : Nat × (Nat → Int32)} : z_ro (EE s) 2 10 = 0 := by
  show (sA2.getD 10 0).toInt = (0 : Int)
  decide
theorem zro2_11 {s : Nat × (Nat → Int32)} : z_ro (EE s) 2 11 = 0 := by
  show (sA2.getD 11 0).toInt = (0 : Int)
  decide
theorem zro2_12 {s : Nat × (Nat → Int32)} : z_ro (EE s) 2 12 = 0 := by
  show (sA2.getD 12 0).toInt = (0 : Int)
  decide
theorem zro3_0 {s : Nat × (Nat → Int32)} : z_ro (EE s) 3 0 = 1000000 := by
  show (sA3.getD 0 0).toInt = (1000000 : Int)
  decide
theorem zro3_1 {s : Nat × (Nat → Int32)} : z_ro (EE s) 3 1 = 1000000 := by
  show (sA3.getD 1 0).toInt = (1000000 : Int)
  decide
theorem zro3_2 {s : Nat × (Nat → Int32)} : z_ro (EE s) 3 2 = 250000 := by
  show (sA3.getD 2 0).toInt = (250000 : Int)
  decide
theorem zro3_3 {s : Nat × (Nat → Int32)} : z_ro (EE s) 3 3 = 60 := by
  show (sA3.getD 3 0).toInt = (60 : Int)
  decide
theorem zro3_4 {s : Nat × (Nat → Int32)} : z_ro (EE s) 3 4 = 3600 := by
  show (sA3.getD 4 0).toInt = (3600 : Int)
  decide
theorem zro3_5 {s : Nat × (Nat → Int32)} : z_ro (EE s) 3 5 = 6 := by
  show (sA3.getD 5 0).toInt = (6 : Int)
  decide
theorem zro3_6 {s : Nat × (Nat → Int32)} : z_ro (EE s) 3 6 = 100 := by
  show (sA3.getD 6 0).toInt = (100 : Int)
  decide
theorem zro3_7 {s : Nat × (Nat → Int32)} : z_ro (EE s) 3 7 = 100 := by
  show (sA3.getD 7 0).toInt = (100 : Int)
  decide
theorem zro3_8 {s : Nat × (Nat → Int32)} : z_ro (EE s) 3 8 = 100 := by
  show (sA3.getD 8 0).toInt = (100 : Int)
  decide
theorem zro3_9 {s : Nat × (Nat → Int32)} : z_ro (EE s) 3 9 = 100 := by
  show (sA3.getD 9 0).toInt = (100 : Int)
  decide
theorem zro3_10 {s : Nat × (Nat → Int32)} : z_ro (EE s) 3 10 = 100 := by
  show (sA3.getD 10 0).toInt = (100 : Int)
  decide
theorem zro3_11 {s : Nat × (Nat → Int32)} : z_ro (EE s) 3 11 = 200 := by
  show (sA3.getD 11 0).toInt = (200 : Int)
  decide
theorem zro3_12 {s : Nat × (Nat → Int32)} : z_ro (EE s) 3 12 = 100 := by
  show (sA3.getD 12 0).toInt = (100 : Int)
  decide
