theorem J.tr {m0 m m1 : zM} {B : Int} {g k : Nat} {i x : Int} (h : J m0 B m) (hm : m1 = z_upd m g k i x) (hx : jl k i ≤ x ∧ x ≤ jh B k i) (hi : i ≠ -1) : J (z_upd m0 g k i x) B m1 := by
  subst hm
  have flag : ∀ k' : Nat, z_upd m0 g k i x 4 k' (-1) = m0 4 k' (-1) := fun k' => by
    unfold z_upd
    rw [if_neg (fun e => hi e.2.2.symm)]
  have key : ∀ (g' : Nat) (i' : Int), m0 g' 44 i' ≤ m g' 44 i' → z_upd m0 g k i x g' 44 i' ≤ z_upd m g k i x g' 44 i' := by
    intro g' i' hi'
    unfold z_upd
    split
    · exact Int.le_refl _
    · exact hi'
  refine ⟨⟨fun g' k' i' hq => ?_, fun g' => ⟨key g' 8 (h.1.2 g').1, key g' 9 (h.1.2 g').2⟩⟩, fun g' k' i' h9 => ?_⟩
  · unfold z_upd
    split
    · rename_i e
      obtain ⟨rfl, rfl, rfl⟩ := e
      exact hx
    · exact h.1.1 g' k' i' (jq_co (flag 46) (flag 47) hq)
  · unfold z_upd
    split
    · rfl
    · exact h.2 g' k' i' h9
theorem J.drop {m0 m : zM} {B : Int} {g k : Nat} {i x : Int} (h : J (z_upd m0 g k i x) B m) (ht : jt g k i = false) (hn : jn k i = false := by rfl) (hi : i ≠ -1 := by decide) : J m0 B m := by
  have flag : ∀ k' : Nat, z_upd m0 g k i x 4 k' (-1) = m0 4 k' (-1) := fun k' => by
    unfold z_upd
    rw [if_neg (fun e => hi e.2.2.symm)]
  have key : ∀ (g' : Nat) (i' : Int), (i' = 8 ∨ i' = 9) → z_upd m0 g k i x g' 44 i' = m0 g' 44 i' := by
    intro g' i' hi'
    unfold z_upd
    rw [if_neg]
    intro e
    obtain ⟨rfl, rfl, rfl⟩ := e
    rcases hi' with rfl | rfl <;> cases hn
  refine ⟨⟨fun g' k' i' hq => h.1.1 g' k' i' (jq_co (flag 46).symm (flag 47).symm hq), fun g' => by rw [← key g' 8 (.inl rfl), ← key g' 9 (.inr rfl)]; exact h.1.2 g'⟩, fun g' k' i' h9 => ?_⟩
  have h1 := h.2 g' k' i' h9
  unfold z_upd at h1
  rw [if_neg] at h1
  · exact h1
  · intro e
    obtain ⟨rfl, rfl, rfl⟩ := e
    rw [ht] at h9
    cases h9
theorem J.cp {m0 m : zM} {B : Int} {kf kt : Nat} (h : J m0 B m) (hb : jb kt = jb kf) (ht : ∀ i, jt 4 kt i = true → jt 4 kf i = true) (hf : jv m0 kf) (hk : kt ≠ 44 := by decide) (hj : jt 4 kt (-1) = false := by rfl) : J (z_upd (z_cpy m0 4 kt 4 kf 0 0 1619) 4 kt (-1) 1) B (z_cpy m 4 kt 4 kf 0 0 1619) := by
  have key : ∀ (m : zM) (g : Nat) (i : Int), z_cpy m 4 kt 4 kf 0 0 1619 g 44 i = m g 44 i := by
    intro m g i
    unfold z_cpy
    rw [if_neg]
    exact fun e => hk e.2.1.symm
  have key2 : ∀ (m : zM) (g : Nat) (i : Int), z_upd m 4 kt (-1) 1 g 44 i = m g 44 i := by
    intro m g i
    unfold z_upd
    rw [if_neg]
    exact fun e => hk e.2.1.symm
  have flag : ∀ k' : Nat, k' ≠ kt → z_upd (z_cpy m0 4 kt 4 kf 0 0 1619) 4 kt (-1) 1 4 k' (-1) = m0 4 k' (-1) := fun k' hk' => by
    unfold z_upd z_cpy
    rw [if_neg (fun e => hk' e.2.1), if_neg (fun e => hk' e.2.1)]
  refine ⟨⟨fun g k i hq => ?_, fun g => by rw [key2, key2, key, key, key, key]; exact h.1.2 g⟩, fun g k i h9 => ?_⟩
  · unfold z_cpy
    split
    · rename_i e
      obtain ⟨rfl, rfl, e1, e2⟩ := e
      rw [show i - 0 + 0 = i by omega]
      have h1 := h.1.1 4 kf i (fun _ _ _ => hf)
      unfold jl jh at h1 ⊢
      rw [hb]
      exact h1
    · rename_i hne
      refine h.1.1 g k i (fun e1 e2 e3 => ?_)
      have hkt : k ≠ kt := fun e => hne ⟨e1, e, e2, by omega⟩
      have h2 := hq e1 e2 e3
      exact ⟨fun e => by rw [← flag 46 (fun e' => hkt (e.trans e'))]; exact h2.1 e, fun e => by rw [← flag 47 (fun e' => hkt (e.trans e'))]; exact h2.2 e⟩
  · have e1 : z_upd (z_cpy m0 4 kt 4 kf 0 0 1619) 4 kt (-1) 1 g k i = z_cpy m0 4 kt 4 kf 0 0 1619 g k i := by
      unfold z_upd
      rw [if_neg]
      rintro ⟨rfl, rfl, rfl⟩
      rw [hj] at h9
      cases h9
    rw [e1]
    unfold z_cpy
    split
    · rename_i e
      obtain ⟨rfl, rfl, -, -⟩ := e
      rw [show i - 0 + 0 = i by omega]
      exact h.2 4 kf i (ht i h9)
    · exact h.2 g k i h9
theorem z_cp_step (m : zM) {kf kt : Nat} (hk : kf ≠ kt) {y : Int} (hy : 0 ≤ y) : z_upd (z_cpy m 4 kt 4 kf 0 0 y) 4 kt y (z_cpy m 4 kt 4 kf 0 0 y 4 kf y) = z_cpy m 4 kt 4 kf 0 0 (y + 1) := by
  have h0 : z_cpy m 4 kt 4 kf 0 0 y 4 kf y = m 4 kf y := by
    unfold z_cpy
    rw [if_neg]
    exact fun e => hk e.2.1
  rw [h0]
  funext g k i
  unfold z_upd z_cpy
  by_cases h1 : g = 4 ∧ k = kt
  · obtain ⟨rfl, rfl⟩ := h1
    by_cases h2 : i = y
    · subst h2
      rw [if_pos ⟨rfl, rfl, rfl⟩, if_pos ⟨rfl, rfl, hy, by omega⟩]
      rw [show i - 0 + 0 = i by omega]
    · rw [if_neg (fun e => h2 e.2.2)]
      by_cases h3 : 0 ≤ i ∧ i < 0 + y
      · rw [if_pos ⟨rfl, rfl, h3.1, h3.2⟩, if_pos ⟨rfl, rfl, h3.1, by omega⟩]
      · rw [if_neg (fun e => h3 e.2.2), if_neg (fun e => h3 ⟨e.2.2.1, by omega⟩)]
  · rw [if_neg (fun e => h1 ⟨e.1, e.2.1⟩), if_neg (fun e => h1 ⟨e.1, e.2.1⟩), if_neg (fun e => h1 ⟨e.1, e.2.1⟩)]
theorem z_cp_zero (m : zM) {kf kt : Nat} : z_cpy m 4 kt 4 kf 0 0 0 = m := by
  funext g k i
  unfold z_cpy
  rw [if_neg (fun e => by omega)]
theorem l_cp_45_46 {s : Nat × (Nat → Int32)} {d : Nat} {Q : Option zV → zM → Prop} {m : zM}
    (K : X (EE s) d 261 21 [] [] (z_cpy m 4 46 4 45 0 0 1619) Q) :
    ∀ (n : Nat) (y : Int), 0 ≤ y ∧ y ≤ 1619 → 1619 - y < (n : Int) → X (EE s) d 261 2 [(0, zr 4 45), (1, zr 4 46), (2, zi y)] [] (z_cpy m 4 46 4 45 0 0 y) Q := by
  intro n
  induction n with
  | zero =>
    intro y hy hn
    exfalso
    omega
  | succ n ih =>
    intro y hy hn
    refine X.iload_n 3 i261_2 rfl rfl rfl ?_
    refine X.sipush 6 i261_3 rfl rfl (by decide) ?_
    refine X.icmpge 21 9 i261_6 rfl rfl rfl (fun h1 => ?_) (fun h1 => ?_)
    · refine X.cut [] i261_21 rfl ?_
      have e : y = 1619 := by omega
      rw [e]
      exact K
    · refine X.aload_n 10 i261_9 rfl rfl rfl ?_
      refine X.iload_n 11 i261_10 rfl rfl rfl ?_
      refine X.aload_n 12 i261_11 rfl rfl rfl ?_
      refine X.iload_n 13 i261_12 rfl rfl rfl ?_
      refine X.lald 14 i261_13 rfl rfl (by decide) rfl (by omega) ?_
      refine X.last' 15 i261_14 rfl rfl (by decide) rfl (by omega) (fun hr m1 hm1 => ?_)
      rw [z_cp_step m (by decide) hy.1] at hm1
      subst hm1
      refine X.iinc 18 [(0, zr 4 45), (1, zr 4 46), (2, zi (y + 1))] i261_15 rfl rfl rfl (by omega) rfl ?_
      refine X.goto 2 i261_18 rfl rfl ?_
      exact ih (y + 1) (by omega) (by omega)
theorem c_cp_45_46 {s : Nat × (Nat → Int32)} {m0 m : zM} {B : Int} {d : Nat} {Q : Option zV → zM → Prop} (hJ : J m0 B m) (hf : jv m0 45)
    (hQ : J (z_upd (z_cpy m0 4 46 4 45 0 0 1619) 4 46 (-1) 1) B (z_cpy m 4 46 4 45 0 0 1619) → Q none (z_cpy m 4 46 4 45 0 0 1619)) : X (EE s) d 261 0 [(0, zr 4 45), (1, zr 4 46)] [] m Q := by
  refine X.iconst 1 i261_0 rfl rfl (by decide) ?_
  refine X.istore_n 2 [(0, zr 4 45), (1, zr 4 46), (2, zi 0)] i261_1 rfl rfl rfl ?_
  have h := l_cp_45_46 (s := s) (d := d) (Q := Q) (m := m) (by
    refine X.retv i261_21 rfl t261 ?_
    exact hQ (hJ.cp rfl (fun i h => h) hf)) 1620 0 (by omega) (by omega)
  rw [z_cp_zero] at h
  exact h
theorem l_cp_46_45 {s : Nat × (Nat → Int32)} {d : Nat} {Q : Option zV → zM → Prop} {m : zM}
    (K : X (EE s) d 261 21 [] [] (z_cpy m 4 45 4 46 0 0 1619) Q) :
    ∀ (n : Nat) (y : Int), 0 ≤ y ∧ y ≤ 1619 → 1619 - y < (n : Int) → X (EE s) d 261 2 [(0, zr 4 46), (1, zr 4 45), (2, zi y)] [] (z_cpy m 4 45 4 46 0 0 y) Q := by
  intro n
  induction n with
  | zero =>
    intro y hy hn
    exfalso
    omega
  | succ n ih =>
    intro y hy hn
    refine X.iload_n 3 i261_2 rfl rfl rfl ?_
    refine X.sipush 6 i261_3 rfl rfl (by decide) ?_
    refine X.icmpge 21 9 i261_6 rfl rfl rfl (fun h1 => ?_) (fun h1 => ?_)
    · refine X.cut [] i261_21 rfl ?_
      have e : y = 1619 := by omega
      rw [e]
      exact K
    · refine X.aload_n 10 i261_9 rfl rfl rfl ?_
      refine X.iload_n 11 i261_10 rfl rfl rfl ?_
      refine X.aload_n 12 i261_11 rfl rfl rfl ?_
      refine X.iload_n 13 i261_12 rfl rfl rfl ?_
      refine X.lald 14 i261_13 rfl rfl (by decide) rfl (by omega) ?_
      refine X.last' 15 i261_14 rfl rfl (by decide) rfl (by omega) (fun hr m1 hm1 => ?_)
      rw [z_cp_step m (by decide) hy.1] at hm1
      subst hm1
      refine X.iinc 18 [(0, zr 4 46), (1, zr 4 45), (2, zi (y + 1))] i261_15 rfl rfl rfl (by omega) rfl ?_
      refine X.goto 2 i261_18 rfl rfl ?_
      exact ih (y + 1) (by omega) (by omega)
theorem c_cp_46_45 {s : Nat × (Nat → Int32)} {m0 m : zM} {B : Int} {d : Nat} {Q : Option zV → zM → Prop} (hJ : J m0 B m) (hf : jv m0 46)
    (hQ : J (z_upd (z_cpy m0 4 45 4 46 0 0 1619) 4 45 (-1) 1) B (z_cpy m 4 45 4 46 0 0 1619) → Q none (z_cpy m 4 45 4 46 0 0 1619)) : X (EE s) d 261 0 [(0, zr 4 46), (1, zr 4 45)] [] m Q := by
  refine X.iconst 1 i261_0 rfl rfl (by decide) ?_
  refine X.istore_n 2 [(0, zr 4 46), (1, zr 4 45), (2, zi 0)] i261_1 rfl rfl rfl ?_
  have h := l_cp_46_45 (s := s) (d := d) (Q := Q) (m := m) (by
    refine X.retv i261_21 rfl t261 ?_
    exact hQ (hJ.cp rfl (fun i h => h) hf)) 1620 0 (by omega) (by omega)
  rw [z_cp_zero] at h
  exact h
theorem l_cp_45_47 {s : Nat × (Nat → Int32)} {d : Nat} {Q : Option zV → zM → Prop} {m : zM}
    (K : X (EE s) d 261 21 [] [] (z_cpy m 4 47 4 45 0 0 1619) Q) :
    ∀ (n : Nat) (y : Int), 0 ≤ y ∧ y ≤ 1619 → 1619 - y < (n : Int) → X (EE s) d 261 2 [(0, zr 4 45), (1, zr 4 47), (2, zi y)] [] (z_cpy m 4 47 4 45 0 0 y) Q := by
  intro n
  induction n with
  | zero =>
    intro y hy hn
    exfalso
    omega
  | succ n ih =>
    intro y hy hn
    refine X.iload_n 3 i261_2 rfl rfl rfl ?_
    refine X.sipush 6 i261_3 rfl rfl (by decide) ?_
    refine X.icmpge 21 9 i261_6 rfl rfl rfl (fun h1 => ?_) (fun h1 => ?_)
    · refine X.cut [] i261_21 rfl ?_
      have e : y = 1619 := by omega
      rw [e]
      exact K
    · refine X.aload_n 10 i261_9 rfl rfl rfl ?_
      refine X.iload_n 11 i261_10 rfl rfl rfl ?_
      refine X.aload_n 12 i261_11 rfl rfl rfl ?_
      refine X.iload_n 13 i261_12 rfl rfl rfl ?_
      refine X.lald 14 i261_13 rfl rfl (by decide) rfl (by omega) ?_
      refine X.last' 15 i261_14 rfl rfl (by decide) rfl (by omega) (fun hr m1 hm1 => ?_)
      rw [z_cp_step m (by decide) hy.1] at hm1
      subst hm1
      refine X.iinc 18 [(0, zr 4 45), (1, zr 4 47), (2, zi (y + 1))] i261_15 rfl rfl rfl (by omega) rfl ?_
      refine X.goto 2 i261_18 rfl rfl ?_
      exact ih (y + 1) (by omega) (by omega)
theorem c_cp_45_47 {s : Nat × (Nat → Int32)} {m0 m : zM} {B : Int} {d : Nat} {Q : Option zV → zM → Prop} (hJ : J m0 B m) (hf : jv m0 45)
    (hQ : J (z_upd (z_cpy m0 4 47 4 45 0 0 1619) 4 47 (-1) 1) B (z_cpy m 4 47 4 45 0 0 1619) → Q none (z_cpy m 4 47 4 45 0 0 1619)) : X (EE s) d 261 0 [(0, zr 4 45), (1, zr 4 47)] [] m Q := by
  refine X.iconst 1 i261_0 rfl rfl (by decide) ?_
  refine X.istore_n 2 [(0, zr 4 45), (1, zr 4 47), (2, zi 0)] i261_1 rfl rfl rfl ?_
  have h := l_cp_45_47 (s := s) (d := d) (Q := Q) (m := m) (by
    refine X.retv i261_21 rfl t261 ?_
    exact hQ (hJ.cp rfl (fun i h => h) hf)) 1620 0 (by omega) (by omega)
  rw [z_cp_zero] at h
  exact h
theorem l_cp_47_45 {s : Nat × (Nat → Int32)} {d : Nat} {Q : Option zV → zM → Prop} {m : zM}
    (K : X (EE s) d 261 21 [] [] (z_cpy m 4 45 4 47 0 0 1619) Q) :
    ∀ (n : Nat) (y : Int), 0 ≤ y ∧ y ≤ 1619 → 1619 - y < (n : Int) → X (EE s) d 261 2 [(0, zr 4 47), (1, zr 4 45), (2, zi y)] [] (z_cpy m 4 45 4 47 0 0 y) Q := by
  intro n
  induction n with
  | zero =>
    intro y hy hn
    exfalso
    omega
  | succ n ih =>
    intro y hy hn
    refine X.iload_n 3 i261_2 rfl rfl rfl ?_
    refine X.sipush 6 i261_3 rfl rfl (by decide) ?_
    refine X.icmpge 21 9 i261_6 rfl rfl rfl (fun h1 => ?_) (fun h1 => ?_)
    · refine X.cut [] i261_21 rfl ?_
      have e : y = 1619 := by omega
      rw [e]
      exact K
    · refine X.aload_n 10 i261_9 rfl rfl rfl ?_
      refine X.iload_n 11 i261_10 rfl rfl rfl ?_
      refine X.aload_n 12 i261_11 rfl rfl rfl ?_
      refine X.iload_n 13 i261_12 rfl rfl rfl ?_
      refine X.lald 14 i261_13 rfl rfl (by decide) rfl (by omega) ?_
      refine X.last' 15 i261_14 rfl rfl (by decide) rfl (by omega) (fun hr m1 hm1 => ?_)
      rw [z_cp_step m (by decide) hy.1] at hm1
      subst hm1
      refine X.iinc 18 [(0, zr 4 47), (1, zr 4 45), (2, zi (y + 1))] i261_15 rfl rfl rfl (by omega) rfl ?_
      refine X.goto 2 i261_18 rfl rfl ?_
      exact ih (y + 1) (by omega) (by omega)
theorem c_cp_47_45 {s : Nat × (Nat → Int32)} {m0 m : zM} {B : Int} {d : Nat} {Q : Option zV → zM → Prop} (hJ : J m0 B m) (hf : jv m0 47)
    (hQ : J (z_upd (z_cpy m0 4 45 4 47 0 0 1619) 4 45 (-1) 1) B (z_cpy m 4 45 4 47 0 0 1619) → Q none (z_cpy m 4 45 4 47 0 0 1619)) : X (EE s) d 261 0 [(0, zr 4 47), (1, zr 4 45)] [] m Q := by
  refine X.iconst 1 i261_0 rfl rfl (by decide) ?_
  refine X.istore_n 2 [(0, zr 4 47), (1, zr 4 45), (2, zi 0)] i261_1 rfl rfl rfl ?_
  have h := l_cp_47_45 (s := s) (d := d) (Q := Q) (m := m) (by
    refine X.retv i261_21 rfl t261 ?_
    exact hQ (hJ.cp rfl (fun i h => h) hf)) 1620 0 (by omega) (by omega)
  rw [z_cp_zero] at h
  exact h
theorem c_cq_45_46 {s : Nat × (Nat → Int32)} {m0 m : zM} {B : Int} {d : Nat} {Q : Option zV → zM → Prop} (_g0 _g1 : Nat) (_hd : 13 ≤ d) (hJ : J m0 B m) (_hB : B + 0 ≤ 1000000000)
    (hQ : ∀ (n0 : zM) m', J n0 B m' → (∀ g, m' g 8 9 = m g 8 9) → (n0 = z_upd (z_cpy m0 4 46 4 45 0 0 1619) 4 46 (-1) 1) → (m' = z_cpy m 4 46 4 45 0 0 1619) → Q none m') : X (EE s) d 261 0 [(0, zr 4 45), (1, zr 4 46)] [] m Q :=
  c_cp_45_46 hJ (jv_of rfl) (fun h => hQ _ _ h (fun _ => z_cpy_o rfl) rfl rfl)
theorem c_cq_46_45 {s : Nat × (Nat → Int32)} {m0 m : zM} {B : Int} {d : Nat} {Q : Option zV → zM → Prop} (_g0 _g1 : Nat) (_hd : 13 ≤ d) (hJ : J m0 B m) (_hB : B + 0 ≤ 1000000000) (hf : m0 4 46 (-1) = 1)
    (hQ : ∀ (n0 : zM) m', J n0 B m' → (∀ g, m' g 8 9 = m g 8 9) → (n0 = z_upd (z_cpy m0 4 45 4 46 0 0 1619) 4 45 (-1) 1) → (m' = z_cpy m 4 45 4 46 0 0 1619) → Q none m') : X (EE s) d 261 0 [(0, zr 4 46), (1, zr 4 45)] [] m Q :=
  c_cp_46_45 hJ ⟨fun _ => hf, fun e => absurd e (by decide)⟩ (fun h => hQ _ _ h (fun _ => z_cpy_o rfl) rfl rfl)
theorem c_cq_45_47 {s : Nat × (Nat → Int32)} {m0 m : zM} {B : Int} {d : Nat} {Q : Option zV → zM → Prop} (_g0 _g1 : Nat) (_hd : 13 ≤ d) (hJ : J m0 B m) (_hB : B + 0 ≤ 1000000000)
    (hQ : ∀ (n0 : zM) m', J n0 B m' → (∀ g, m' g 8 9 = m g 8 9) → (n0 = z_upd (z_cpy m0 4 47 4 45 0 0 1619) 4 47 (-1) 1) → (m' = z_cpy m 4 47 4 45 0 0 1619) → Q none m') : X (EE s) d 261 0 [(0, zr 4 45), (1, zr 4 47)] [] m Q :=
  c_cp_45_47 hJ (jv_of rfl) (fun h => hQ _ _ h (fun _ => z_cpy_o rfl) rfl rfl)
theorem c_cq_47_45 {s : Nat × (Nat → Int32)} {m0 m : zM} {B : Int} {d : Nat} {Q : Option zV → zM → Prop} (_g0 _g1 : Nat) (_hd : 13 ≤ d) (hJ : J m0 B m) (_hB : B + 0 ≤ 1000000000) (hf : m0 4 47 (-1) = 1)
    (hQ : ∀ (n0 : zM) m', J n0 B m' → (∀ g, m' g 8 9 = m g 8 9) → (n0 = z_upd (z_cpy m0 4 45 4 47 0 0 1619) 4 45 (-1) 1) → (m' = z_cpy m 4 45 4 47 0 0 1619) → Q none m') : X (EE s) d 261 0 [(0, zr 4 47), (1, zr 4 45)] [] m Q :=
  c_cp_47_45 hJ ⟨fun e => absurd e (by decide), fun _ => hf⟩ (fun h => hQ _ _ h (fun _ => z_cpy_o rfl) rfl rfl)
theorem v8_11 {m0 m m1 : zM} {B x : Int} {g : Nat} (h : J m0 B m) (hm : m1 = z_upd m g 8 11 x) (hx : 0 ≤ x ∧ x ≤ 1) : J (z_upd m0 g 8 11 x) B m1 := h.tr hm (by unfold jl jh; rw [jf_at (show (11 : Int) ≤ 11 ∧ (11 : Int) ≤ 11 by omega) 1 (jb 8) rfl rfl]; exact hx) (by decide)
theorem v23_3 {m0 m m1 : zM} {B x : Int} {g : Nat} (h : J m0 B m) (hm : m1 = z_upd m g 23 3 x) (hx : 0 ≤ x ∧ x ≤ B) : J (z_upd m0 g 23 3 x) B m1 := h.tr hm (by unfold jl jh; rw [jf_at (show (3 : Int) ≤ 3 ∧ (3 : Int) ≤ 3 by omega) 0 (jb 23) rfl rfl]; exact hx) (by decide)
theorem v40_4 {m0 m m1 : zM} {B x : Int} {g : Nat} (h : J m0 B m) (hm : m1 = z_upd m g 40 4 x) (hx : 0 ≤ x ∧ x ≤ 1) : J (z_upd m0 g 40 4 x) B m1 := h.tr hm (by unfold jl jh; rw [jf_at (show (4 : Int) ≤ 4 ∧ (4 : Int) ≤ 4 by omega) 0 (jb 40) rfl rfl]; exact hx) (by decide)
theorem v41_3 {m0 m m1 : zM} {B x : Int} {g : Nat} (h : J m0 B m) (hm : m1 = z_upd m g 41 3 x) (hx : 0 ≤ x ∧ x ≤ 300) : J (z_upd m0 g 41 3 x) B m1 := h.tr hm (by unfold jl jh; rw [jf_at (show (3 : Int) ≤ 3 ∧ (3 : Int) ≤ 3 by omega) 0 (jb 41) rfl rfl]; exact hx) (by decide)
theorem v44_3 {m0 m m1 : zM} {B x : Int} {g : Nat} (h : J m0 B m) (hm : m1 = z_upd m g 44 3 x) (hx : 0 ≤ x ∧ x ≤ 1) : J (z_upd m0 g 44 3 x) B m1 := h.tr hm (by unfold jl jh; rw [jf_at (show (3 : Int) ≤ 3 ∧ (3 : Int) ≤ 3 by omega) 0 (jb 44) rfl rfl]; exact hx) (by decide)
theorem v44_5 {m0 m m1 : zM} {B x : Int} {g : Nat} (h : J m0 B m) (hm : m1 = z_upd m g 44 5 x) (hx : 0 ≤ x ∧ x ≤ 300) : J (z_upd m0 g 44 5 x) B m1 := h.tr hm (by unfold jl jh; rw [jf_at (show (5 : Int) ≤ 5 ∧ (5 : Int) ≤ 5 by omega) 1 (jb 44) rfl rfl]; exact hx) (by decide)
theorem v44_8 {m0 m m1 : zM} {B x : Int} {g : Nat} (h : J m0 B m) (hm : m1 = z_upd m g 44 8 x) (hx : 0 ≤ x ∧ x ≤ 300) : J (z_upd m0 g 44 8 x) B m1 := h.tr hm (by unfold jl jh; rw [jf_at (show (8 : Int) ≤ 8 ∧ (8 : Int) ≤ 8 by omega) 2 (jb 44) rfl rfl]; exact hx) (by decide)
theorem v44_9 {m0 m m1 : zM} {B x : Int} {g : Nat} (h : J m0 B m) (hm : m1 = z_upd m g 44 9 x) (hx : 0 ≤ x ∧ x ≤ 1) : J (z_upd m0 g 44 9 x) B m1 := h.tr hm (by unfold jl jh; rw [jf_at (show (9 : Int) ≤ 9 ∧ (9 : Int) ≤ 9 by omega) 3 (jb 44) rfl rfl]; exact hx) (by decide)
theorem v45_11 {m0 m m1 : zM} {B x : Int} {g : Nat} (h : J m0 B m) (hm : m1 = z_upd m g 45 11 x) (hx : 0 ≤ x ∧ x ≤ 1) : J (z_upd m0 g 45 11 x) B m1 := h.tr hm (by unfold jl jh; rw [jf_at (show (11 : Int) ≤ 11 ∧ (11 : Int) ≤ 11 by omega) 7 (jb 45) rfl rfl]; exact hx) (by decide)
theorem v45_18 {m0 m m1 : zM} {B x : Int} {g : Nat} (h : J m0 B m) (hm : m1 = z_upd m g 45 18 x) (hx : 0 ≤ x ∧ x ≤ B) : J (z_upd m0 g 45 18 x) B m1 := h.tr hm (by unfold jl jh; rw [jf_at (show (18 : Int) ≤ 18 ∧ (18 : Int) ≤ 18 by omega) 11 (jb 45) rfl rfl]; exact hx) (by decide)
theorem v46_11 {m0 m m1 : zM} {B x : Int} {g : Nat} (h : J m0 B m) (hm : m1 = z_upd m g 46 11 x) (hx : 0 ≤ x ∧ x ≤ 1) : J (z_upd m0 g 46 11 x) B m1 := h.tr hm (by unfold jl jh; rw [jf_at (show (11 : Int) ≤ 11 ∧ (11 : Int) ≤ 11 by omega) 7 (jb 46) rfl rfl]; exact hx) (by decide)
theorem v46_18 {m0 m m1 : zM} {B x : Int} {g : Nat} (h : J m0 B m) (hm : m1 = z_upd m g 46 18 x) (hx : 0 ≤ x ∧ x ≤ B) : J (z_upd m0 g 46 18 x) B m1 := h.tr hm (by unfold jl jh; rw [jf_at (show (18 : Int) ≤ 18 ∧ (18 : Int) ≤ 18 by omega) 11 (jb 46) rfl rfl]; exact hx) (by decide)
theorem v47_11 {m0 m m1 : zM} {B x : Int} {g : Nat} (h : J m0 B m) (hm : m1 = z_upd m g 47 11 x) (hx : 0 ≤ x ∧ x ≤ 1) : J (z_upd m0 g 47 11 x) B m1 := h.tr hm (by unfold jl jh; rw [jf_at (show (11 : Int) ≤ 11 ∧ (11 : Int) ≤ 11 by omega) 7 (jb 47) rfl rfl]; exact hx) (by decide)
theorem v47_18 {m0 m m1 : zM} {B x : Int} {g : Nat} (h : J m0 B m) (hm : m1 = z_upd m g 47 18 x) (hx : 0 ≤ x ∧ x ≤ B) : J (z_upd m0 g 47 18 x) B m1 := h.tr hm (by unfold jl jh; rw [jf_at (show (18 : Int) ≤ 18 ∧ (18 : Int) ≤ 18 by omega) 11 (jb 47) rfl rfl]; exact hx) (by decide)
theorem jt8 {g : Nat} (h : g ≤ 1) : jt g 8 11 = true := by
  rcases (show g = 0 ∨ g = 1 by omega) with rfl | rfl <;> rfl
theorem jt23 {g : Nat} (h : g ≤ 1) : jt g 23 3 = true := by
  rcases (show g = 0 ∨ g = 1 by omega) with rfl | rfl <;> rfl
/-- what the reference's calendar() does to what is tracked -/
def calP (m0 n0 : zM) : Prop := (∀ (g k : Nat) (i : Int), jt g k i = true → k ≠ 46 → ¬ (k = 44 ∧ i = 5) → n0 g k i = m0 g k i) ∧ n0 4 44 5 = 0 ∧ n0 4 47 (-1) = m0 4 47 (-1)
theorem cal_a (m0 : zM) : calP m0 (z_upd m0 4 44 5 0) := by
  refine ⟨fun g k i h9 h46 h5 => ?_, by unfold z_upd; rw [if_pos ⟨rfl, rfl, rfl⟩], z_upd_o _ _ rfl⟩
  unfold z_upd
  rw [if_neg (fun e => h5 ⟨e.2.1, e.2.2⟩)]
theorem cal_b0 (m0 : zM) (g k : Nat) (i : Int) (h9 : jt g k i = true) (h46 : k ≠ 46) (h5 : ¬ (k = 44 ∧ i = 5)) : z_upd (z_upd (z_upd (z_upd (z_cpy m0 4 46 4 45 0 0 1619) 4 46 (-1) 1) 4 44 9 0) 4 44 8 0) 4 44 5 0 g k i = m0 g k i := by
  have a1 : ¬ (g = 4 ∧ k = 44 ∧ i = 5) := fun e => h5 ⟨e.2.1, e.2.2⟩
  have a2 : ¬ (g = 4 ∧ k = 44 ∧ i = 8) := by
    rintro ⟨rfl, rfl, rfl⟩
    cases h9
  have a3 : ¬ (g = 4 ∧ k = 44 ∧ i = 9) := by
    rintro ⟨rfl, rfl, rfl⟩
    cases h9
  unfold z_upd z_cpy
  rw [if_neg a1, if_neg a2, if_neg a3, if_neg (fun e => h46 e.2.1), if_neg (fun e => h46 e.2.1)]
theorem cal_b (m0 : zM) : calP m0 (z_upd (z_upd (z_upd (z_upd (z_cpy m0 4 46 4 45 0 0 1619) 4 46 (-1) 1) 4 44 9 0) 4 44 8 0) 4 44 5 0) :=
  ⟨cal_b0 m0, by unfold z_upd; rw [if_pos ⟨rfl, rfl, rfl⟩], by rw [z_upd_o _ _ rfl, z_upd_o _ _ rfl, z_upd_o _ _ rfl, z_upd_o _ _ rfl]; exact z_cpy_o rfl⟩
theorem cal_c (m0 : zM) : calP m0 (z_upd (z_cpy (z_upd (z_upd (z_upd (z_upd (z_cpy m0 4 46 4 45 0 0 1619) 4 46 (-1) 1) 4 44 9 0) 4 44 8 0) 4 44 5 0) 4 45 4 46 0 0 1619) 4 45 (-1) 1) := by
  refine ⟨fun g k i h9 h46 h5 => ?_, ?_, ?_⟩
  · have a4 : ¬ (g = 4 ∧ k = 45 ∧ i = -1) := by
      rintro ⟨rfl, rfl, rfl⟩
      cases h9
    rw [show z_upd (z_cpy (z_upd (z_upd (z_upd (z_upd (z_cpy m0 4 46 4 45 0 0 1619) 4 46 (-1) 1) 4 44 9 0) 4 44 8 0) 4 44 5 0) 4 45 4 46 0 0 1619) 4 45 (-1) 1 g k i = z_cpy (z_upd (z_upd (z_upd (z_upd (z_cpy m0 4 46 4 45 0 0 1619) 4 46 (-1) 1) 4 44 9 0) 4 44 8 0) 4 44 5 0) 4 45 4 46 0 0 1619 g k i from if_neg a4]
    show (if g = 4 ∧ k = 45 ∧ 0 ≤ i ∧ i < 0 + 1619 then _ else _) = _
    split
    · rename_i e
      obtain ⟨rfl, rfl, e1, e2⟩ := e
      rw [z_upd_o _ _ (by simp), z_upd_o _ _ (by simp), z_upd_o _ _ (by simp)]
      unfold z_upd z_cpy
      rw [if_neg (fun e => by have := e.2.2; omega), if_pos ⟨rfl, rfl, by omega, by omega⟩]
      rw [show i - 0 + 0 - 0 + 0 = i by omega]
    · exact cal_b0 m0 g k i h9 h46 h5
  · rw [z_upd_o _ _ rfl, z_cpy_o rfl]
    unfold z_upd
    rw [if_pos ⟨rfl, rfl, rfl⟩]
  · rw [z_upd_o _ _ rfl, z_cpy_o rfl, z_upd_o _ _ rfl, z_upd_o _ _ rfl, z_upd_o _ _ rfl, z_upd_o _ _ rfl]
    exact z_cpy_o rfl
