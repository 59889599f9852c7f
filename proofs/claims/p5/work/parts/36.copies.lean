section
variable {S : zS} {m0 m m1 : zM} {B : Int} {g k : Nat} {i : Int}
/-- the store that says that there is an image -/
theorem J.img {x : Int} (h : J S m0 B m) (hm : m1 = z_upd m 4 44 3 x) (hx : 0 ≤ x ∧ x ≤ 1) (hi : S.2.2.2 ∨ m 4 44 3 = 1 ∨ x = 0) (hf : ¬ S.1 34) (hg : ¬ S.2.1 4) : J S m0 B m1 := by
  subst hm
  refine ⟨fun g' k' i' hq => ?_, fun g' k' i' h9 => ?_⟩
  · unfold z_upd
    split
    · rename_i e
      obtain ⟨rfl, rfl, rfl⟩ := e
      unfold jl jh
      rw [jf_at (show (3 : Int) ≤ 3 ∧ (3 : Int) ≤ 3 by omega) 0 (jb 44) rfl rfl]
      exact hx
    · refine h.1 g' k' i' (fun e1 e2 e3 => ⟨fun e => (hq e1 e2 e3).1 e, fun e => ?_⟩)
      rcases (hq e1 e2 e3).2 e with h1 | h1
      · exact .inl h1
      · have h2 : z_upd m 4 44 3 x 4 44 3 = x := by
          unfold z_upd
          rw [if_pos ⟨rfl, rfl, rfl⟩]
        rw [h2] at h1
        rcases hi with h3 | h3 | h3
        · exact .inl h3
        · exact .inr h3
        · omega
  · unfold z_upd
    split
    · rename_i e
      obtain ⟨rfl, rfl, rfl⟩ := e
      rw [ja_at (show (3 : Int) ≤ 3 ∧ (3 : Int) ≤ 3 by omega) 1 rfl rfl rfl] at h9
      exact absurd h9 (fun h9 => h9.elim hf hg)
    · exact h.2 g' k' i' h9
theorem J.cp {kf kt : Nat} {F G : Nat → Prop} {p q p' q' : Prop} (h : J (F, G, p, q) m0 B m) (hb : jb kt = jb kf) (hf : jq (F, G, p, q) m 4 kf 0) (hk : kt ≠ 44) (h2 : ∀ k, k ≠ kt → (k = 46 → p' → p) ∧ (k = 47 → q' → q)) (hF : ∀ i, 0 ≤ i ∧ i < 1619 → ¬ F (ja kt i)) (hG : ¬ G 4) : J (F, G, p', q') m0 B (z_cpy m 4 kt 4 kf 0 0 1619) := by
  have key : ∀ (g : Nat) (i : Int), z_cpy m 4 kt 4 kf 0 0 1619 g 44 i = m g 44 i := by
    intro g i
    unfold z_cpy
    rw [if_neg]
    exact fun e => hk e.2.1.symm
  refine ⟨fun g k i hq => ?_, fun g k i h9 => ?_⟩
  · unfold z_cpy
    split
    · rename_i e
      obtain ⟨rfl, rfl, e1, e2⟩ := e
      rw [show i - 0 + 0 = i by omega]
      have h3 := h.1 4 kf i (fun _ _ _ => hf rfl (by omega) (by omega))
      unfold jl jh at h3 ⊢
      rw [hb]
      exact h3
    · rename_i hne
      refine h.1 g k i (fun e1 e2 e3 => ?_)
      have hkt : k ≠ kt := fun e => hne ⟨e1, e, e2, by omega⟩
      have h3 := hq e1 e2 e3
      rw [key] at h3
      exact ⟨fun e => (h2 k hkt).1 e (h3.1 e), fun e => (h3.2 e).imp ((h2 k hkt).2 e) id⟩
  · unfold z_cpy
    split
    · rename_i e
      obtain ⟨rfl, rfl, e1, e2⟩ := e
      exact absurd h9 (fun h9 => h9.elim (hF i ⟨e1, by omega⟩) hG)
    · exact h.2 g k i h9
end
theorem z_cp_step (m : zM) {kf kt : Nat} (hk : kf ≠ kt) {y : Int} (hy : 0 ≤ y) : z_upd (z_cpy m 4 kt 4 kf 0 0 y) 4 kt y (z_cpy m 4 kt 4 kf 0 0 y 4 kf y) = z_cpy m 4 kt 4 kf 0 0 (y + 1) := by
  have h0 : z_cpy m 4 kt 4 kf 0 0 y 4 kf y = m 4 kf y := by
    unfold z_cpy
    rw [if_neg]
    exact fun e => hk e.2.1
  rw [h0]
  funext g k i
  unfold z_upd z_cpy
  by_cases h1 : g = 4 ∧ k = kt
  · obtain ⟨rfl, rfl⟩ := h1
    by_cases h2 : i = y
    · subst h2
      rw [if_pos ⟨rfl, rfl, rfl⟩, if_pos ⟨rfl, rfl, hy, by omega⟩]
      rw [show i - 0 + 0 = i by omega]
    · rw [if_neg (fun e => h2 e.2.2)]
      by_cases h3 : 0 ≤ i ∧ i < 0 + y
      · rw [if_pos ⟨rfl, rfl, h3.1, h3.2⟩, if_pos ⟨rfl, rfl, h3.1, by omega⟩]
      · rw [if_neg (fun e => h3 e.2.2), if_neg (fun e => h3 ⟨e.2.2.1, by omega⟩)]
  · rw [if_neg (fun e => h1 ⟨e.1, e.2.1⟩), if_neg (fun e => h1 ⟨e.1, e.2.1⟩), if_neg (fun e => h1 ⟨e.1, e.2.1⟩)]
theorem z_cp_zero (m : zM) {kf kt : Nat} : z_cpy m 4 kt 4 kf 0 0 0 = m := by
  funext g k i
  unfold z_cpy
  rw [if_neg (fun e => by omega)]
theorem l_cp_45_46 {s : Nat × (Nat → Int32)} {d : Nat} {Q : Option zV → zM → Prop} {m : zM}
    (K : X (EE s) d 261 21 [] [] (z_cpy m 4 46 4 45 0 0 1619) Q) :
    ∀ (n : Nat) (y : Int), 0 ≤ y ∧ y ≤ 1619 → 1619 - y < (n : Int) → X (EE s) d 261 2 [(0, zr 4 45), (1, zr 4 46), (2, zi y)] [] (z_cpy m 4 46 4 45 0 0 y) Q := by
  intro n
  induction n with
  | zero =>
    intro y hy hn
    exfalso
    omega
  | succ n ih =>
    intro y hy hn
    refine X.iload_n 3 i261_2 rfl rfl rfl ?_
    refine X.sipush 6 i261_3 rfl rfl (by decide) ?_
    refine X.icmpge 21 9 i261_6 rfl rfl rfl (fun h1 => ?_) (fun h1 => ?_)
    · refine X.cut [] i261_21 rfl ?_
      have e : y = 1619 := by omega
      rw [e]
      exact K
    · refine X.aload_n 10 i261_9 rfl rfl rfl ?_
      refine X.iload_n 11 i261_10 rfl rfl rfl ?_
      refine X.aload_n 12 i261_11 rfl rfl rfl ?_
      refine X.iload_n 13 i261_12 rfl rfl rfl ?_
      refine X.lald 14 i261_13 rfl rfl (by decide) rfl (by omega) ?_
      refine X.last' 15 i261_14 rfl rfl (by decide) rfl (by omega) (fun hr m1 hm1 => ?_)
      rw [z_cp_step m (by decide) hy.1] at hm1
      subst hm1
      refine X.iinc 18 [(0, zr 4 45), (1, zr 4 46), (2, zi (y + 1))] i261_15 rfl rfl rfl (by omega) rfl ?_
      refine X.goto 2 i261_18 rfl rfl ?_
      exact ih (y + 1) (by omega) (by omega)
theorem c_cq_45_46 {s : Nat × (Nat → Int32)} {S : zS} {m0 m : zM} {B : Int} {d : Nat} {Q : Option zV → zM → Prop} (_hd : 13 ≤ d) (hJ : J S m0 B m) (hf38 : ¬ S.1 38) (hg : ¬ S.2.1 4)
    (hQ : ∀ m', (m' = z_cpy m 4 46 4 45 0 0 1619) → J (S.1, S.2.1, True, S.2.2.2) m0 B m' → Q none m') : X (EE s) d 261 0 [(0, zr 4 45), (1, zr 4 46)] [] m Q := by
  refine X.iconst 1 i261_0 rfl rfl (by decide) ?_
  refine X.istore_n 2 [(0, zr 4 45), (1, zr 4 46), (2, zi 0)] i261_1 rfl rfl rfl ?_
  have h := l_cp_45_46 (s := s) (d := d) (Q := Q) (m := m) (by
    refine X.retv i261_21 rfl t261 ?_
    exact hQ _ rfl (J.cp (F := S.1) (G := S.2.1) (p := S.2.2.1) (q := S.2.2.2) hJ rfl (fun _ _ _ => ⟨fun e => absurd e (by decide), fun e => absurd e (by decide)⟩) (by decide) (fun k hk => ⟨fun e => absurd e hk, fun _ h => h⟩) (fun i hi => by
      show ¬ S.1 (ja 46 i)
      rw [ja_at (show (0 : Int) ≤ i ∧ i ≤ 1618 by omega) 0 rfl rfl rfl]; exact hf38) hg)) 1620 0 (by omega) (by omega)
  rw [z_cp_zero] at h
  exact h
theorem l_cp_46_45 {s : Nat × (Nat → Int32)} {d : Nat} {Q : Option zV → zM → Prop} {m : zM}
    (K : X (EE s) d 261 21 [] [] (z_cpy m 4 45 4 46 0 0 1619) Q) :
    ∀ (n : Nat) (y : Int), 0 ≤ y ∧ y ≤ 1619 → 1619 - y < (n : Int) → X (EE s) d 261 2 [(0, zr 4 46), (1, zr 4 45), (2, zi y)] [] (z_cpy m 4 45 4 46 0 0 y) Q := by
  intro n
  induction n with
  | zero =>
    intro y hy hn
    exfalso
    omega
  | succ n ih =>
    intro y hy hn
    refine X.iload_n 3 i261_2 rfl rfl rfl ?_
    refine X.sipush 6 i261_3 rfl rfl (by decide) ?_
    refine X.icmpge 21 9 i261_6 rfl rfl rfl (fun h1 => ?_) (fun h1 => ?_)
    · refine X.cut [] i261_21 rfl ?_
      have e : y = 1619 := by omega
      rw [e]
      exact K
    · refine X.aload_n 10 i261_9 rfl rfl rfl ?_
      refine X.iload_n 11 i261_10 rfl rfl rfl ?_
      refine X.aload_n 12 i261_11 rfl rfl rfl ?_
      refine X.iload_n 13 i261_12 rfl rfl rfl ?_
      refine X.lald 14 i261_13 rfl rfl (by decide) rfl (by omega) ?_
      refine X.last' 15 i261_14 rfl rfl (by decide) rfl (by omega) (fun hr m1 hm1 => ?_)
      rw [z_cp_step m (by decide) hy.1] at hm1
      subst hm1
      refine X.iinc 18 [(0, zr 4 46), (1, zr 4 45), (2, zi (y + 1))] i261_15 rfl rfl rfl (by omega) rfl ?_
      refine X.goto 2 i261_18 rfl rfl ?_
      exact ih (y + 1) (by omega) (by omega)
theorem c_cq_46_45 {s : Nat × (Nat → Int32)} {S : zS} {m0 m : zM} {B : Int} {d : Nat} {Q : Option zV → zM → Prop} (_hd : 13 ≤ d) (hJ : J S m0 B m) (hc : S.2.2.1) (hf21 : ¬ S.1 21) (hf22 : ¬ S.1 22) (hf23 : ¬ S.1 23) (hf24 : ¬ S.1 24) (hf25 : ¬ S.1 25) (hf26 : ¬ S.1 26) (hf27 : ¬ S.1 27) (hf28 : ¬ S.1 28) (hf29 : ¬ S.1 29) (hf30 : ¬ S.1 30) (hf31 : ¬ S.1 31) (hf32 : ¬ S.1 32) (hf33 : ¬ S.1 33) (hg : ¬ S.2.1 4)
    (hQ : ∀ m', (m' = z_cpy m 4 45 4 46 0 0 1619) → J S m0 B m' → Q none m') : X (EE s) d 261 0 [(0, zr 4 46), (1, zr 4 45)] [] m Q := by
  refine X.iconst 1 i261_0 rfl rfl (by decide) ?_
  refine X.istore_n 2 [(0, zr 4 46), (1, zr 4 45), (2, zi 0)] i261_1 rfl rfl rfl ?_
  have h := l_cp_46_45 (s := s) (d := d) (Q := Q) (m := m) (by
    refine X.retv i261_21 rfl t261 ?_
    exact hQ _ rfl (J.cp (F := S.1) (G := S.2.1) (p := S.2.2.1) (q := S.2.2.2) hJ rfl (fun _ _ _ => ⟨fun _ => hc, fun e => absurd e (by decide)⟩) (by decide) (fun k hk => ⟨fun _ h => h, fun _ h => h⟩) (fun i hi => by
      show ¬ S.1 (ja 45 i)
      rcases (show (0 ≤ i ∧ i ≤ 0) ∨ (1 ≤ i ∧ i ≤ 3) ∨ (4 ≤ i ∧ i ≤ 9) ∨ (10 ≤ i ∧ i ≤ 12) ∨ (13 ≤ i ∧ i ≤ 15) ∨ (16 ≤ i ∧ i ≤ 16) ∨ (17 ≤ i ∧ i ≤ 17) ∨ (18 ≤ i ∧ i ≤ 18) ∨ (19 ≤ i ∧ i ≤ 20) ∨ (21 ≤ i ∧ i ≤ 27) ∨ (28 ≤ i ∧ i ≤ 31) ∨ (32 ≤ i ∧ i ≤ 39) ∨ (40 ≤ i ∧ i ≤ 59) ∨ (60 ≤ i ∧ i ≤ 94) ∨ (95 ≤ i ∧ i ≤ 286) ∨ (287 ≤ i ∧ i ≤ 787) ∨ (788 ≤ i ∧ i ≤ 1171) ∨ (1172 ≤ i ∧ i ≤ 1486) ∨ (1487 ≤ i ∧ i ≤ 1606) ∨ (1607 ≤ i ∧ i ≤ 1610) ∨ (1611 ≤ i ∧ i ≤ 1613) ∨ (1614 ≤ i ∧ i ≤ 1618) by omega) with e | e | e | e | e | e | e | e | e | e | e | e | e | e | e | e | e | e | e | e | e | e
      · rw [ja_at e 0 rfl rfl rfl]; exact hf31
      · rw [ja_at e 1 rfl rfl rfl]; exact hf22
      · rw [ja_at e 2 rfl rfl rfl]; exact hf23
      · rw [ja_at e 3 rfl rfl rfl]; exact hf32
      · rw [ja_at e 4 rfl rfl rfl]; exact hf33
      · rw [ja_at e 5 rfl rfl rfl]; exact hf26
      · rw [ja_at e 6 rfl rfl rfl]; exact hf27
      · rw [ja_at e 7 rfl rfl rfl]; exact hf25
      · rw [ja_at e 8 rfl rfl rfl]; exact hf28
      · rw [ja_at e 9 rfl rfl rfl]; exact hf27
      · rw [ja_at e 10 rfl rfl rfl]; exact hf23
      · rw [ja_at e 11 rfl rfl rfl]; exact hf28
      · rw [ja_at e 12 rfl rfl rfl]; exact hf29
      · rw [ja_at e 13 rfl rfl rfl]; exact hf30
      · rw [ja_at e 14 rfl rfl rfl]; exact hf22
      · rw [ja_at e 15 rfl rfl rfl]; exact hf21
      · rw [ja_at e 16 rfl rfl rfl]; exact hf27
      · rw [ja_at e 17 rfl rfl rfl]; exact hf25
      · rw [ja_at e 18 rfl rfl rfl]; exact hf26
      · rw [ja_at e 19 rfl rfl rfl]; exact hf27
      · rw [ja_at e 20 rfl rfl rfl]; exact hf23
      · rw [ja_at e 21 rfl rfl rfl]; exact hf24) hg)) 1620 0 (by omega) (by omega)
  rw [z_cp_zero] at h
  exact h
theorem l_cp_45_47 {s : Nat × (Nat → Int32)} {d : Nat} {Q : Option zV → zM → Prop} {m : zM}
    (K : X (EE s) d 261 21 [] [] (z_cpy m 4 47 4 45 0 0 1619) Q) :
    ∀ (n : Nat) (y : Int), 0 ≤ y ∧ y ≤ 1619 → 1619 - y < (n : Int) → X (EE s) d 261 2 [(0, zr 4 45), (1, zr 4 47), (2, zi y)] [] (z_cpy m 4 47 4 45 0 0 y) Q := by
  intro n
  induction n with
  | zero =>
    intro y hy hn
    exfalso
    omega
  | succ n ih =>
    intro y hy hn
    refine X.iload_n 3 i261_2 rfl rfl rfl ?_
    refine X.sipush 6 i261_3 rfl rfl (by decide) ?_
    refine X.icmpge 21 9 i261_6 rfl rfl rfl (fun h1 => ?_) (fun h1 => ?_)
    · refine X.cut [] i261_21 rfl ?_
      have e : y = 1619 := by omega
      rw [e]
      exact K
    · refine X.aload_n 10 i261_9 rfl rfl rfl ?_
      refine X.iload_n 11 i261_10 rfl rfl rfl ?_
      refine X.aload_n 12 i261_11 rfl rfl rfl ?_
      refine X.iload_n 13 i261_12 rfl rfl rfl ?_
      refine X.lald 14 i261_13 rfl rfl (by decide) rfl (by omega) ?_
      refine X.last' 15 i261_14 rfl rfl (by decide) rfl (by omega) (fun hr m1 hm1 => ?_)
      rw [z_cp_step m (by decide) hy.1] at hm1
      subst hm1
      refine X.iinc 18 [(0, zr 4 45), (1, zr 4 47), (2, zi (y + 1))] i261_15 rfl rfl rfl (by omega) rfl ?_
      refine X.goto 2 i261_18 rfl rfl ?_
      exact ih (y + 1) (by omega) (by omega)
theorem c_cq_45_47 {s : Nat × (Nat → Int32)} {S : zS} {m0 m : zM} {B : Int} {d : Nat} {Q : Option zV → zM → Prop} (_hd : 13 ≤ d) (hJ : J S m0 B m) (hf37 : ¬ S.1 37) (hg : ¬ S.2.1 4)
    (hQ : ∀ m', (m' = z_cpy m 4 47 4 45 0 0 1619) → J (S.1, S.2.1, S.2.2.1, True) m0 B m' → Q none m') : X (EE s) d 261 0 [(0, zr 4 45), (1, zr 4 47)] [] m Q := by
  refine X.iconst 1 i261_0 rfl rfl (by decide) ?_
  refine X.istore_n 2 [(0, zr 4 45), (1, zr 4 47), (2, zi 0)] i261_1 rfl rfl rfl ?_
  have h := l_cp_45_47 (s := s) (d := d) (Q := Q) (m := m) (by
    refine X.retv i261_21 rfl t261 ?_
    exact hQ _ rfl (J.cp (F := S.1) (G := S.2.1) (p := S.2.2.1) (q := S.2.2.2) hJ rfl (fun _ _ _ => ⟨fun e => absurd e (by decide), fun e => absurd e (by decide)⟩) (by decide) (fun k hk => ⟨fun _ h => h, fun e => absurd e hk⟩) (fun i hi => by
      show ¬ S.1 (ja 47 i)
      rw [ja_at (show (0 : Int) ≤ i ∧ i ≤ 1618 by omega) 0 rfl rfl rfl]; exact hf37) hg)) 1620 0 (by omega) (by omega)
  rw [z_cp_zero] at h
  exact h
theorem l_cp_47_45 {s : Nat × (Nat → Int32)} {d : Nat} {Q : Option zV → zM → Prop} {m : zM}
    (K : X (EE s) d 261 21 [] [] (z_cpy m 4 45 4 47 0 0 1619) Q) :
    ∀ (n : Nat) (y : Int), 0 ≤ y ∧ y ≤ 1619 → 1619 - y < (n : Int) → X (EE s) d 261 2 [(0, zr 4 47), (1, zr 4 45), (2, zi y)] [] (z_cpy m 4 45 4 47 0 0 y) Q := by
  intro n
  induction n with
  | zero =>
    intro y hy hn
    exfalso
    omega
  | succ n ih =>
    intro y hy hn
    refine X.iload_n 3 i261_2 rfl rfl rfl ?_
    refine X.sipush 6 i261_3 rfl rfl (by decide) ?_
    refine X.icmpge 21 9 i261_6 rfl rfl rfl (fun h1 => ?_) (fun h1 => ?_)
    · refine X.cut [] i261_21 rfl ?_
      have e : y = 1619 := by omega
      rw [e]
      exact K
    · refine X.aload_n 10 i261_9 rfl rfl rfl ?_
      refine X.iload_n 11 i261_10 rfl rfl rfl ?_
      refine X.aload_n 12 i261_11 rfl rfl rfl ?_
      refine X.iload_n 13 i261_12 rfl rfl rfl ?_
      refine X.lald 14 i261_13 rfl rfl (by decide) rfl (by omega) ?_
      refine X.last' 15 i261_14 rfl rfl (by decide) rfl (by omega) (fun hr m1 hm1 => ?_)
      rw [z_cp_step m (by decide) hy.1] at hm1
      subst hm1
      refine X.iinc 18 [(0, zr 4 47), (1, zr 4 45), (2, zi (y + 1))] i261_15 rfl rfl rfl (by omega) rfl ?_
      refine X.goto 2 i261_18 rfl rfl ?_
      exact ih (y + 1) (by omega) (by omega)
theorem c_cq_47_45 {s : Nat × (Nat → Int32)} {S : zS} {m0 m : zM} {B : Int} {d : Nat} {Q : Option zV → zM → Prop} (_hd : 13 ≤ d) (hJ : J S m0 B m) (hc : S.2.2.2 ∨ m 4 44 3 = 1) (hf21 : ¬ S.1 21) (hf22 : ¬ S.1 22) (hf23 : ¬ S.1 23) (hf24 : ¬ S.1 24) (hf25 : ¬ S.1 25) (hf26 : ¬ S.1 26) (hf27 : ¬ S.1 27) (hf28 : ¬ S.1 28) (hf29 : ¬ S.1 29) (hf30 : ¬ S.1 30) (hf31 : ¬ S.1 31) (hf32 : ¬ S.1 32) (hf33 : ¬ S.1 33) (hg : ¬ S.2.1 4)
    (hQ : ∀ m', (m' = z_cpy m 4 45 4 47 0 0 1619) → J S m0 B m' → Q none m') : X (EE s) d 261 0 [(0, zr 4 47), (1, zr 4 45)] [] m Q := by
  refine X.iconst 1 i261_0 rfl rfl (by decide) ?_
  refine X.istore_n 2 [(0, zr 4 47), (1, zr 4 45), (2, zi 0)] i261_1 rfl rfl rfl ?_
  have h := l_cp_47_45 (s := s) (d := d) (Q := Q) (m := m) (by
    refine X.retv i261_21 rfl t261 ?_
    exact hQ _ rfl (J.cp (F := S.1) (G := S.2.1) (p := S.2.2.1) (q := S.2.2.2) hJ rfl (fun _ _ _ => ⟨fun e => absurd e (by decide), fun _ => hc⟩) (by decide) (fun k hk => ⟨fun _ h => h, fun _ h => h⟩) (fun i hi => by
      show ¬ S.1 (ja 45 i)
      rcases (show (0 ≤ i ∧ i ≤ 0) ∨ (1 ≤ i ∧ i ≤ 3) ∨ (4 ≤ i ∧ i ≤ 9) ∨ (10 ≤ i ∧ i ≤ 12) ∨ (13 ≤ i ∧ i ≤ 15) ∨ (16 ≤ i ∧ i ≤ 16) ∨ (17 ≤ i ∧ i ≤ 17) ∨ (18 ≤ i ∧ i ≤ 18) ∨ (19 ≤ i ∧ i ≤ 20) ∨ (21 ≤ i ∧ i ≤ 27) ∨ (28 ≤ i ∧ i ≤ 31) ∨ (32 ≤ i ∧ i ≤ 39) ∨ (40 ≤ i ∧ i ≤ 59) ∨ (60 ≤ i ∧ i ≤ 94) ∨ (95 ≤ i ∧ i ≤ 286) ∨ (287 ≤ i ∧ i ≤ 787) ∨ (788 ≤ i ∧ i ≤ 1171) ∨ (1172 ≤ i ∧ i ≤ 1486) ∨ (1487 ≤ i ∧ i ≤ 1606) ∨ (1607 ≤ i ∧ i ≤ 1610) ∨ (1611 ≤ i ∧ i ≤ 1613) ∨ (1614 ≤ i ∧ i ≤ 1618) by omega) with e | e | e | e | e | e | e | e | e | e | e | e | e | e | e | e | e | e | e | e | e | e
      · rw [ja_at e 0 rfl rfl rfl]; exact hf31
      · rw [ja_at e 1 rfl rfl rfl]; exact hf22
      · rw [ja_at e 2 rfl rfl rfl]; exact hf23
      · rw [ja_at e 3 rfl rfl rfl]; exact hf32
      · rw [ja_at e 4 rfl rfl rfl]; exact hf33
      · rw [ja_at e 5 rfl rfl rfl]; exact hf26
      · rw [ja_at e 6 rfl rfl rfl]; exact hf27
      · rw [ja_at e 7 rfl rfl rfl]; exact hf25
      · rw [ja_at e 8 rfl rfl rfl]; exact hf28
      · rw [ja_at e 9 rfl rfl rfl]; exact hf27
      · rw [ja_at e 10 rfl rfl rfl]; exact hf23
      · rw [ja_at e 11 rfl rfl rfl]; exact hf28
      · rw [ja_at e 12 rfl rfl rfl]; exact hf29
      · rw [ja_at e 13 rfl rfl rfl]; exact hf30
      · rw [ja_at e 14 rfl rfl rfl]; exact hf22
      · rw [ja_at e 15 rfl rfl rfl]; exact hf21
      · rw [ja_at e 16 rfl rfl rfl]; exact hf27
      · rw [ja_at e 17 rfl rfl rfl]; exact hf25
      · rw [ja_at e 18 rfl rfl rfl]; exact hf26
      · rw [ja_at e 19 rfl rfl rfl]; exact hf27
      · rw [ja_at e 20 rfl rfl rfl]; exact hf23
      · rw [ja_at e 21 rfl rfl rfl]; exact hf24) hg)) 1620 0 (by omega) (by omega)
  rw [z_cp_zero] at h
  exact h
