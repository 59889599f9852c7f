section
variable {E : zE} {d j pc : Nat} {lv : List (Nat × zV)} {st : List zV} {m : zM} {Q : Option zV → zM → Prop} {q : Nat × Nat × Nat × Nat} {c : Value} {ks : Option (List Nat)}
-- the frame's own
theorem X.loc {ins : Instr} {n : Nat} {lv' : List (Nat × zV)} {st' : List zV} (pc' : Nat) (hi : z_I E j pc = some (ins, n, q, c, ks)) (hc : z_cut ks lv = lv) (hp : pc + n = pc') (h0 : x_kind ins = 1) (kk : X E d j pc' lv' st' m Q)
    (hok : (∀ q ∈ lv, z_ok E.2.2.2 q.2) → (∀ v ∈ st, z_ok E.2.2.2 v) → (∀ q ∈ lv', z_ok E.2.2.2 q.2) ∧ (∀ v ∈ st', z_ok E.2.2.2 v) ∧ ∀ k : xL → List Value → Option xR, x_loc ins n (z_lv E.2.2.2 lv) (st.map (z_v E.2.2.2)) k = k (z_lv E.2.2.2 lv') (st'.map (z_v E.2.2.2))) : X E d j pc lv st m Q := by
  subst hp
  refine X.go hi hc (fun h1 h2 h3 => ?_) kk
  obtain ⟨g0, g1, g2⟩ := hok h1 h2
  refine ⟨g0, g1, h3, fun call M k => ?_⟩
  unfold x_step
  rw [h0]
  dsimp only
  rw [g2]
  rfl
theorem z_get_ok {L : zL} {i : Nat} {v : zV} (h : z_get lv i = some v) (hl : ∀ q ∈ lv, z_ok L q.2) : z_ok L v := by
  obtain ⟨q, h1, rfl⟩ := z_get_mem h
  exact hl q h1
theorem X.iload (pc' : Nat) {i : Nat} {x : Int} (hi : z_I E j pc = some (.iload i, 2, q, c, ks)) (hc : z_cut ks lv = lv) (hp : pc + 2 = pc') (hg : z_get lv i = some (zi x)) (kk : X E d j pc' lv (zi x :: st) m Q) : X E d j pc lv st m Q :=
  X.loc pc' hi hc hp rfl kk (fun h1 h2 => ⟨h1, z_cons (z_get_ok hg h1) h2, fun k => by
    show x_ldi i 2 2 _ _ _ = _
    unfold x_ldi
    rw [z_get_lv, hg]
    rfl⟩)
theorem X.iload_n (pc' : Nat) {i : Fin 4} {x : Int} (hi : z_I E j pc = some (.iload_n i, 1, q, c, ks)) (hc : z_cut ks lv = lv) (hp : pc + 1 = pc') (hg : z_get lv (i : Nat) = some (zi x)) (kk : X E d j pc' lv (zi x :: st) m Q) : X E d j pc lv st m Q :=
  X.loc pc' hi hc hp rfl kk (fun h1 h2 => ⟨h1, z_cons (z_get_ok hg h1) h2, fun k => by
    show x_ldi (i : Nat) 1 1 _ _ _ = _
    unfold x_ldi
    rw [z_get_lv, hg]
    rfl⟩)
theorem X.lload (pc' : Nat) {i : Nat} {x : Int} (hi : z_I E j pc = some (.lload i, 2, q, c, ks)) (hc : z_cut ks lv = lv) (hp : pc + 2 = pc') (hg : z_get lv i = some (zl x)) (kk : X E d j pc' lv (zl x :: st) m Q) : X E d j pc lv st m Q :=
  X.loc pc' hi hc hp rfl kk (fun h1 h2 => ⟨h1, z_cons (z_get_ok hg h1) h2, fun k => by
    show x_ldl i 2 2 _ _ _ = _
    unfold x_ldl
    rw [z_get_lv, hg]
    rfl⟩)
theorem X.lload_n (pc' : Nat) {i : Fin 4} {x : Int} (hi : z_I E j pc = some (.lload_n i, 1, q, c, ks)) (hc : z_cut ks lv = lv) (hp : pc + 1 = pc') (hg : z_get lv (i : Nat) = some (zl x)) (kk : X E d j pc' lv (zl x :: st) m Q) : X E d j pc lv st m Q :=
  X.loc pc' hi hc hp rfl kk (fun h1 h2 => ⟨h1, z_cons (z_get_ok hg h1) h2, fun k => by
    show x_ldl (i : Nat) 1 1 _ _ _ = _
    unfold x_ldl
    rw [z_get_lv, hg]
    rfl⟩)
theorem X.aload (pc' : Nat) {i g k : Nat} (hi : z_I E j pc = some (.aload i, 2, q, c, ks)) (hc : z_cut ks lv = lv) (hp : pc + 2 = pc') (hg : z_get lv i = some (zr g k)) (kk : X E d j pc' lv (zr g k :: st) m Q) : X E d j pc lv st m Q :=
  X.loc pc' hi hc hp rfl kk (fun h1 h2 => ⟨h1, z_cons (z_get_ok hg h1) h2, fun k => by
    show x_lda i 2 2 _ _ _ = _
    unfold x_lda
    rw [z_get_lv, hg]
    rfl⟩)
theorem X.aload_n (pc' : Nat) {i : Fin 4} {g k : Nat} (hi : z_I E j pc = some (.aload_n i, 1, q, c, ks)) (hc : z_cut ks lv = lv) (hp : pc + 1 = pc') (hg : z_get lv (i : Nat) = some (zr g k)) (kk : X E d j pc' lv (zr g k :: st) m Q) : X E d j pc lv st m Q :=
  X.loc pc' hi hc hp rfl kk (fun h1 h2 => ⟨h1, z_cons (z_get_ok hg h1) h2, fun k => by
    show x_lda (i : Nat) 1 1 _ _ _ = _
    unfold x_lda
    rw [z_get_lv, hg]
    rfl⟩)
theorem z_s1_ok {L : zL} {i : Nat} {v : zV} (hl : ∀ q ∈ lv, z_ok L q.2) (hv : z_ok L v) : ∀ q ∈ z_s1 lv i v, z_ok L q.2 := by
  intro q hq
  rcases z_ins_mem hq with rfl | hq
  · exact hv
  · exact hl q (List.mem_filter.mp hq).1
theorem z_s2_ok {L : zL} {i : Nat} {v : zV} (hl : ∀ q ∈ lv, z_ok L q.2) (hv : z_ok L v) : ∀ q ∈ z_s2 lv i v, z_ok L q.2 := by
  intro q hq
  rcases z_ins_mem hq with rfl | hq
  · exact hv
  · exact hl q (List.mem_filter.mp hq).1
theorem X.istore (pc' : Nat) (lv' : List (Nat × zV)) {i : Nat} {x : Int} (hi : z_I E j pc = some (.istore i, 2, q, c, ks)) (hc : z_cut ks lv = lv) (hp : pc + 2 = pc') (hl : z_s1 lv i (zi x) = lv') (kk : X E d j pc' lv' st m Q) : X E d j pc lv (zi x :: st) m Q := by
  subst hl
  exact X.loc pc' hi hc hp rfl kk (fun h1 h2 => ⟨z_s1_ok h1 (z_hd h2), z_tl h2, fun k => by
    show k (x_s1 (z_lv E.2.2.2 lv) i (z_v E.2.2.2 (zi x))) _ = _
    rw [z_s1_lv]⟩)
theorem X.istore_n (pc' : Nat) (lv' : List (Nat × zV)) {i : Fin 4} {x : Int} (hi : z_I E j pc = some (.istore_n i, 1, q, c, ks)) (hc : z_cut ks lv = lv) (hp : pc + 1 = pc') (hl : z_s1 lv (i : Nat) (zi x) = lv') (kk : X E d j pc' lv' st m Q) : X E d j pc lv (zi x :: st) m Q := by
  subst hl
  exact X.loc pc' hi hc hp rfl kk (fun h1 h2 => ⟨z_s1_ok h1 (z_hd h2), z_tl h2, fun k => by
    show k (x_s1 (z_lv E.2.2.2 lv) (i : Nat) (z_v E.2.2.2 (zi x))) _ = _
    rw [z_s1_lv]⟩)
theorem X.astore (pc' : Nat) (lv' : List (Nat × zV)) {i g k : Nat} (hi : z_I E j pc = some (.astore i, 2, q, c, ks)) (hc : z_cut ks lv = lv) (hp : pc + 2 = pc') (hl : z_s1 lv i (zr g k) = lv') (kk : X E d j pc' lv' st m Q) : X E d j pc lv (zr g k :: st) m Q := by
  subst hl
  exact X.loc pc' hi hc hp rfl kk (fun h1 h2 => ⟨z_s1_ok h1 (z_hd h2), z_tl h2, fun k2 => by
    show k2 (x_s1 (z_lv E.2.2.2 lv) i (z_v E.2.2.2 (zr g k))) _ = _
    rw [z_s1_lv]⟩)
theorem X.astore_n (pc' : Nat) (lv' : List (Nat × zV)) {i : Fin 4} {g k : Nat} (hi : z_I E j pc = some (.astore_n i, 1, q, c, ks)) (hc : z_cut ks lv = lv) (hp : pc + 1 = pc') (hl : z_s1 lv (i : Nat) (zr g k) = lv') (kk : X E d j pc' lv' st m Q) : X E d j pc lv (zr g k :: st) m Q := by
  subst hl
  exact X.loc pc' hi hc hp rfl kk (fun h1 h2 => ⟨z_s1_ok h1 (z_hd h2), z_tl h2, fun k2 => by
    show k2 (x_s1 (z_lv E.2.2.2 lv) (i : Nat) (z_v E.2.2.2 (zr g k))) _ = _
    rw [z_s1_lv]⟩)
theorem X.lstore (pc' : Nat) (lv' : List (Nat × zV)) {i : Nat} {x : Int} (hi : z_I E j pc = some (.lstore i, 2, q, c, ks)) (hc : z_cut ks lv = lv) (hp : pc + 2 = pc') (hl : z_s2 lv i (zl x) = lv') (kk : X E d j pc' lv' st m Q) : X E d j pc lv (zl x :: st) m Q := by
  subst hl
  exact X.loc pc' hi hc hp rfl kk (fun h1 h2 => ⟨z_s2_ok h1 (z_hd h2), z_tl h2, fun k => by
    show k (x_s2 (z_lv E.2.2.2 lv) i (z_v E.2.2.2 (zl x))) _ = _
    rw [z_s2_lv]⟩)
theorem X.lstore_n (pc' : Nat) (lv' : List (Nat × zV)) {i : Fin 4} {x : Int} (hi : z_I E j pc = some (.lstore_n i, 1, q, c, ks)) (hc : z_cut ks lv = lv) (hp : pc + 1 = pc') (hl : z_s2 lv (i : Nat) (zl x) = lv') (kk : X E d j pc' lv' st m Q) : X E d j pc lv (zl x :: st) m Q := by
  subst hl
  exact X.loc pc' hi hc hp rfl kk (fun h1 h2 => ⟨z_s2_ok h1 (z_hd h2), z_tl h2, fun k => by
    show k (x_s2 (z_lv E.2.2.2 lv) (i : Nat) (z_v E.2.2.2 (zl x))) _ = _
    rw [z_s2_lv]⟩)
theorem X.iinc (pc' : Nat) (lv' : List (Nat × zV)) {i : Nat} {n x : Int} (hi : z_I E j pc = some (.iinc i n, 3, q, c, ks)) (hc : z_cut ks lv = lv) (hp : pc + 3 = pc') (hg : z_get lv i = some (zi x)) (hx : -2147483648 ≤ x + n ∧ x + n ≤ 2147483647) (hl : z_s1 lv i (zi (x + n)) = lv') (kk : X E d j pc' lv' st m Q) : X E d j pc lv st m Q := by
  subst hl
  exact X.loc pc' hi hc hp rfl kk (fun h1 h2 => ⟨z_s1_ok h1 hx, h2, fun k => by
    show x_inc i n 3 _ _ _ = _
    unfold x_inc
    rw [z_get_lv, hg]
    show k (x_s1 _ i (.int (Int32.ofInt x + Int32.ofInt n))) _ = _
    rw [← Int32.ofInt_add]
    show k (x_s1 (z_lv E.2.2.2 lv) i (z_v E.2.2.2 (zi (x + n)))) _ = _
    rw [z_s1_lv]⟩)
-- where to
theorem X.br {ins : Instr} {n : Nat} {st' : List zV} (pc' : Nat) (hi : z_I E j pc = some (ins, n, q, c, ks)) (hc : z_cut ks lv = lv) (h0 : x_kind ins = 2) (kk : X E d j pc' lv st' m Q)
    (hok : (∀ v ∈ st, z_ok E.2.2.2 v) → (∀ v ∈ st', z_ok E.2.2.2 v) ∧ ∀ k : Nat → List Value → Option xR, x_br ins n pc (st.map (z_v E.2.2.2)) k = k pc' (st'.map (z_v E.2.2.2))) : X E d j pc lv st m Q := by
  refine X.go hi hc (fun h1 h2 h3 => ?_) kk
  obtain ⟨g1, g2⟩ := hok h2
  refine ⟨h1, g1, h3, fun call M k => ?_⟩
  unfold x_step
  rw [h0]
  dsimp only
  rw [g2]
  rfl
theorem z_to {ρ : Type} {pc tgt : Nat} {off : Int} (h : (pc : Int) + off = tgt) (k : Nat → Option ρ) : x_to pc off k = k tgt := by
  unfold x_to
  rw [h, if_neg (by omega)]
  rfl
theorem X.goto (tgt : Nat) {off : Int} (hi : z_I E j pc = some (.goto off, 3, q, c, ks)) (hc : z_cut ks lv = lv) (ht : (pc : Int) + off = tgt) (kk : X E d j tgt lv st m Q) : X E d j pc lv st m Q :=
  X.br tgt hi hc rfl kk (fun h => ⟨h, fun k => by
    show x_to pc off (fun t => k t _) = _
    rw [z_to ht]⟩)
theorem X.if0 (tgt pc' : Nat) {b : Jvm.ClassFile.Cond} {off x : Int} {C : Prop} [Decidable C] (hi : z_I E j pc = some (.ifCond b off, 3, q, c, ks)) (hc : z_cut ks lv = lv) (ht : (pc : Int) + off = tgt) (hp : pc + 3 = pc')
    (hC : (-2147483648 ≤ x ∧ x ≤ 2147483647) → ∀ (a1 a2 : Option xR), x_c0 b (Int32.ofInt x) a1 a2 = if C then a1 else a2)
    (k1 : C → X E d j tgt lv st m Q) (k2 : ¬ C → X E d j pc' lv st m Q) : X E d j pc lv (zi x :: st) m Q := by
  intro g1 g2 g3
  have hx := hC (z_hd g2)
  subst hp
  by_cases h : C
  · refine X.br tgt hi hc rfl (k1 h) (fun h9 => ⟨z_tl h9, fun k => ?_⟩) g1 g2 g3
    show x_to pc off (fun t => x_c0 b (Int32.ofInt x) (k t _) (k (pc + 3) _)) = _
    rw [z_to ht, hx, if_pos h]
  · refine X.br (pc + 3) hi hc rfl (k2 h) (fun h9 => ⟨z_tl h9, fun k => ?_⟩) g1 g2 g3
    show x_to pc off (fun t => x_c0 b (Int32.ofInt x) (k t _) (k (pc + 3) _)) = _
    rw [z_to ht, hx, if_neg h]
theorem X.ifeq (tgt pc' : Nat) {off x : Int} (hi : z_I E j pc = some (.ifCond .eq off, 3, q, c, ks)) (hc : z_cut ks lv = lv) (ht : (pc : Int) + off = tgt) (hp : pc + 3 = pc') (k1 : x = 0 → X E d j tgt lv st m Q) (k2 : ¬ x = 0 → X E d j pc' lv st m Q) : X E d j pc lv (zi x :: st) m Q :=
  X.if0 tgt pc' hi hc ht hp (fun hx a1 a2 => by
    show (if Int32.ofInt x = 0 then a1 else a2) = _
    simp only [show (Int32.ofInt x = 0 ↔ x = 0) from z_eq32 hx (y := 0) (by omega)]) k1 k2
theorem X.ifne (tgt pc' : Nat) {off x : Int} (hi : z_I E j pc = some (.ifCond .ne off, 3, q, c, ks)) (hc : z_cut ks lv = lv) (ht : (pc : Int) + off = tgt) (hp : pc + 3 = pc') (k1 : ¬ x = 0 → X E d j tgt lv st m Q) (k2 : x = 0 → X E d j pc' lv st m Q) : X E d j pc lv (zi x :: st) m Q :=
  X.if0 (C := ¬ x = 0) tgt pc' hi hc ht hp (fun hx a1 a2 => by
    show (if Int32.ofInt x = 0 then a2 else a1) = _
    simp only [show (Int32.ofInt x = 0 ↔ x = 0) from z_eq32 hx (y := 0) (by omega)]
    by_cases h : x = 0 <;> simp [h]) k1 (fun h => k2 (Decidable.not_not.mp h))
theorem X.iflt (tgt pc' : Nat) {off x : Int} (hi : z_I E j pc = some (.ifCond .lt off, 3, q, c, ks)) (hc : z_cut ks lv = lv) (ht : (pc : Int) + off = tgt) (hp : pc + 3 = pc') (k1 : x < 0 → X E d j tgt lv st m Q) (k2 : ¬ x < 0 → X E d j pc' lv st m Q) : X E d j pc lv (zi x :: st) m Q :=
  X.if0 tgt pc' hi hc ht hp (fun hx a1 a2 => by
    show (if Int32.ofInt x < 0 then a1 else a2) = _
    simp only [show (Int32.ofInt x < 0 ↔ x < 0) from z_lt32 hx (y := 0) (by omega)]) k1 k2
theorem X.ifge (tgt pc' : Nat) {off x : Int} (hi : z_I E j pc = some (.ifCond .ge off, 3, q, c, ks)) (hc : z_cut ks lv = lv) (ht : (pc : Int) + off = tgt) (hp : pc + 3 = pc') (k1 : 0 ≤ x → X E d j tgt lv st m Q) (k2 : ¬ 0 ≤ x → X E d j pc' lv st m Q) : X E d j pc lv (zi x :: st) m Q :=
  X.if0 tgt pc' hi hc ht hp (fun hx a1 a2 => by
    show (if 0 ≤ Int32.ofInt x then a1 else a2) = _
    simp only [show (0 ≤ Int32.ofInt x ↔ 0 ≤ x) from z_le32 (x := 0) (by omega) hx]) k1 k2
theorem X.ifgt (tgt pc' : Nat) {off x : Int} (hi : z_I E j pc = some (.ifCond .gt off, 3, q, c, ks)) (hc : z_cut ks lv = lv) (ht : (pc : Int) + off = tgt) (hp : pc + 3 = pc') (k1 : 0 < x → X E d j tgt lv st m Q) (k2 : ¬ 0 < x → X E d j pc' lv st m Q) : X E d j pc lv (zi x :: st) m Q :=
  X.if0 tgt pc' hi hc ht hp (fun hx a1 a2 => by
    show (if 0 < Int32.ofInt x then a1 else a2) = _
    simp only [show (0 < Int32.ofInt x ↔ 0 < x) from z_lt32 (x := 0) (by omega) hx]) k1 k2
theorem X.ifle (tgt pc' : Nat) {off x : Int} (hi : z_I E j pc = some (.ifCond .le off, 3, q, c, ks)) (hc : z_cut ks lv = lv) (ht : (pc : Int) + off = tgt) (hp : pc + 3 = pc') (k1 : x ≤ 0 → X E d j tgt lv st m Q) (k2 : ¬ x ≤ 0 → X E d j pc' lv st m Q) : X E d j pc lv (zi x :: st) m Q :=
  X.if0 tgt pc' hi hc ht hp (fun hx a1 a2 => by
    show (if Int32.ofInt x ≤ 0 then a1 else a2) = _
    simp only [show (Int32.ofInt x ≤ 0 ↔ x ≤ 0) from z_le32 hx (y := 0) (by omega)]) k1 k2
theorem X.if2 (tgt pc' : Nat) {b : Jvm.ClassFile.Cond} {off x y : Int} {C : Prop} [Decidable C] (hi : z_I E j pc = some (.if_icmp b off, 3, q, c, ks)) (hc : z_cut ks lv = lv) (ht : (pc : Int) + off = tgt) (hp : pc + 3 = pc')
    (hC : (-2147483648 ≤ x ∧ x ≤ 2147483647) → (-2147483648 ≤ y ∧ y ≤ 2147483647) → ∀ (a1 a2 : Option xR), x_c2 b (Int32.ofInt x) (Int32.ofInt y) a1 a2 = if C then a1 else a2)
    (k1 : C → X E d j tgt lv st m Q) (k2 : ¬ C → X E d j pc' lv st m Q) : X E d j pc lv (zi y :: zi x :: st) m Q := by
  intro g1 g2 g3
  have hx := hC (z_hd (z_tl g2)) (z_hd g2)
  subst hp
  by_cases h : C
  · refine X.br tgt hi hc rfl (k1 h) (fun h9 => ⟨z_tl (z_tl h9), fun k => ?_⟩) g1 g2 g3
    show x_to pc off (fun t => x_c2 b (Int32.ofInt x) (Int32.ofInt y) (k t _) (k (pc + 3) _)) = _
    rw [z_to ht, hx, if_pos h]
  · refine X.br (pc + 3) hi hc rfl (k2 h) (fun h9 => ⟨z_tl (z_tl h9), fun k => ?_⟩) g1 g2 g3
    show x_to pc off (fun t => x_c2 b (Int32.ofInt x) (Int32.ofInt y) (k t _) (k (pc + 3) _)) = _
    rw [z_to ht, hx, if_neg h]
theorem X.icmpeq (tgt pc' : Nat) {off x y : Int} (hi : z_I E j pc = some (.if_icmp .eq off, 3, q, c, ks)) (hc : z_cut ks lv = lv) (ht : (pc : Int) + off = tgt) (hp : pc + 3 = pc') (k1 : x = y → X E d j tgt lv st m Q) (k2 : ¬ x = y → X E d j pc' lv st m Q) : X E d j pc lv (zi y :: zi x :: st) m Q :=
  X.if2 tgt pc' hi hc ht hp (fun hx hy a1 a2 => by
    show (if Int32.ofInt x = Int32.ofInt y then a1 else a2) = _
    simp only [z_eq32 hx hy]) k1 k2
theorem X.icmpne (tgt pc' : Nat) {off x y : Int} (hi : z_I E j pc = some (.if_icmp .ne off, 3, q, c, ks)) (hc : z_cut ks lv = lv) (ht : (pc : Int) + off = tgt) (hp : pc + 3 = pc') (k1 : ¬ x = y → X E d j tgt lv st m Q) (k2 : x = y → X E d j pc' lv st m Q) : X E d j pc lv (zi y :: zi x :: st) m Q :=
  X.if2 (C := ¬ x = y) tgt pc' hi hc ht hp (fun hx hy a1 a2 => by
    show (if Int32.ofInt x = Int32.ofInt y then a2 else a1) = _
    simp only [z_eq32 hx hy]
    by_cases h : x = y <;> simp [h]) k1 (fun h => k2 (Decidable.not_not.mp h))
theorem X.icmplt (tgt pc' : Nat) {off x y : Int} (hi : z_I E j pc = some (.if_icmp .lt off, 3, q, c, ks)) (hc : z_cut ks lv = lv) (ht : (pc : Int) + off = tgt) (hp : pc + 3 = pc') (k1 : x < y → X E d j tgt lv st m Q) (k2 : ¬ x < y → X E d j pc' lv st m Q) : X E d j pc lv (zi y :: zi x :: st) m Q :=
  X.if2 tgt pc' hi hc ht hp (fun hx hy a1 a2 => by
    show (if Int32.ofInt x < Int32.ofInt y then a1 else a2) = _
    simp only [z_lt32 hx hy]) k1 k2
theorem X.icmpge (tgt pc' : Nat) {off x y : Int} (hi : z_I E j pc = some (.if_icmp .ge off, 3, q, c, ks)) (hc : z_cut ks lv = lv) (ht : (pc : Int) + off = tgt) (hp : pc + 3 = pc') (k1 : y ≤ x → X E d j tgt lv st m Q) (k2 : ¬ y ≤ x → X E d j pc' lv st m Q) : X E d j pc lv (zi y :: zi x :: st) m Q :=
  X.if2 tgt pc' hi hc ht hp (fun hx hy a1 a2 => by
    show (if Int32.ofInt y ≤ Int32.ofInt x then a1 else a2) = _
    simp only [z_le32 hy hx]) k1 k2
theorem X.icmpgt (tgt pc' : Nat) {off x y : Int} (hi : z_I E j pc = some (.if_icmp .gt off, 3, q, c, ks)) (hc : z_cut ks lv = lv) (ht : (pc : Int) + off = tgt) (hp : pc + 3 = pc') (k1 : y < x → X E d j tgt lv st m Q) (k2 : ¬ y < x → X E d j pc' lv st m Q) : X E d j pc lv (zi y :: zi x :: st) m Q :=
  X.if2 tgt pc' hi hc ht hp (fun hx hy a1 a2 => by
    show (if Int32.ofInt y < Int32.ofInt x then a1 else a2) = _
    simp only [z_lt32 hy hx]) k1 k2
theorem X.icmple (tgt pc' : Nat) {off x y : Int} (hi : z_I E j pc = some (.if_icmp .le off, 3, q, c, ks)) (hc : z_cut ks lv = lv) (ht : (pc : Int) + off = tgt) (hp : pc + 3 = pc') (k1 : x ≤ y → X E d j tgt lv st m Q) (k2 : ¬ x ≤ y → X E d j pc' lv st m Q) : X E d j pc lv (zi y :: zi x :: st) m Q :=
  X.if2 tgt pc' hi hc ht hp (fun hx hy a1 a2 => by
    show (if Int32.ofInt x ≤ Int32.ofInt y then a1 else a2) = _
    simp only [z_le32 hx hy]) k1 k2
theorem X.tsIn (tgt i : Nat) {dflt lo hi0 off x : Int} {offs : Array Int} {n : Nat} (hi : z_I E j pc = some (.tableswitch dflt lo hi0 offs, n, q, c, ks)) (hc : z_cut ks lv = lv) (hx : x = lo + i ∧ x ≤ hi0) (ho : offs[i]? = some off) (ht : (pc : Int) + off = tgt) (kk : X E d j tgt lv st m Q) : X E d j pc lv (zi x :: st) m Q :=
  X.br tgt hi hc rfl kk (fun h => ⟨z_tl h, fun k => by
    have hx1 : -2147483648 ≤ x ∧ x ≤ 2147483647 := z_hd h
    show x_br (.tableswitch dflt lo hi0 offs) n pc (.int (Int32.ofInt x) :: _) k = _
    simp only [x_br, z_32 hx1]
    rw [if_neg (by omega), show (x - lo).toNat = i by omega, ho]
    dsimp only
    rw [z_to ht]⟩)
theorem X.tsOut (tgt : Nat) {dflt lo hi0 x : Int} {offs : Array Int} {n : Nat} (hi : z_I E j pc = some (.tableswitch dflt lo hi0 offs, n, q, c, ks)) (hc : z_cut ks lv = lv) (hx : x < lo ∨ hi0 < x) (ht : (pc : Int) + dflt = tgt) (kk : X E d j tgt lv st m Q) : X E d j pc lv (zi x :: st) m Q :=
  X.br tgt hi hc rfl kk (fun h => ⟨z_tl h, fun k => by
    have hx1 : -2147483648 ≤ x ∧ x ≤ 2147483647 := z_hd h
    show x_br (.tableswitch dflt lo hi0 offs) n pc (.int (Int32.ofInt x) :: _) k = _
    simp only [x_br, z_32 hx1]
    rw [if_pos hx, z_to ht]⟩)
end
