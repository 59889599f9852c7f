/-! The rows: a step each. -/
section
variable {E : zE} {d j pc : Nat} {lv : List (Nat × zV)} {st : List zV} {m : zM} {Q : Option zV → zM → Prop}
theorem z_unf {scr : xZ} {df : Nat → List Value} {P : Nat → Option xM} {M : xM} {x : xI} {n : Nat} {lv : xL} {st : List Value} {u : List xC} (hM : P j = some M) (hx : M.2.2.2.2 pc = some x) : x_exec scr df P (n + 1) d j pc lv st u = x_step scr df (fun j' As h' => match d with
          | 0 => none
          | d' + 1 => match P j' with
            | some M' => if (As.map fun v => v.category).sum ≤ M'.2.2.1 then x_exec scr df P n d' j' 0 (lv_args 0 As) [] h' else none
            | none => none) d M x pc (x_cut x.2.2.2.2 lv) st u (fun pc lv st u => x_exec scr df P n d j pc lv st u) := by
  rw [x_exec, hM]
  dsimp only
  rw [hx]
  rfl
theorem z_I_inv {x : xI} (h : z_I E j pc = some x) : ∃ M, E.2.2.1 j = some M ∧ M.2.2.2.2 pc = some x := by
  unfold z_I at h
  split at h
  · exact ⟨_, by assumption, h⟩
  · cases h
theorem X.mono {Q' : Option zV → zM → Prop} (h : X E d j pc lv st m Q) (k : ∀ r m', Q r m' → Q' r m') : X E d j pc lv st m Q' := by
  intro h1 h2 h3
  obtain ⟨c, r, m', a1, a2, a3, a4⟩ := h h1 h2 h3
  exact ⟨c, r, m', a1, a2, a3, k r m' a4⟩
/-- a step that goes on in the same frame -/
theorem X.go {x : xI} {pc' : Nat} {lv' : List (Nat × zV)} {st' : List zV} {m' : zM} (hi : z_I E j pc = some x) (hc : z_cut x.2.2.2.2 lv = lv)
    (hok : (∀ q ∈ lv, z_ok E.2.2.2 q.2) → (∀ v ∈ st, z_ok E.2.2.2 v) → z_mok E.2.2.2 m → (∀ q ∈ lv', z_ok E.2.2.2 q.2) ∧ (∀ v ∈ st', z_ok E.2.2.2 v) ∧ z_mok E.2.2.2 m' ∧
      ∀ (call : Nat → List Value → List xC → Option xR) (M : xM) (k : Nat → xL → List Value → List xC → Option xR), x_step E.1 E.2.1 call d M x pc (z_lv E.2.2.2 lv) (st.map (z_v E.2.2.2)) (z_u E.2.2.2 m) k = k pc' (z_lv E.2.2.2 lv') (st'.map (z_v E.2.2.2)) (z_u E.2.2.2 m'))
    (kk : X E d j pc' lv' st' m' Q) : X E d j pc lv st m Q := by
  intro h1 h2 h3
  obtain ⟨g1, g2, g3, g4⟩ := hok h1 h2 h3
  obtain ⟨c, r, m1, a1, a2, a3, a4⟩ := kk g1 g2 g3
  obtain ⟨M, hM, hx⟩ := z_I_inv hi
  refine ⟨c + 1, r, m1, fun n => ?_, a2, a3, a4⟩
  rw [← Nat.add_assoc, z_unf hM hx, z_cut_lv, hc, g4]
  exact a1 n
/-- what the frame keeps here -/
theorem X.cut {x : xI} (lv' : List (Nat × zV)) (hi : z_I E j pc = some x) (hc : z_cut x.2.2.2.2 lv = lv') (kk : X E d j pc lv' st m Q) : X E d j pc lv st m Q := by
  intro h1 h2 h3
  have h1' : ∀ q ∈ lv', z_ok E.2.2.2 q.2 := by
    intro q hq
    rw [← hc] at hq
    unfold z_cut at hq
    split at hq
    · exact h1 q hq
    · exact h1 q (List.mem_filter.mp hq).1
  obtain ⟨c, r, m1, a1, a2, a3, a4⟩ := kk h1' h2 h3
  obtain ⟨M, hM, hx⟩ := z_I_inv hi
  refine ⟨c + 1, r, m1, fun n => ?_, a2, a3, a4⟩
  have e1 := a1 (n + 1)
  rw [show n + 1 + c = (n + c) + 1 by omega, z_unf hM hx, z_cut_lv] at e1
  rw [← Nat.add_assoc, z_unf hM hx, z_cut_lv, hc, ← e1, ← hc]
  congr 2
  unfold z_cut
  split
  · rfl
  · rw [List.filter_filter]; simp
-- numbers
theorem X.num {ins : Instr} {n : Nat} {q : Nat × Nat × Nat × Nat} {c : Value} {ks : Option (List Nat)} {st' : List zV} (pc' : Nat) (hi : z_I E j pc = some (ins, n, q, c, ks)) (hc : z_cut ks lv = lv) (hp : pc + n = pc') (h0 : x_kind ins = 0)
    (kk : X E d j pc' lv st' m Q) (hok : (∀ v ∈ st, z_ok E.2.2.2 v) → (∀ v ∈ st', z_ok E.2.2.2 v) ∧ ∀ k : List Value → Option xR, x_pure ins n (st.map (z_v E.2.2.2)) k = k (st'.map (z_v E.2.2.2))) : X E d j pc lv st m Q := by
  subst hp
  refine X.go hi hc (fun h1 h2 h3 => ?_) kk
  obtain ⟨g1, g2⟩ := hok h2
  refine ⟨h1, g1, h3, fun call M k => ?_⟩
  unfold x_step
  rw [h0]
  dsimp only
  rw [g2]
  rfl
variable {q : Nat × Nat × Nat × Nat} {c : Value} {ks : Option (List Nat)}
theorem z_cons {L : zL} {v : zV} {st : List zV} (h : z_ok L v) (hs : ∀ w ∈ st, z_ok L w) : ∀ w ∈ v :: st, z_ok L w := by
  intro w hw
  rcases List.mem_cons.mp hw with rfl | hw
  · exact h
  · exact hs w hw
theorem z_tl {L : zL} {v : zV} {st : List zV} (hs : ∀ w ∈ v :: st, z_ok L w) : ∀ w ∈ st, z_ok L w := fun w hw => hs w (List.mem_cons_of_mem _ hw)
theorem z_hd {L : zL} {v : zV} {st : List zV} (hs : ∀ w ∈ v :: st, z_ok L w) : z_ok L v := hs v List.mem_cons_self
theorem X.iconst (pc' : Nat) {x : Int} (hi : z_I E j pc = some (.iconst x, 1, q, c, ks)) (hc : z_cut ks lv = lv) (hp : pc + 1 = pc') (hx : -2147483648 ≤ x ∧ x ≤ 2147483647) (kk : X E d j pc' lv (zi x :: st) m Q) : X E d j pc lv st m Q :=
  X.num pc' hi hc hp rfl kk (fun h => ⟨z_cons hx h, fun _ => rfl⟩)
theorem X.bipush (pc' : Nat) {x : Int} (hi : z_I E j pc = some (.bipush x, 2, q, c, ks)) (hc : z_cut ks lv = lv) (hp : pc + 2 = pc') (hx : -128 ≤ x ∧ x ≤ 127) (kk : X E d j pc' lv (zi x :: st) m Q) : X E d j pc lv st m Q :=
  X.num pc' hi hc hp rfl kk (fun h => ⟨z_cons (show -2147483648 ≤ x ∧ x ≤ 2147483647 by omega) h, fun _ => by
    show x_push 2 2 (.int (Int8.ofInt x).toInt32) _ _ = _
    rw [z_bip hx]; rfl⟩)
theorem X.sipush (pc' : Nat) {x : Int} (hi : z_I E j pc = some (.sipush x, 3, q, c, ks)) (hc : z_cut ks lv = lv) (hp : pc + 3 = pc') (hx : -32768 ≤ x ∧ x ≤ 32767) (kk : X E d j pc' lv (zi x :: st) m Q) : X E d j pc lv st m Q :=
  X.num pc' hi hc hp rfl kk (fun h => ⟨z_cons (show -2147483648 ≤ x ∧ x ≤ 2147483647 by omega) h, fun _ => by
    show x_push 3 3 (.int (Int16.ofInt x).toInt32) _ _ = _
    rw [z_sip hx]; rfl⟩)
theorem X.lconst (pc' : Nat) {x : Fin 2} {y : Int} (hi : z_I E j pc = some (.lconst x, 1, q, c, ks)) (hc : z_cut ks lv = lv) (hp : pc + 1 = pc') (hy : ((x : Nat) : Int) = y) (kk : X E d j pc' lv (zl y :: st) m Q) : X E d j pc lv st m Q :=
  X.num pc' hi hc hp rfl kk (fun h => ⟨z_cons (show -9223372036854775808 ≤ y ∧ y ≤ 9223372036854775807 by have := x.isLt; omega) h, fun _ => by
    show x_push 1 1 (.long (Int64.ofNat (x : Nat))) _ _ = _
    rw [← Int64.ofInt_eq_ofNat, hy]; rfl⟩)
theorem X.iadd (pc' : Nat) {x y : Int} (hi : z_I E j pc = some (.iadd, 1, q, c, ks)) (hc : z_cut ks lv = lv) (hp : pc + 1 = pc') (hx : -2147483648 ≤ x + y ∧ x + y ≤ 2147483647) (kk : X E d j pc' lv (zi (x + y) :: st) m Q) : X E d j pc lv (zi y :: zi x :: st) m Q :=
  X.num pc' hi hc hp rfl kk (fun h => ⟨z_cons hx (z_tl (z_tl h)), fun _ => by
    show x_ii (fun x y => x + y) 1 (.int (Int32.ofInt y) :: .int (Int32.ofInt x) :: _) _ = _
    simp only [x_ii, if_true, ← Int32.ofInt_add]; rfl⟩)
theorem X.isub (pc' : Nat) {x y : Int} (hi : z_I E j pc = some (.isub, 1, q, c, ks)) (hc : z_cut ks lv = lv) (hp : pc + 1 = pc') (hx : -2147483648 ≤ x - y ∧ x - y ≤ 2147483647) (kk : X E d j pc' lv (zi (x - y) :: st) m Q) : X E d j pc lv (zi y :: zi x :: st) m Q :=
  X.num pc' hi hc hp rfl kk (fun h => ⟨z_cons hx (z_tl (z_tl h)), fun _ => by
    show x_ii (fun x y => x - y) 1 (.int (Int32.ofInt y) :: .int (Int32.ofInt x) :: _) _ = _
    simp only [x_ii, if_true, ← Int32.ofInt_sub]; rfl⟩)
theorem X.imul (pc' : Nat) {x y : Int} (hi : z_I E j pc = some (.imul, 1, q, c, ks)) (hc : z_cut ks lv = lv) (hp : pc + 1 = pc') (hx : -2147483648 ≤ x * y ∧ x * y ≤ 2147483647) (kk : X E d j pc' lv (zi (x * y) :: st) m Q) : X E d j pc lv (zi y :: zi x :: st) m Q :=
  X.num pc' hi hc hp rfl kk (fun h => ⟨z_cons hx (z_tl (z_tl h)), fun _ => by
    show x_ii (fun x y => x * y) 1 (.int (Int32.ofInt y) :: .int (Int32.ofInt x) :: _) _ = _
    simp only [x_ii, if_true, ← Int32.ofInt_mul]; rfl⟩)
theorem X.ladd (pc' : Nat) {x y : Int} (hi : z_I E j pc = some (.ladd, 1, q, c, ks)) (hc : z_cut ks lv = lv) (hp : pc + 1 = pc') (hx : -9223372036854775808 ≤ x + y ∧ x + y ≤ 9223372036854775807) (kk : X E d j pc' lv (zl (x + y) :: st) m Q) : X E d j pc lv (zl y :: zl x :: st) m Q :=
  X.num pc' hi hc hp rfl kk (fun h => ⟨z_cons hx (z_tl (z_tl h)), fun _ => by
    show x_ll (fun x y => x + y) 1 (.long (Int64.ofInt y) :: .long (Int64.ofInt x) :: _) _ = _
    simp only [x_ll, if_true, ← Int64.ofInt_add]; rfl⟩)
theorem X.lsub (pc' : Nat) {x y : Int} (hi : z_I E j pc = some (.lsub, 1, q, c, ks)) (hc : z_cut ks lv = lv) (hp : pc + 1 = pc') (hx : -9223372036854775808 ≤ x - y ∧ x - y ≤ 9223372036854775807) (kk : X E d j pc' lv (zl (x - y) :: st) m Q) : X E d j pc lv (zl y :: zl x :: st) m Q :=
  X.num pc' hi hc hp rfl kk (fun h => ⟨z_cons hx (z_tl (z_tl h)), fun _ => by
    show x_ll (fun x y => x - y) 1 (.long (Int64.ofInt y) :: .long (Int64.ofInt x) :: _) _ = _
    simp only [x_ll, if_true, ← Int64.ofInt_sub]; rfl⟩)
theorem X.lmul (pc' : Nat) {x y : Int} (hi : z_I E j pc = some (.lmul, 1, q, c, ks)) (hc : z_cut ks lv = lv) (hp : pc + 1 = pc') (hx : -9223372036854775808 ≤ x * y ∧ x * y ≤ 9223372036854775807) (kk : X E d j pc' lv (zl (x * y) :: st) m Q) : X E d j pc lv (zl y :: zl x :: st) m Q :=
  X.num pc' hi hc hp rfl kk (fun h => ⟨z_cons hx (z_tl (z_tl h)), fun _ => by
    show x_ll (fun x y => x * y) 1 (.long (Int64.ofInt y) :: .long (Int64.ofInt x) :: _) _ = _
    simp only [x_ll, if_true, ← Int64.ofInt_mul]; rfl⟩)
theorem X.ineg (pc' : Nat) {x : Int} (hi : z_I E j pc = some (.ineg, 1, q, c, ks)) (hc : z_cut ks lv = lv) (hp : pc + 1 = pc') (hx : -2147483648 ≤ -x ∧ -x ≤ 2147483647) (kk : X E d j pc' lv (zi (-x) :: st) m Q) : X E d j pc lv (zi x :: st) m Q :=
  X.num pc' hi hc hp rfl kk (fun h => ⟨z_cons hx (z_tl h), fun _ => by
    show x_i1 (fun x => -x) 1 (.int (Int32.ofInt x) :: _) _ = _
    simp only [x_i1, if_true, ← Int32.ofInt_neg]; rfl⟩)
theorem X.lneg (pc' : Nat) {x : Int} (hi : z_I E j pc = some (.lneg, 1, q, c, ks)) (hc : z_cut ks lv = lv) (hp : pc + 1 = pc') (hx : -9223372036854775808 ≤ -x ∧ -x ≤ 9223372036854775807) (kk : X E d j pc' lv (zl (-x) :: st) m Q) : X E d j pc lv (zl x :: st) m Q :=
  X.num pc' hi hc hp rfl kk (fun h => ⟨z_cons hx (z_tl h), fun _ => by
    show x_l1 (fun x => -x) 1 (.long (Int64.ofInt x) :: _) _ = _
    simp only [x_l1, if_true, ← Int64.ofInt_neg]; rfl⟩)
theorem z_ne32 {y : Int} (h : -2147483648 ≤ y ∧ y ≤ 2147483647) (hy : y ≠ 0) : ¬ Int32.ofInt y = 0 := fun e => hy ((z_eq32 h (y := 0) (by omega)).mp e)
theorem z_ne64 {y : Int} (h : -9223372036854775808 ≤ y ∧ y ≤ 9223372036854775807) (hy : y ≠ 0) : ¬ Int64.ofInt y = 0 := fun e => hy ((z_eq64 h (y := 0) (by omega)).mp e)
theorem X.idiv (pc' : Nat) {x y : Int} (hi : z_I E j pc = some (.idiv, 1, q, c, ks)) (hc : z_cut ks lv = lv) (hp : pc + 1 = pc') (hy : 0 ≤ x ∧ 0 < y) (kk : X E d j pc' lv (zi (x / y) :: st) m Q) : X E d j pc lv (zi y :: zi x :: st) m Q :=
  X.num pc' hi hc hp rfl kk (fun h => by
    have hx1 : -2147483648 ≤ x ∧ x ≤ 2147483647 := z_hd (z_tl h)
    have hy1 : -2147483648 ≤ y ∧ y ≤ 2147483647 := z_hd h
    have h1 := (z_tdiv_le (x := x) hy.2).1 hy.1
    rw [Int.tdiv_eq_ediv_of_nonneg hy.1] at h1
    refine ⟨z_cons (show -2147483648 ≤ x / y ∧ x / y ≤ 2147483647 by omega) (z_tl (z_tl h)), fun _ => ?_⟩
    show x_id (fun x y => x / y) 1 (.int (Int32.ofInt y) :: .int (Int32.ofInt x) :: _) _ = _
    simp only [x_id, if_true, if_neg (z_ne32 hy1 (by omega)), z_div32 hx1 hy1, Int.tdiv_eq_ediv_of_nonneg hy.1]; rfl)
theorem X.irem (pc' : Nat) {x y : Int} (hi : z_I E j pc = some (.irem, 1, q, c, ks)) (hc : z_cut ks lv = lv) (hp : pc + 1 = pc') (hy : 0 ≤ x ∧ 0 < y) (kk : X E d j pc' lv (zi (x % y) :: st) m Q) : X E d j pc lv (zi y :: zi x :: st) m Q :=
  X.num pc' hi hc hp rfl kk (fun h => by
    have hx1 : -2147483648 ≤ x ∧ x ≤ 2147483647 := z_hd (z_tl h)
    have hy1 : -2147483648 ≤ y ∧ y ≤ 2147483647 := z_hd h
    have h1 := (z_tmod_le (x := x) hy.2).1 hy.1
    rw [Int.tmod_eq_emod_of_nonneg hy.1] at h1
    refine ⟨z_cons (show -2147483648 ≤ x % y ∧ x % y ≤ 2147483647 by omega) (z_tl (z_tl h)), fun _ => ?_⟩
    show x_id (fun x y => x - x / y * y) 1 (.int (Int32.ofInt y) :: .int (Int32.ofInt x) :: _) _ = _
    simp only [x_id, if_true, if_neg (z_ne32 hy1 (by omega)), z_rem32 hx1 hy1, Int.tmod_eq_emod_of_nonneg hy.1]; rfl)
theorem X.ldiv (pc' : Nat) {x y : Int} (hi : z_I E j pc = some (.ldiv, 1, q, c, ks)) (hc : z_cut ks lv = lv) (hp : pc + 1 = pc') (hy : 0 < y) (kk : X E d j pc' lv (zl (x.tdiv y) :: st) m Q) : X E d j pc lv (zl y :: zl x :: st) m Q :=
  X.num pc' hi hc hp rfl kk (fun h => by
    have hx1 : -9223372036854775808 ≤ x ∧ x ≤ 9223372036854775807 := z_hd (z_tl h)
    have hy1 : -9223372036854775808 ≤ y ∧ y ≤ 9223372036854775807 := z_hd h
    have h1 := z_tdiv_le (x := x) hy
    refine ⟨z_cons (show -9223372036854775808 ≤ x.tdiv y ∧ x.tdiv y ≤ 9223372036854775807 by rcases Int.le_total 0 x with h2 | h2 <;> omega) (z_tl (z_tl h)), fun _ => ?_⟩
    show x_ld (fun x y => x / y) 1 (.long (Int64.ofInt y) :: .long (Int64.ofInt x) :: _) _ = _
    simp only [x_ld, if_true, if_neg (z_ne64 hy1 (by omega)), z_div64 hx1 hy1]; rfl)
theorem X.ldivp (pc' : Nat) {x y : Int} (hi : z_I E j pc = some (.ldiv, 1, q, c, ks)) (hc : z_cut ks lv = lv) (hp : pc + 1 = pc') (hy : 0 ≤ x ∧ 0 < y) (kk : X E d j pc' lv (zl (x / y) :: st) m Q) : X E d j pc lv (zl y :: zl x :: st) m Q :=
  X.ldiv pc' hi hc hp hy.2 (by rw [Int.tdiv_eq_ediv_of_nonneg hy.1]; exact kk)
theorem X.lrem (pc' : Nat) {x y : Int} (hi : z_I E j pc = some (.lrem, 1, q, c, ks)) (hc : z_cut ks lv = lv) (hp : pc + 1 = pc') (hy : 0 < y) (kk : X E d j pc' lv (zl (x.tmod y) :: st) m Q) : X E d j pc lv (zl y :: zl x :: st) m Q :=
  X.num pc' hi hc hp rfl kk (fun h => by
    have hx1 : -9223372036854775808 ≤ x ∧ x ≤ 9223372036854775807 := z_hd (z_tl h)
    have hy1 : -9223372036854775808 ≤ y ∧ y ≤ 9223372036854775807 := z_hd h
    have h1 := z_tmod_le (x := x) hy
    refine ⟨z_cons (show -9223372036854775808 ≤ x.tmod y ∧ x.tmod y ≤ 9223372036854775807 by rcases Int.le_total 0 x with h2 | h2 <;> omega) (z_tl (z_tl h)), fun _ => ?_⟩
    show x_ld (fun x y => x - x / y * y) 1 (.long (Int64.ofInt y) :: .long (Int64.ofInt x) :: _) _ = _
    simp only [x_ld, if_true, if_neg (z_ne64 hy1 (by omega)), z_rem64 hx1 hy1]; rfl)
theorem X.lremp (pc' : Nat) {x y : Int} (hi : z_I E j pc = some (.lrem, 1, q, c, ks)) (hc : z_cut ks lv = lv) (hp : pc + 1 = pc') (hy : 0 ≤ x ∧ 0 < y) (kk : X E d j pc' lv (zl (x % y) :: st) m Q) : X E d j pc lv (zl y :: zl x :: st) m Q :=
  X.lrem pc' hi hc hp hy.2 (by rw [Int.tmod_eq_emod_of_nonneg hy.1]; exact kk)
theorem X.i2l (pc' : Nat) {x : Int} (hi : z_I E j pc = some (.i2l, 1, q, c, ks)) (hc : z_cut ks lv = lv) (hp : pc + 1 = pc') (kk : X E d j pc' lv (zl x :: st) m Q) : X E d j pc lv (zi x :: st) m Q :=
  X.num pc' hi hc hp rfl kk (fun h => by
    have hx1 : -2147483648 ≤ x ∧ x ≤ 2147483647 := z_hd h
    refine ⟨z_cons (show -9223372036854775808 ≤ x ∧ x ≤ 9223372036854775807 by omega) (z_tl h), fun _ => ?_⟩
    show x_i2 (fun x => x.toInt64) 1 (.int (Int32.ofInt x) :: _) _ = _
    simp only [x_i2, if_true, z_i2l hx1]; rfl)
theorem X.l2i (pc' : Nat) {x : Int} (hi : z_I E j pc = some (.l2i, 1, q, c, ks)) (hc : z_cut ks lv = lv) (hp : pc + 1 = pc') (hx : -2147483648 ≤ x ∧ x ≤ 2147483647) (kk : X E d j pc' lv (zi x :: st) m Q) : X E d j pc lv (zl x :: st) m Q :=
  X.num pc' hi hc hp rfl kk (fun h => by
    refine ⟨z_cons hx (z_tl h), fun _ => ?_⟩
    show x_l2 (fun x => x.toInt32) 1 (.long (Int64.ofInt x) :: _) _ = _
    simp only [x_l2, if_true, Int64.toInt32_ofInt]; rfl)
theorem z_vi_toInt (L : zL) (a : Int32) : z_v L (zi a.toInt) = .int a := by show Value.int (Int32.ofInt a.toInt) = _; rw [Int32.ofInt_toInt]
theorem z_vl_toInt (L : zL) (a : Int64) : z_v L (zl a.toInt) = .long a := by show Value.long (Int64.ofInt a.toInt) = _; rw [Int64.ofInt_toInt]
/-- any other number out of two, by its own name -/
theorem X.ii (pc' : Nat) (ins : Instr) (f : Int32 → Int32 → Int32) {x y : Int} (hi : z_I E j pc = some (ins, 1, q, c, ks)) (hc : z_cut ks lv = lv) (hp : pc + 1 = pc') (hk : x_kind ins = 0) (hf : ∀ (st : List Value) (k : List Value → Option xR), x_pure ins 1 st k = x_ii f 1 st k) (kk : X E d j pc' lv (zi (f (Int32.ofInt x) (Int32.ofInt y)).toInt :: st) m Q) : X E d j pc lv (zi y :: zi x :: st) m Q :=
  X.num pc' hi hc hp hk kk (fun h => by
    refine ⟨z_cons (z_r32 _) (z_tl (z_tl h)), fun _ => ?_⟩
    rw [hf]
    show x_ii f 1 (.int (Int32.ofInt y) :: .int (Int32.ofInt x) :: _) _ = _
    simp only [x_ii, if_true]
    rw [List.map_cons, z_vi_toInt])
theorem X.ll (pc' : Nat) (ins : Instr) (f : Int64 → Int64 → Int64) {x y : Int} (hi : z_I E j pc = some (ins, 1, q, c, ks)) (hc : z_cut ks lv = lv) (hp : pc + 1 = pc') (hk : x_kind ins = 0) (hf : ∀ (st : List Value) (k : List Value → Option xR), x_pure ins 1 st k = x_ll f 1 st k) (kk : X E d j pc' lv (zl (f (Int64.ofInt x) (Int64.ofInt y)).toInt :: st) m Q) : X E d j pc lv (zl y :: zl x :: st) m Q :=
  X.num pc' hi hc hp hk kk (fun h => by
    refine ⟨z_cons (z_r64 _) (z_tl (z_tl h)), fun _ => ?_⟩
    rw [hf]
    show x_ll f 1 (.long (Int64.ofInt y) :: .long (Int64.ofInt x) :: _) _ = _
    simp only [x_ll, if_true]
    rw [List.map_cons, z_vl_toInt])
theorem X.lshl (pc' : Nat) {x y : Int} (hi : z_I E j pc = some (.lshl, 1, q, c, ks)) (hc : z_cut ks lv = lv) (hp : pc + 1 = pc') (kk : X E d j pc' lv (zl (Int64.ofInt x <<< ((Int32.ofInt y).toInt64 &&& 63)).toInt :: st) m Q) : X E d j pc lv (zi y :: zl x :: st) m Q :=
  X.num pc' hi hc hp rfl kk (fun h => by
    refine ⟨z_cons (z_r64 _) (z_tl (z_tl h)), fun _ => ?_⟩
    show x_li (fun x y => x <<< (y.toInt64 &&& 63)) 1 (.int (Int32.ofInt y) :: .long (Int64.ofInt x) :: _) _ = _
    simp only [x_li, if_true]
    rw [List.map_cons, z_vl_toInt])
theorem X.i2b (pc' : Nat) {x : Int} (hi : z_I E j pc = some (.i2b, 1, q, c, ks)) (hc : z_cut ks lv = lv) (hp : pc + 1 = pc') (kk : X E d j pc' lv (zi (Int32.ofInt x).toInt8.toInt :: st) m Q) : X E d j pc lv (zi x :: st) m Q :=
  X.num pc' hi hc hp rfl kk (fun h => by
    have h8 : -2147483648 ≤ (Int32.ofInt x).toInt8.toInt ∧ (Int32.ofInt x).toInt8.toInt ≤ 2147483647 := by
      have h1 := (Int32.ofInt x).toInt8.toInt_lt
      have h2 := (Int32.ofInt x).toInt8.le_toInt
      omega
    refine ⟨z_cons h8 (z_tl h), fun _ => ?_⟩
    show x_i1 (fun x => x.toInt8.toInt32) 1 (.int (Int32.ofInt x) :: _) _ = _
    simp only [x_i1, if_true]
    rfl)
theorem X.lcmp (pc' : Nat) {x y : Int} (hi : z_I E j pc = some (.lcmp, 1, q, c, ks)) (hc : z_cut ks lv = lv) (hp : pc + 1 = pc') (kk : ∀ z : Int, (x < y ∧ z = -1) ∨ (x = y ∧ z = 0) ∨ (y < x ∧ z = 1) → X E d j pc' lv (zi z :: st) m Q) : X E d j pc lv (zl y :: zl x :: st) m Q := by
  intro g1 g2 g3
  have hx1 : -9223372036854775808 ≤ x ∧ x ≤ 9223372036854775807 := z_hd (z_tl g2)
  have hy1 : -9223372036854775808 ≤ y ∧ y ≤ 9223372036854775807 := z_hd g2
  have hz : ∃ z : Int, ((x < y ∧ z = -1) ∨ (x = y ∧ z = 0) ∨ (y < x ∧ z = 1)) ∧ lg_cmp (Int64.ofInt x) (Int64.ofInt y) = Int32.ofInt z := by
    have e1 : (Int64.ofInt x > Int64.ofInt y) ↔ y < x := z_lt64 hy1 hx1
    have e2 := z_eq64 hx1 hy1
    unfold lg_cmp
    rcases Int.lt_trichotomy x y with h | h | h
    · exact ⟨-1, .inl ⟨h, rfl⟩, by rw [if_neg (fun e => by have := e1.mp e; omega), if_neg (fun e => by have := e2.mp e; omega)]; rfl⟩
    · exact ⟨0, .inr (.inl ⟨h, rfl⟩), by rw [if_neg (fun e => by have := e1.mp e; omega), if_pos (e2.mpr h)]; rfl⟩
    · exact ⟨1, .inr (.inr ⟨h, rfl⟩), by rw [if_pos (e1.mpr h)]; rfl⟩
  obtain ⟨z, hz1, hz2⟩ := hz
  refine X.num pc' hi hc hp rfl (kk z hz1) (fun h => ⟨z_cons (show -2147483648 ≤ z ∧ z ≤ 2147483647 by omega) (z_tl (z_tl h)), fun _ => ?_⟩) g1 g2 g3
  show x_lli lg_cmp 1 (.long (Int64.ofInt y) :: .long (Int64.ofInt x) :: _) _ = _
  simp only [x_lli, if_true, hz2]; rfl
theorem X.dup (pc' : Nat) {v : zV} (hi : z_I E j pc = some (.dup, 1, q, c, ks)) (hc : z_cut ks lv = lv) (hp : pc + 1 = pc') (hv : z_is2 v = false) (kk : X E d j pc' lv (v :: v :: st) m Q) : X E d j pc lv (v :: st) m Q :=
  X.num pc' hi hc hp rfl kk (fun h => ⟨z_cons (z_hd h) h, fun _ => by
    show x_s1' 1 1 _ (z_v _ v :: _) _ = _
    simp only [x_s1', z_v_cat, hv]
    simp
    try rfl⟩)
theorem X.pop (pc' : Nat) {v : zV} (hi : z_I E j pc = some (.pop, 1, q, c, ks)) (hc : z_cut ks lv = lv) (hp : pc + 1 = pc') (hv : z_is2 v = false) (kk : X E d j pc' lv st m Q) : X E d j pc lv (v :: st) m Q :=
  X.num pc' hi hc hp rfl kk (fun h => ⟨z_tl h, fun _ => by
    show x_s1' 1 1 (fun _ r => r) (z_v _ v :: _) _ = _
    simp only [x_s1', z_v_cat, hv]
    simp
    try rfl⟩)
/-- of a place in a row: the row, the index -/
theorem X.dup2 (pc' : Nat) {x : Int} {g k : Nat} (hi : z_I E j pc = some (.dup2, 1, q, c, ks)) (hc : z_cut ks lv = lv) (hp : pc + 1 = pc') (kk : X E d j pc' lv (zi x :: zr g k :: zi x :: zr g k :: st) m Q) : X E d j pc lv (zi x :: zr g k :: st) m Q :=
  X.num pc' hi hc hp rfl kk (fun h => ⟨z_cons (z_hd h) (z_cons (z_hd (z_tl h)) h), fun _ => rfl⟩)
end
