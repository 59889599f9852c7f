section
variable {E : zE} {d j pc : Nat} {lv : List (Nat × zV)} {st : List zV} {m : zM} {Q : Option zV → zM → Prop} {q : Nat × Nat × Nat × Nat} {c : Value} {ks : Option (List Nat)}
-- calls of what is no method of ours
theorem X.bi {ins : Instr} {st' : List zV} {m' : zM} (pc' : Nat) (hi : z_I E j pc = some (ins, 3, q, c, ks)) (hc : z_cut ks lv = lv) (hp : pc + 3 = pc') (h0 : x_kind ins = 4) (kk : X E d j pc' lv st' m' Q)
    (hok : (∀ v ∈ st, z_ok E.2.2.2 v) → z_mok E.2.2.2 m → (∀ v ∈ st', z_ok E.2.2.2 v) ∧ z_mok E.2.2.2 m' ∧ ∀ (call : Nat → List Value → List xC → Option xR) (k : Nat → List Value → List xC → Option xR), x_inv E.1 call d q 3 pc (st.map (z_v E.2.2.2)) (z_u E.2.2.2 m) k = k pc' (st'.map (z_v E.2.2.2)) (z_u E.2.2.2 m')) : X E d j pc lv st m Q := by
  refine X.go hi hc (fun h1 h2 h3 => ?_) kk
  obtain ⟨g1, g3, g2⟩ := hok h2 h3
  refine ⟨h1, g1, g3, fun call M k => ?_⟩
  unfold x_step
  rw [h0]
  dsimp only
  rw [g2]
  rfl
theorem z_low {ρ : Type} {L : zL} {r : List zV} (h : z_wd r ≤ 8) (a : Option ρ) : x_low (r.map (z_v L)) a = a := by
  unfold x_low
  rw [if_pos]
  rw [show ((r.map (z_v L)).map fun v => v.category).sum = z_wd r from z_cats L r]
  exact h
theorem z_biq {call : Nat → List Value → List xC → Option xR} {scr : xZ} {k : Nat → List Value → List xC → Option xR} {j' na kd ci : Nat} {s : List Value} {u : List xC} (hd : 12 ≤ d) (h7 : 10 ≤ kd) : x_inv scr call d (j', na, kd, ci) 3 pc s u k = x_ma kd s fun s => x_low (s.drop 1) (k (pc + 3) s u) := by
  unfold x_inv
  rw [if_pos rfl, if_pos (show 7 ≤ kd by omega), if_neg (show ¬ d < 12 by omega), if_neg (show ¬ kd = 7 by omega), if_neg (show ¬ kd ≤ 9 by omega)]
theorem X.maxI (pc' : Nat) {idx j' na ci : Nat} {x y : Int} (hi : z_I E j pc = some (.invokestatic idx, 3, (j', na, 10, ci), c, ks)) (hc : z_cut ks lv = lv) (hp : pc + 3 = pc') (hd : 12 ≤ d) (hw : z_wd st ≤ 8) (kk : X E d j pc' lv (zi (max x y) :: st) m Q) : X E d j pc lv (zi y :: zi x :: st) m Q := by
  subst hp
  refine X.bi (pc + 3) hi hc rfl rfl kk (fun h1 h2 => ?_)
  have hx : -2147483648 ≤ x ∧ x ≤ 2147483647 := z_hd (z_tl h1)
  have hy : -2147483648 ≤ y ∧ y ≤ 2147483647 := z_hd h1
  refine ⟨z_cons (show -2147483648 ≤ max x y ∧ max x y ≤ 2147483647 by omega) (z_tl (z_tl h1)), h2, fun call k => ?_⟩
  rw [z_biq hd (by decide)]
  show x_low (st.map (z_v E.2.2.2)) (k (pc + 3) (.int (if Int32.ofInt x < Int32.ofInt y then Int32.ofInt y else Int32.ofInt x) :: _) _) = _
  rw [z_low hw]
  simp only [z_lt32 hx hy]
  rw [show (if x < y then Int32.ofInt y else Int32.ofInt x) = Int32.ofInt (max x y) by by_cases h : x < y <;> simp only [h, if_true, if_false] <;> congr 1 <;> omega]
  rfl
theorem X.minI (pc' : Nat) {idx j' na ci : Nat} {x y : Int} (hi : z_I E j pc = some (.invokestatic idx, 3, (j', na, 11, ci), c, ks)) (hc : z_cut ks lv = lv) (hp : pc + 3 = pc') (hd : 12 ≤ d) (hw : z_wd st ≤ 8) (kk : X E d j pc' lv (zi (min x y) :: st) m Q) : X E d j pc lv (zi y :: zi x :: st) m Q := by
  subst hp
  refine X.bi (pc + 3) hi hc rfl rfl kk (fun h1 h2 => ?_)
  have hx : -2147483648 ≤ x ∧ x ≤ 2147483647 := z_hd (z_tl h1)
  have hy : -2147483648 ≤ y ∧ y ≤ 2147483647 := z_hd h1
  refine ⟨z_cons (show -2147483648 ≤ min x y ∧ min x y ≤ 2147483647 by omega) (z_tl (z_tl h1)), h2, fun call k => ?_⟩
  rw [z_biq hd (by decide)]
  show x_low (st.map (z_v E.2.2.2)) (k (pc + 3) (.int (if Int32.ofInt y < Int32.ofInt x then Int32.ofInt y else Int32.ofInt x) :: _) _) = _
  rw [z_low hw]
  simp only [z_lt32 hy hx]
  rw [show (if y < x then Int32.ofInt y else Int32.ofInt x) = Int32.ofInt (min x y) by by_cases h : y < x <;> simp only [h, if_true, if_false] <;> congr 1 <;> omega]
  rfl
theorem X.maxL (pc' : Nat) {idx j' na ci : Nat} {x y : Int} (hi : z_I E j pc = some (.invokestatic idx, 3, (j', na, 12, ci), c, ks)) (hc : z_cut ks lv = lv) (hp : pc + 3 = pc') (hd : 12 ≤ d) (hw : z_wd st ≤ 8) (kk : X E d j pc' lv (zl (max x y) :: st) m Q) : X E d j pc lv (zl y :: zl x :: st) m Q := by
  subst hp
  refine X.bi (pc + 3) hi hc rfl rfl kk (fun h1 h2 => ?_)
  have hx : -9223372036854775808 ≤ x ∧ x ≤ 9223372036854775807 := z_hd (z_tl h1)
  have hy : -9223372036854775808 ≤ y ∧ y ≤ 9223372036854775807 := z_hd h1
  refine ⟨z_cons (show -9223372036854775808 ≤ max x y ∧ max x y ≤ 9223372036854775807 by omega) (z_tl (z_tl h1)), h2, fun call k => ?_⟩
  rw [z_biq hd (by decide)]
  show x_low (st.map (z_v E.2.2.2)) (k (pc + 3) (.long (if Int64.ofInt y < Int64.ofInt x then Int64.ofInt x else Int64.ofInt y) :: _) _) = _
  rw [z_low hw]
  simp only [z_lt64 hy hx]
  rw [show (if y < x then Int64.ofInt x else Int64.ofInt y) = Int64.ofInt (max x y) by by_cases h : y < x <;> simp only [h, if_true, if_false] <;> congr 1 <;> omega]
  rfl
theorem X.minL (pc' : Nat) {idx j' na ci : Nat} {x y : Int} (hi : z_I E j pc = some (.invokestatic idx, 3, (j', na, 13, ci), c, ks)) (hc : z_cut ks lv = lv) (hp : pc + 3 = pc') (hd : 12 ≤ d) (hw : z_wd st ≤ 8) (kk : X E d j pc' lv (zl (min x y) :: st) m Q) : X E d j pc lv (zl y :: zl x :: st) m Q := by
  subst hp
  refine X.bi (pc + 3) hi hc rfl rfl kk (fun h1 h2 => ?_)
  have hx : -9223372036854775808 ≤ x ∧ x ≤ 9223372036854775807 := z_hd (z_tl h1)
  have hy : -9223372036854775808 ≤ y ∧ y ≤ 9223372036854775807 := z_hd h1
  refine ⟨z_cons (show -9223372036854775808 ≤ min x y ∧ min x y ≤ 9223372036854775807 by omega) (z_tl (z_tl h1)), h2, fun call k => ?_⟩
  rw [z_biq hd (by decide)]
  show x_low (st.map (z_v E.2.2.2)) (k (pc + 3) (.long (if Int64.ofInt y < Int64.ofInt x then Int64.ofInt y else Int64.ofInt x) :: _) _) = _
  rw [z_low hw]
  simp only [z_lt64 hy hx]
  rw [show (if y < x then Int64.ofInt y else Int64.ofInt x) = Int64.ofInt (min x y) by by_cases h : y < x <;> simp only [h, if_true, if_false] <;> congr 1 <;> omega]
  rfl
theorem X.absL (pc' : Nat) {idx j' na ci : Nat} {x : Int} (hi : z_I E j pc = some (.invokestatic idx, 3, (j', na, 14, ci), c, ks)) (hc : z_cut ks lv = lv) (hp : pc + 3 = pc') (hd : 12 ≤ d) (hw : z_wd st ≤ 8) (hr : -9223372036854775807 ≤ x) (kk : X E d j pc' lv (zl (max x (-x)) :: st) m Q) : X E d j pc lv (zl x :: st) m Q := by
  subst hp
  refine X.bi (pc + 3) hi hc rfl rfl kk (fun h1 h2 => ?_)
  have hx : -9223372036854775808 ≤ x ∧ x ≤ 9223372036854775807 := z_hd h1
  refine ⟨z_cons (show -9223372036854775808 ≤ max x (-x) ∧ max x (-x) ≤ 9223372036854775807 by omega) (z_tl h1), h2, fun call k => ?_⟩
  rw [z_biq hd (by decide)]
  show x_low (st.map (z_v E.2.2.2)) (k (pc + 3) (.long (if 0 < Int64.ofInt x then Int64.ofInt x else -Int64.ofInt x) :: _) _) = _
  rw [z_low hw]
  simp only [show (0 < Int64.ofInt x ↔ 0 < x) from z_lt64 (x := 0) (by omega) hx, ← Int64.ofInt_neg]
  rw [show (if 0 < x then Int64.ofInt x else Int64.ofInt (-x)) = Int64.ofInt (max x (-x)) by by_cases h : 0 < x <;> simp only [h, if_true, if_false] <;> congr 1 <;> omega]
  rfl
theorem X.slen (pc' : Nat) {idx j' na ci p : Nat} (hi : z_I E j pc = some (.invokevirtual idx, 3, (j', na, 8, ci), c, ks)) (hc : z_cut ks lv = lv) (hp : pc + 3 = pc') (hd : 12 ≤ d) (hw : z_wd st ≤ 8) (hl : 4 ≤ p ∧ p < 8) (hN : (E.1.2 p).length < 2147483648) (kk : X E d j pc' lv (zi (E.1.2 p).length :: st) m Q) : X E d j pc lv (zr 99 p :: st) m Q := by
  subst hp
  refine X.bi (pc + 3) hi hc rfl rfl kk (fun h1 h2 => ?_)
  refine ⟨z_cons (show -2147483648 ≤ ((E.1.2 p).length : Int) ∧ ((E.1.2 p).length : Int) ≤ 2147483647 by omega) (z_tl h1), h2, fun call k => ?_⟩
  unfold x_inv
  dsimp only
  rw [if_pos rfl, if_pos (by decide), if_neg (show ¬ d < 12 by omega), if_neg (by decide), if_pos (by decide)]
  unfold x_tx
  rw [if_pos rfl]
  show (if 4 ≤ p ∧ p < 8 then _ else none) = _
  rw [if_pos hl]
  show x_low (st.map (z_v E.2.2.2)) _ = _
  rw [z_low hw, List.map_cons, show z_v E.2.2.2 (zi ((E.1.2 p).length : Int)) = .int (Int32.ofNat (E.1.2 p).length) from congrArg Value.int Int32.ofInt_eq_ofNat]
  rfl
theorem X.schar (pc' : Nat) {idx j' na ci p : Nat} {i : Int} (hi : z_I E j pc = some (.invokevirtual idx, 3, (j', na, 9, ci), c, ks)) (hc : z_cut ks lv = lv) (hp : pc + 3 = pc') (hd : 12 ≤ d) (hw : z_wd st ≤ 8) (hl : 4 ≤ p ∧ p < 8) (hx : 0 ≤ i ∧ i < (E.1.2 p).length) (kk : X E d j pc' lv (zi ((E.1.2 p).getD i.toNat 0).toInt :: st) m Q) : X E d j pc lv (zi i :: zr 99 p :: st) m Q := by
  subst hp
  refine X.bi (pc + 3) hi hc rfl rfl kk (fun h1 h2 => ?_)
  have hr : -2147483648 ≤ i ∧ i ≤ 2147483647 := z_hd h1
  refine ⟨z_cons (z_r32 _) (z_tl (z_tl h1)), h2, fun call k => ?_⟩
  unfold x_inv
  dsimp only
  rw [if_pos rfl, if_pos (by decide), if_neg (show ¬ d < 12 by omega), if_neg (by decide), if_pos (by decide)]
  unfold x_tx
  rw [if_neg (by decide)]
  show (if 4 ≤ p ∧ p < 8 then x_in (Int32.ofInt i) (E.1.2 p).length (x_low (st.map (z_v E.2.2.2)) (k (pc + 3) (.int ((E.1.2 p).getD (Int32.ofInt i).toNatClampNeg 0) :: st.map (z_v E.2.2.2)) (z_u E.2.2.2 m))) else none) = _
  rw [if_pos hl]
  unfold x_in
  rw [if_neg (z_in hr hx.1 hx.2), z_cl hr, z_low hw, List.map_cons, z_vi_toInt]
theorem z_cpyf {m : zM} {g1 k1 g0 k0 : Nat} {sp dp n : Int} (h1 : 0 ≤ sp) (h2 : 0 ≤ dp) (h3 : 0 ≤ n) {α : Type} (f : Int → α) : va_cpy (fun i : Nat => f (m g0 k0 i)) (fun i : Nat => f (m g1 k1 i)) sp.toNat dp.toNat n.toNat = fun i : Nat => f (z_cpy m g1 k1 g0 k0 sp dp n g1 k1 i) := by
  funext i
  unfold va_cpy z_cpy
  by_cases h : dp ≤ (i : Int) ∧ (i : Int) < dp + n
  · rw [if_pos (show dp.toNat ≤ i ∧ i < dp.toNat + n.toNat by omega), if_pos (show g1 = g1 ∧ k1 = k1 ∧ dp ≤ (i : Int) ∧ (i : Int) < dp + n from ⟨rfl, rfl, h.1, h.2⟩)]
    dsimp only
    rw [show (((sp.toNat + (i - dp.toNat) : Nat)) : Int) = (i : Int) - dp + sp by omega]
  · rw [if_neg (show ¬ (dp.toNat ≤ i ∧ i < dp.toNat + n.toNat) by omega), if_neg (show ¬ (g1 = g1 ∧ k1 = k1 ∧ dp ≤ (i : Int) ∧ (i : Int) < dp + n) from fun e => h ⟨e.2.2.1, e.2.2.2⟩)]
theorem z_cpy_k {m : zM} {g1 k1 g0 k0 : Nat} {sp dp n : Int} {g' k' : Nat} (h : (g', k') ≠ (g1, k1)) : z_cpy m g1 k1 g0 k0 sp dp n g' k' = m g' k' := by
  funext i
  unfold z_cpy
  rw [if_neg (fun e => h (by rw [e.1, e.2.1]))]
theorem z_cpi {ρ : Type} {n sp dp : Int} {N0 N1 : Nat} (hn : -2147483648 ≤ n ∧ n ≤ 2147483647) (hs : -2147483648 ≤ sp ∧ sp ≤ 2147483647) (hd : -2147483648 ≤ dp ∧ dp ≤ 2147483647) (h : 0 ≤ n ∧ 0 ≤ sp ∧ 0 ≤ dp ∧ sp + n ≤ N0 ∧ dp + n ≤ N1) (a : Option ρ) : x_cpi (Int32.ofInt n) (Int32.ofInt sp) (Int32.ofInt dp) N0 N1 a = a := by
  unfold x_cpi
  have e : ∀ x : Int, (-2147483648 ≤ x ∧ x ≤ 2147483647) → (Int32.ofInt x < 0 ↔ x < 0) := fun x hx => z_lt32 hx (y := 0) (by omega)
  rw [if_neg (by rw [e n hn, e sp hs, e dp hd]; omega), if_pos (by rw [z_cl hn, z_cl hs, z_cl hd]; omega)]
theorem X.cpI (pc' : Nat) {idx j' na ci g1 k1 g0 k0 N1 N0 : Nat} {n dp sp : Int} (hi : z_I E j pc = some (.invokestatic idx, 3, (j', na, 7, ci), c, ks)) (hc : z_cut ks lv = lv) (hp : pc + 3 = pc') (hd : 12 ≤ d) (hw : z_wd st ≤ 8) (h1 : ¬ k1 < 8) (h0 : ¬ k0 < 8) (hk1 : E.2.2.2.1 k1 = some (.inr (0, N1))) (hk0 : E.2.2.2.1 k0 = some (.inr (0, N0))) (hr : 0 ≤ n ∧ 0 ≤ sp ∧ 0 ≤ dp ∧ sp + n ≤ N0 ∧ dp + n ≤ N1)
    (kk : X E d j pc' lv st (z_cpy m g1 k1 g0 k0 sp dp n) Q) : X E d j pc lv (zi n :: zi dp :: zr g1 k1 :: zi sp :: zr g0 k0 :: st) m Q := by
  subst hp
  refine X.bi (pc + 3) hi hc rfl rfl kk (fun e1 e2 => ?_)
  have hn : -2147483648 ≤ n ∧ n ≤ 2147483647 := z_hd e1
  have hdp : -2147483648 ≤ dp ∧ dp ≤ 2147483647 := z_hd (z_tl e1)
  have hv1 := z_kind_ne (z_hd (z_tl (z_tl e1))) h1
  have hsp : -2147483648 ≤ sp ∧ sp ≤ 2147483647 := z_hd (z_tl (z_tl (z_tl e1)))
  have hv0 := z_kind_ne (z_hd (z_tl (z_tl (z_tl (z_tl e1))))) h0
  refine ⟨z_tl (z_tl (z_tl (z_tl (z_tl e1)))), z_mok_row e2 hk1 (fun hv i a1 a2 => ?_) (fun g' k' he => z_cpy_k he), fun call k => ?_⟩
  · unfold z_cpy
    split
    · exact z_rgi e2 hv0 hk0 (by omega) (by omega)
    · exact z_rgi e2 hv hk1 a1 a2
  · unfold x_inv
    dsimp only
    rw [if_pos rfl, if_pos (by decide), if_neg (show ¬ d < 12 by omega), if_pos rfl]
    simp only [List.map_cons, z_v_ref hv1, z_v_ref hv0]
    show x_cp E.1 (.int (Int32.ofInt n) :: .int (Int32.ofInt dp) :: .ref (E.2.2.2.2.1 g1 k1 + 8) :: .int (Int32.ofInt sp) :: .ref (E.2.2.2.2.1 g0 k0 + 8) :: st.map (z_v E.2.2.2)) (z_u E.2.2.2 m) (fun r h => x_low r (k (pc + 3) r h)) = _
    unfold x_cp
    dsimp only
    rw [z_ga hv1 hk1]
    show x_src E.1 (z_u E.2.2.2 m) (E.2.2.2.2.1 g0 k0 + 8) _ = _
    unfold x_src
    dsimp only
    rw [z_ga hv0 hk0]
    show x_cpi (Int32.ofInt n) (Int32.ofInt sp) (Int32.ofInt dp) N0 N1 _ = _
    rw [z_cpi hn hsp hdp hr, z_low hw, z_cl hn, z_cl hsp, z_cl hdp]
    congr 1
    refine z_u_set hv1 ?_ (fun g' k' he => z_cpy_k he)
    unfold z_c
    rw [hk1]
    show _ = Sum.inl (FieldType.int, N1, Sum.inl fun i : Nat => Int32.ofInt (z_cpy m g1 k1 g0 k0 sp dp n g1 k1 (i : Int)))
    rw [← z_cpyf (g1 := g1) (k1 := k1) (g0 := g0) (k0 := k0) hr.2.1 hr.2.2.1 hr.1 (fun y => Int32.ofInt y)]
theorem X.cpL (pc' : Nat) {idx j' na ci g1 k1 g0 k0 N1 N0 : Nat} {n dp sp : Int} (hi : z_I E j pc = some (.invokestatic idx, 3, (j', na, 7, ci), c, ks)) (hc : z_cut ks lv = lv) (hp : pc + 3 = pc') (hd : 12 ≤ d) (hw : z_wd st ≤ 8) (h1 : ¬ k1 < 8) (h0 : ¬ k0 < 8) (hk1 : E.2.2.2.1 k1 = some (.inr (1, N1))) (hk0 : E.2.2.2.1 k0 = some (.inr (1, N0))) (hr : 0 ≤ n ∧ 0 ≤ sp ∧ 0 ≤ dp ∧ sp + n ≤ N0 ∧ dp + n ≤ N1)
    (kk : X E d j pc' lv st (z_cpy m g1 k1 g0 k0 sp dp n) Q) : X E d j pc lv (zi n :: zi dp :: zr g1 k1 :: zi sp :: zr g0 k0 :: st) m Q := by
  subst hp
  refine X.bi (pc + 3) hi hc rfl rfl kk (fun e1 e2 => ?_)
  have hn : -2147483648 ≤ n ∧ n ≤ 2147483647 := z_hd e1
  have hdp : -2147483648 ≤ dp ∧ dp ≤ 2147483647 := z_hd (z_tl e1)
  have hv1 := z_kind_ne (z_hd (z_tl (z_tl e1))) h1
  have hsp : -2147483648 ≤ sp ∧ sp ≤ 2147483647 := z_hd (z_tl (z_tl (z_tl e1)))
  have hv0 := z_kind_ne (z_hd (z_tl (z_tl (z_tl (z_tl e1))))) h0
  refine ⟨z_tl (z_tl (z_tl (z_tl (z_tl e1)))), z_mok_row e2 hk1 (fun hv i a1 a2 => ?_) (fun g' k' he => z_cpy_k he), fun call k => ?_⟩
  · unfold z_cpy
    split
    · exact z_rgi e2 hv0 hk0 (by omega) (by omega)
    · exact z_rgi e2 hv hk1 a1 a2
  · unfold x_inv
    dsimp only
    rw [if_pos rfl, if_pos (by decide), if_neg (show ¬ d < 12 by omega), if_pos rfl]
    simp only [List.map_cons, z_v_ref hv1, z_v_ref hv0]
    show x_cp E.1 (.int (Int32.ofInt n) :: .int (Int32.ofInt dp) :: .ref (E.2.2.2.2.1 g1 k1 + 8) :: .int (Int32.ofInt sp) :: .ref (E.2.2.2.2.1 g0 k0 + 8) :: st.map (z_v E.2.2.2)) (z_u E.2.2.2 m) (fun r h => x_low r (k (pc + 3) r h)) = _
    unfold x_cp
    dsimp only
    rw [z_ga hv1 hk1]
    show x_srcl (z_u E.2.2.2 m) (E.2.2.2.2.1 g0 k0 + 8) _ = _
    unfold x_srcl
    dsimp only
    rw [z_ga hv0 hk0]
    show x_cpi (Int32.ofInt n) (Int32.ofInt sp) (Int32.ofInt dp) N0 N1 _ = _
    rw [z_cpi hn hsp hdp hr, z_low hw, z_cl hn, z_cl hsp, z_cl hdp]
    congr 1
    refine z_u_set hv1 ?_ (fun g' k' he => z_cpy_k he)
    unfold z_c
    rw [hk1]
    show _ = Sum.inl (FieldType.long, N1, Sum.inr (Sum.inl fun i : Nat => Int64.ofInt (z_cpy m g1 k1 g0 k0 sp dp n g1 k1 (i : Int))))
    rw [← z_cpyf (g1 := g1) (k1 := k1) (g0 := g0) (k0 := k0) hr.2.1 hr.2.2.1 hr.1 (fun y => Int64.ofInt y)]
-- calls
theorem X.in {ins : Instr} {j' na kd ci : Nat} (pc' : Nat) (As' rest : List zV) (lv0 : List (Nat × zV)) {rt : Option FieldType} {nL : Nat} (hi : z_I E j pc = some (ins, 3, (j', na, kd, ci), c, ks)) (hc : z_cut ks lv = lv) (hp : pc + 3 = pc') (h4 : x_kind ins = 4) (hd : 1 ≤ d) (hT : z_T E j' = some (rt, nL)) (hw : z_wd As' ≤ nL) (hwr : z_wd rest ≤ 8) (ha : z_args 0 As' = lv0) (hs : ∀ v ∈ As', v ∈ st) (hs2 : ∀ v ∈ rest, v ∈ st)
    (hinv : (∀ v ∈ st, z_ok E.2.2.2 v) → ∀ (call : Nat → List Value → List xC → Option xR) (k : Nat → List Value → List xC → Option xR), x_inv E.1 call d (j', na, kd, ci) 3 pc (st.map (z_v E.2.2.2)) (z_u E.2.2.2 m) k = x_low (rest.map (z_v E.2.2.2)) ((call j' (As'.map (z_v E.2.2.2)) (z_u E.2.2.2 m)).bind fun z => k (pc + 3) (z.1.toList ++ rest.map (z_v E.2.2.2)) z.2))
    (kk : X E (d - 1) j' 0 lv0 [] m (fun r m' => X E d j pc' lv (z_push r rest) m' Q)) : X E d j pc lv st m Q := by
  intro g1 g2 g3
  subst hp
  obtain ⟨c1, r1, m1, a1, a2, a3, a4⟩ := kk (fun q hq => g2 _ (hs _ (z_args_mem (by rw [ha]; exact hq)))) (fun v hv => by cases hv) g3
  obtain ⟨c2, r2, m2, b1, b2, b3, b4⟩ := a4 g1 (by
    intro v hv
    cases r1 with
    | none => exact g2 v (hs2 v hv)
    | some w =>
      rcases List.mem_cons.mp hv with rfl | hv
      · exact a2 _ rfl
      · exact g2 v (hs2 v hv)) a3
  obtain ⟨M, hM, hx⟩ := z_I_inv hi
  refine ⟨c1 + c2 + 1, r2, m2, fun n => ?_, b2, b3, b4⟩
  rw [show n + (c1 + c2 + 1) = (n + c1 + c2) + 1 by omega, z_unf hM hx, z_cut_lv]
  dsimp only
  rw [hc]
  unfold x_step
  rw [h4]
  dsimp only
  rw [hinv g2, z_low hwr]
  obtain ⟨d', rfl⟩ : ∃ d', d = d' + 1 := ⟨d - 1, by omega⟩
  unfold z_T at hT
  obtain ⟨M', hM', hTT⟩ := Option.map_eq_some_iff.mp hT
  dsimp only
  rw [hM']
  dsimp only
  have hnL : M'.2.2.1 = nL := congrArg Prod.snd hTT
  rw [if_pos (by rw [z_cats, hnL]; exact hw), z_args_lv, ha]
  have e1 := a1 (n + c2)
  rw [show n + c2 + c1 = n + c1 + c2 by omega] at e1
  simp only [Nat.add_sub_cancel, List.map_nil] at e1
  rw [e1]
  have e2 := b1 (n + c1)
  show x_exec _ _ _ _ _ _ _ _ ((Option.map (z_v E.2.2.2) r1).toList ++ rest.map (z_v E.2.2.2)) _ = _
  rw [show (Option.map (z_v E.2.2.2) r1).toList ++ rest.map (z_v E.2.2.2) = (z_push r1 rest).map (z_v E.2.2.2) by cases r1 <;> rfl]
  exact e2
theorem z_argv {L : zL} (As rest : List zV) : x_args As.length ((As.reverse ++ rest).map (z_v L)) = some (As.map (z_v L), rest.map (z_v L)) := by
  unfold x_args
  rw [if_pos (by simp)]
  congr 2
  · rw [List.map_append, List.take_left' (by simp), ← List.map_reverse, List.reverse_reverse]
  · rw [List.map_append, List.drop_left' (by simp)]
theorem X.calls (pc' : Nat) (As rest : List zV) (lv0 : List (Nat × zV)) {idx j' na kd ci : Nat} {rt : Option FieldType} {nL : Nat} (hi : z_I E j pc = some (.invokestatic idx, 3, (j', na, kd, ci), c, ks)) (hk : kd = 3 ∨ kd = 6) (hc : z_cut ks lv = lv) (hp : pc + 3 = pc') (hd : 1 ≤ d) (hst : As.reverse ++ rest = st) (hna : As.length = na) (hT : z_T E j' = some (rt, nL)) (hw : z_wd As ≤ nL) (hwr : z_wd rest ≤ 8) (ha : z_args 0 As = lv0)
    (kk : X E (d - 1) j' 0 lv0 [] m (fun r m' => X E d j pc' lv (z_push r rest) m' Q)) : X E d j pc lv st m Q := by
  subst hst
  subst hna
  refine X.in pc' As rest lv0 hi hc hp rfl hd hT hw hwr ha (fun v hv => List.mem_append.mpr (.inl (List.mem_reverse.mpr hv))) (fun v hv => List.mem_append.mpr (.inr hv)) (fun _ call k => ?_) kk
  unfold x_inv
  dsimp only
  rw [if_pos rfl, if_neg (by omega), if_neg (by omega), if_pos hk, z_argv]
theorem X.callv (pc' : Nat) (As rest : List zV) (lv0 : List (Nat × zV)) {ins : Instr} {j' na kd ci g k : Nat} {fs : List zF} {rt : Option FieldType} {nL : Nat} (hi : z_I E j pc = some (ins, 3, (j', na, kd, ci), c, ks)) (hin : x_kind ins = 4) (hk : kd = 1 ∨ kd = 2 ∨ kd = 4 ∨ kd = 5) (hc : z_cut ks lv = lv) (hp : pc + 3 = pc') (hd : 1 ≤ d) (hst : As.reverse ++ zr g k :: rest = st) (hna : As.length = na) (h8 : ¬ k < 8) (hkk : E.2.2.2.1 k = some (.inl (ci, fs))) (hT : z_T E j' = some (rt, nL)) (hw : z_wd (zr g k :: As) ≤ nL) (hwr : z_wd rest ≤ 8) (ha : z_args 0 (zr g k :: As) = lv0)
    (kk : X E (d - 1) j' 0 lv0 [] m (fun r m' => X E d j pc' lv (z_push r rest) m' Q)) : X E d j pc lv st m Q := by
  subst hst
  subst hna
  refine X.in pc' (zr g k :: As) rest lv0 hi hc hp hin hd hT hw hwr ha (fun v hv => ?_) (fun v hv => List.mem_append.mpr (.inr (List.mem_cons_of_mem _ hv))) (fun g2 call k2 => ?_) kk
  · rcases List.mem_cons.mp hv with rfl | hv
    · exact List.mem_append.mpr (.inr List.mem_cons_self)
    · exact List.mem_append.mpr (.inl (List.mem_reverse.mpr hv))
  · have hv := z_kind_ne (g2 (zr g k) (List.mem_append.mpr (.inr List.mem_cons_self))) h8
    unfold x_inv
    dsimp only
    rw [if_pos rfl, if_neg (by omega), if_neg (by omega), if_neg (by omega), z_argv]
    rw [List.map_cons, z_v_ref hv]
    dsimp only
    rw [z_gf hv hkk]
    dsimp only
    rw [if_pos rfl, List.map_cons, z_v_ref hv]
-- ends
theorem X.end' {ins : Instr} {n : Nat} {rt : Option FieldType} {nL : Nat} (r : Option zV) (hi : z_I E j pc = some (ins, n, q, c, ks)) (hc : z_cut ks lv = lv) (h5 : x_kind ins = 5) (hT : z_T E j = some (rt, nL)) (hr : ∀ u, x_ret ins n rt (st.map (z_v E.2.2.2)) u = some (r.map (z_v E.2.2.2), u)) (hs : ∀ v, r = some v → v ∈ st) (hq : Q r m) : X E d j pc lv st m Q := by
  intro g1 g2 g3
  obtain ⟨M, hM, hx⟩ := z_I_inv hi
  unfold z_T at hT
  obtain ⟨M', hM', hTT⟩ := Option.map_eq_some_iff.mp hT
  have hMM : M' = M := Option.some.inj (hM'.symm.trans hM)
  subst hMM
  have hrt : M'.2.2.2.1 = rt := congrArg Prod.fst hTT
  refine ⟨1, r, m, fun n => ?_, fun v hv => g2 v (hs v hv), g3, hq⟩
  rw [z_unf hM hx]
  unfold x_step
  rw [h5]
  dsimp only
  rw [hrt]
  exact hr _
theorem X.reti {x : Int} {nL : Nat} (hi : z_I E j pc = some (.ireturn, 1, q, c, ks)) (hc : z_cut ks lv = lv) (hT : z_T E j = some (some .int, nL)) (hq : Q (some (zi x)) m) : X E d j pc lv [zi x] m Q :=
  X.end' (some (zi x)) hi hc rfl hT (fun u => rfl) (fun v hv => by cases hv; exact List.mem_cons_self) hq
theorem X.retz {x : Int} {nL : Nat} (hi : z_I E j pc = some (.ireturn, 1, q, c, ks)) (hc : z_cut ks lv = lv) (hT : z_T E j = some (some .boolean, nL)) (hx : x = 0 ∨ x = 1) (hq : Q (some (zi x)) m) : X E d j pc lv [zi x] m Q :=
  X.end' (some (zi x)) hi hc rfl hT (fun u => by rcases hx with rfl | rfl <;> rfl) (fun v hv => by cases hv; exact List.mem_cons_self) hq
theorem X.retl {x : Int} {nL : Nat} (hi : z_I E j pc = some (.lreturn, 1, q, c, ks)) (hc : z_cut ks lv = lv) (hT : z_T E j = some (some .long, nL)) (hq : Q (some (zl x)) m) : X E d j pc lv [zl x] m Q :=
  X.end' (some (zl x)) hi hc rfl hT (fun u => rfl) (fun v hv => by cases hv; exact List.mem_cons_self) hq
theorem X.retv {nL : Nat} (hi : z_I E j pc = some (.return_, 1, q, c, ks)) (hc : z_cut ks lv = lv) (hT : z_T E j = some (none, nL)) (hq : Q none m) : X E d j pc lv [] m Q :=
  X.end' none hi hc rfl hT (fun u => rfl) (fun v hv => by cases hv) hq
end
