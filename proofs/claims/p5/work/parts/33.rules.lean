/-! Rows that name the new memory, rows that forget what a number is. -/
section
variable {E : zE} {d j pc : Nat} {lv : List (Nat × zV)} {st : List zV} {m : zM} {Q : Option zV → zM → Prop} {q : Nat × Nat × Nat × Nat} {c : Value} {ks : Option (List Nat)}
theorem X.putI' (pc' : Nat) (fz : Int) {idx ci fj hh g k : Nat} {fs : List zF} {x : Int} (hi : z_I E j pc = some (.putfield idx, 3, (ci, fj, 0, hh), c, ks)) (hc : z_cut ks lv = lv) (hp : pc + 3 = pc') (h8 : ¬ k < 8) (hk : E.2.2.2.1 k = some (.inl (ci, fs))) (hf : fs[fj]? = some (.inl 0)) (hz : (fj : Int) = fz) (kk : (-9223372036854775808 ≤ x ∧ x ≤ 9223372036854775807) → ∀ m1, m1 = z_upd m g k fz x → X E d j pc' lv st m1 Q) : X E d j pc lv (zi x :: zr g k :: st) m Q := by
  intro g1 g2 g3
  have h : -2147483648 ≤ x ∧ x ≤ 2147483647 := z_hd g2
  exact X.putI pc' fz hi hc hp h8 hk hf hz (kk (by omega) _ rfl) g1 g2 g3
theorem X.putL' (pc' : Nat) (fz : Int) {idx ci fj hh g k : Nat} {fs : List zF} {x : Int} (hi : z_I E j pc = some (.putfield idx, 3, (ci, fj, 1, hh), c, ks)) (hc : z_cut ks lv = lv) (hp : pc + 3 = pc') (h8 : ¬ k < 8) (hk : E.2.2.2.1 k = some (.inl (ci, fs))) (hf : fs[fj]? = some (.inl 1)) (hz : (fj : Int) = fz) (kk : (-9223372036854775808 ≤ x ∧ x ≤ 9223372036854775807) → ∀ m1, m1 = z_upd m g k fz x → X E d j pc' lv st m1 Q) : X E d j pc lv (zl x :: zr g k :: st) m Q := by
  intro g1 g2 g3
  exact X.putL pc' fz hi hc hp h8 hk hf hz (kk (z_hd g2) _ rfl) g1 g2 g3
theorem X.putZ' (pc' : Nat) (fz : Int) {idx ci fj hh g k : Nat} {fs : List zF} {x : Int} (hi : z_I E j pc = some (.putfield idx, 3, (ci, fj, 2, hh), c, ks)) (hc : z_cut ks lv = lv) (hp : pc + 3 = pc') (h8 : ¬ k < 8) (hk : E.2.2.2.1 k = some (.inl (ci, fs))) (hf : fs[fj]? = some (.inl 2)) (hz : (fj : Int) = fz) (hx : x = 0 ∨ x = 1) (kk : (-9223372036854775808 ≤ x ∧ x ≤ 9223372036854775807) → ∀ m1, m1 = z_upd m g k fz x → X E d j pc' lv st m1 Q) : X E d j pc lv (zi x :: zr g k :: st) m Q :=
  X.putZ pc' fz hi hc hp h8 hk hf hz hx (kk (by omega) _ rfl)
theorem X.iast' (pc' : Nat) {g k N : Nat} {i x : Int} (hi : z_I E j pc = some (.iastore, 1, q, c, ks)) (hc : z_cut ks lv = lv) (hp : pc + 1 = pc') (h8 : ¬ k < 8) (hk : E.2.2.2.1 k = some (.inr (0, N))) (hx : 0 ≤ i ∧ i < N) (kk : (-9223372036854775808 ≤ x ∧ x ≤ 9223372036854775807) → ∀ m1, m1 = z_upd m g k i x → X E d j pc' lv st m1 Q) : X E d j pc lv (zi x :: zi i :: zr g k :: st) m Q := by
  intro g1 g2 g3
  have h : -2147483648 ≤ x ∧ x ≤ 2147483647 := z_hd g2
  exact X.iast pc' hi hc hp h8 hk hx (kk (by omega) _ rfl) g1 g2 g3
theorem X.last' (pc' : Nat) {g k N : Nat} {i x : Int} (hi : z_I E j pc = some (.lastore, 1, q, c, ks)) (hc : z_cut ks lv = lv) (hp : pc + 1 = pc') (h8 : ¬ k < 8) (hk : E.2.2.2.1 k = some (.inr (1, N))) (hx : 0 ≤ i ∧ i < N) (kk : (-9223372036854775808 ≤ x ∧ x ≤ 9223372036854775807) → ∀ m1, m1 = z_upd m g k i x → X E d j pc' lv st m1 Q) : X E d j pc lv (zl x :: zi i :: zr g k :: st) m Q := by
  intro g1 g2 g3
  exact X.last pc' hi hc hp h8 hk hx (kk (z_hd g2) _ rfl) g1 g2 g3
theorem X.bast' (pc' : Nat) {g k N : Nat} {i x : Int} (hi : z_I E j pc = some (.bastore, 1, q, c, ks)) (hc : z_cut ks lv = lv) (hp : pc + 1 = pc') (h8 : ¬ k < 8) (hk : E.2.2.2.1 k = some (.inr (2, N))) (hx : 0 ≤ i ∧ i < N) (hxr : -128 ≤ x ∧ x ≤ 127) (kk : (-9223372036854775808 ≤ x ∧ x ≤ 9223372036854775807) → ∀ m1, m1 = z_upd m g k i x → X E d j pc' lv st m1 Q) : X E d j pc lv (zi x :: zi i :: zr g k :: st) m Q :=
  X.bast pc' hi hc hp h8 hk hx hxr (kk (by omega) _ rfl)
theorem X.zast' (pc' : Nat) {g k N : Nat} {i x : Int} (hi : z_I E j pc = some (.bastore, 1, q, c, ks)) (hc : z_cut ks lv = lv) (hp : pc + 1 = pc') (h8 : ¬ k < 8) (hk : E.2.2.2.1 k = some (.inr (3, N))) (hx : 0 ≤ i ∧ i < N) (hxr : x = 0 ∨ x = 1) (kk : (-9223372036854775808 ≤ x ∧ x ≤ 9223372036854775807) → ∀ m1, m1 = z_upd m g k i x → X E d j pc' lv st m1 Q) : X E d j pc lv (zi x :: zi i :: zr g k :: st) m Q :=
  X.zast pc' hi hc hp h8 hk hx hxr (kk (by omega) _ rfl)
theorem X.cpI' (pc' : Nat) {idx j' na ci g1 k1 g0 k0 N1 N0 : Nat} {n dp sp : Int} (hi : z_I E j pc = some (.invokestatic idx, 3, (j', na, 7, ci), c, ks)) (hc : z_cut ks lv = lv) (hp : pc + 3 = pc') (hd : 12 ≤ d) (hw : z_wd st ≤ 8) (h1 : ¬ k1 < 8) (h0 : ¬ k0 < 8) (hk1 : E.2.2.2.1 k1 = some (.inr (0, N1))) (hk0 : E.2.2.2.1 k0 = some (.inr (0, N0))) (hr : 0 ≤ n ∧ 0 ≤ sp ∧ 0 ≤ dp ∧ sp + n ≤ N0 ∧ dp + n ≤ N1)
    (kk : ∀ m1, m1 = z_cpy m g1 k1 g0 k0 sp dp n → X E d j pc' lv st m1 Q) : X E d j pc lv (zi n :: zi dp :: zr g1 k1 :: zi sp :: zr g0 k0 :: st) m Q :=
  X.cpI pc' hi hc hp hd hw h1 h0 hk1 hk0 hr (kk _ rfl)
theorem X.cpL' (pc' : Nat) {idx j' na ci g1 k1 g0 k0 N1 N0 : Nat} {n dp sp : Int} (hi : z_I E j pc = some (.invokestatic idx, 3, (j', na, 7, ci), c, ks)) (hc : z_cut ks lv = lv) (hp : pc + 3 = pc') (hd : 12 ≤ d) (hw : z_wd st ≤ 8) (h1 : ¬ k1 < 8) (h0 : ¬ k0 < 8) (hk1 : E.2.2.2.1 k1 = some (.inr (1, N1))) (hk0 : E.2.2.2.1 k0 = some (.inr (1, N0))) (hr : 0 ≤ n ∧ 0 ≤ sp ∧ 0 ≤ dp ∧ sp + n ≤ N0 ∧ dp + n ≤ N1)
    (kk : ∀ m1, m1 = z_cpy m g1 k1 g0 k0 sp dp n → X E d j pc' lv st m1 Q) : X E d j pc lv (zi n :: zi dp :: zr g1 k1 :: zi sp :: zr g0 k0 :: st) m Q :=
  X.cpL pc' hi hc hp hd hw h1 h0 hk1 hk0 hr (kk _ rfl)
theorem X.iiF (pc' : Nat) (ins : Instr) (f : Int32 → Int32 → Int32) {x y : Int} (hi : z_I E j pc = some (ins, 1, q, c, ks)) (hc : z_cut ks lv = lv) (hp : pc + 1 = pc') (hk : x_kind ins = 0) (hf : ∀ (st : List Value) (k : List Value → Option xR), x_pure ins 1 st k = x_ii f 1 st k) (kk : ∀ z, (-2147483648 ≤ z ∧ z ≤ 2147483647) → X E d j pc' lv (zi z :: st) m Q) : X E d j pc lv (zi y :: zi x :: st) m Q :=
  X.ii pc' ins f hi hc hp hk hf (kk _ (z_r32 _))
theorem X.llF (pc' : Nat) (ins : Instr) (f : Int64 → Int64 → Int64) {x y : Int} (hi : z_I E j pc = some (ins, 1, q, c, ks)) (hc : z_cut ks lv = lv) (hp : pc + 1 = pc') (hk : x_kind ins = 0) (hf : ∀ (st : List Value) (k : List Value → Option xR), x_pure ins 1 st k = x_ll f 1 st k) (kk : ∀ z, (-9223372036854775808 ≤ z ∧ z ≤ 9223372036854775807) → X E d j pc' lv (zl z :: st) m Q) : X E d j pc lv (zl y :: zl x :: st) m Q :=
  X.ll pc' ins f hi hc hp hk hf (kk _ (z_r64 _))
theorem X.lnegF (pc' : Nat) {x : Int} (hi : z_I E j pc = some (.lneg, 1, q, c, ks)) (hc : z_cut ks lv = lv) (hp : pc + 1 = pc') (kk : ∀ z, (-9223372036854775808 ≤ z ∧ z ≤ 9223372036854775807) → X E d j pc' lv (zl z :: st) m Q) : X E d j pc lv (zl x :: st) m Q :=
  X.num pc' hi hc hp rfl (kk (-Int64.ofInt x).toInt (z_r64 _)) (fun h => ⟨z_cons (z_r64 _) (z_tl h), fun _ => by
    show x_l1 (fun x => -x) 1 (.long (Int64.ofInt x) :: _) _ = _
    simp only [x_l1, if_true]
    rw [List.map_cons, z_vl_toInt]⟩)
theorem X.l2iF (pc' : Nat) {x : Int} (hi : z_I E j pc = some (.l2i, 1, q, c, ks)) (hc : z_cut ks lv = lv) (hp : pc + 1 = pc') (kk : ∀ z, (-2147483648 ≤ z ∧ z ≤ 2147483647) → X E d j pc' lv (zi z :: st) m Q) : X E d j pc lv (zl x :: st) m Q :=
  X.num pc' hi hc hp rfl (kk (Int64.ofInt x).toInt32.toInt (z_r32 _)) (fun h => ⟨z_cons (z_r32 _) (z_tl h), fun _ => by
    show x_l2 (fun x => x.toInt32) 1 (.long (Int64.ofInt x) :: _) _ = _
    simp only [x_l2, if_true]
    rw [List.map_cons, z_vi_toInt]⟩)
theorem X.lshlF (pc' : Nat) {x y : Int} (hi : z_I E j pc = some (.lshl, 1, q, c, ks)) (hc : z_cut ks lv = lv) (hp : pc + 1 = pc') (kk : ∀ z, (-9223372036854775808 ≤ z ∧ z ≤ 9223372036854775807) → X E d j pc' lv (zl z :: st) m Q) : X E d j pc lv (zi y :: zl x :: st) m Q :=
  X.lshl pc' hi hc hp (kk _ (z_r64 _))
theorem X.ldivF (pc' : Nat) {x y : Int} (hi : z_I E j pc = some (.ldiv, 1, q, c, ks)) (hc : z_cut ks lv = lv) (hp : pc + 1 = pc') (hy : 0 < y) (kk : ∀ z, X E d j pc' lv (zl z :: st) m Q) : X E d j pc lv (zl y :: zl x :: st) m Q :=
  X.ldiv pc' hi hc hp hy (kk _)
theorem X.lremF (pc' : Nat) {x y : Int} (hi : z_I E j pc = some (.lrem, 1, q, c, ks)) (hc : z_cut ks lv = lv) (hp : pc + 1 = pc') (hy : 0 < y) (kk : ∀ z, z = x.tmod y → X E d j pc' lv (zl z :: st) m Q) : X E d j pc lv (zl y :: zl x :: st) m Q :=
  X.lrem pc' hi hc hp hy (kk _ rfl)
theorem X.i2bF (pc' : Nat) {x : Int} (hi : z_I E j pc = some (.i2b, 1, q, c, ks)) (hc : z_cut ks lv = lv) (hp : pc + 1 = pc') (kk : ∀ z, (-128 ≤ z ∧ z ≤ 127) → X E d j pc' lv (zi z :: st) m Q) : X E d j pc lv (zi x :: st) m Q :=
  X.i2b pc' hi hc hp (kk _ (by
    have h1 := (Int32.ofInt x).toInt8.toInt_lt
    have h2 := (Int32.ofInt x).toInt8.le_toInt
    omega))
theorem X.iincF (pc' : Nat) {i : Nat} {n x : Int} (hi : z_I E j pc = some (.iinc i n, 3, q, c, ks)) (hc : z_cut ks lv = lv) (hp : pc + 3 = pc') (hg : z_get lv i = some (zi x)) (kk : ∀ z, (-2147483648 ≤ z ∧ z ≤ 2147483647) → X E d j pc' (z_s1 lv i (zi z)) st m Q) : X E d j pc lv st m Q :=
  X.loc pc' hi hc hp rfl (kk (Int32.ofInt x + Int32.ofInt n).toInt (z_r32 _)) (fun h1 h2 => ⟨z_s1_ok h1 (z_r32 _), h2, fun k => by
    show x_inc i n 3 _ _ _ = _
    unfold x_inc
    rw [z_get_lv, hg]
    show k (x_s1 _ i (.int (Int32.ofInt x + Int32.ofInt n))) _ = _
    rw [← z_vi_toInt E.2.2.2, z_s1_lv]⟩)
theorem X.absF (pc' : Nat) {idx j' na ci : Nat} {x : Int} (hi : z_I E j pc = some (.invokestatic idx, 3, (j', na, 14, ci), c, ks)) (hc : z_cut ks lv = lv) (hp : pc + 3 = pc') (hd : 12 ≤ d) (hw : z_wd st ≤ 8) (kk : ∀ z, (-9223372036854775808 ≤ z ∧ z ≤ 9223372036854775807) → X E d j pc' lv (zl z :: st) m Q) : X E d j pc lv (zl x :: st) m Q := by
  subst hp
  refine X.bi (pc + 3) hi hc rfl rfl (kk (if 0 < Int64.ofInt x then Int64.ofInt x else -Int64.ofInt x).toInt (z_r64 _)) (fun h1 h2 => ?_)
  refine ⟨z_cons (z_r64 _) (z_tl h1), h2, fun call k => ?_⟩
  rw [z_biq hd (by decide)]
  show x_low (st.map (z_v E.2.2.2)) (k (pc + 3) (.long (if 0 < Int64.ofInt x then Int64.ofInt x else -Int64.ofInt x) :: _) _) = _
  rw [z_low hw, List.map_cons, z_vl_toInt]
end
def PI (lo hi : Int) (r : Option zV) : Prop := ∃ v, r = some (zi v) ∧ lo ≤ v ∧ v ≤ hi
def PL (r : Option zV) : Prop := ∃ v, r = some (zl v)
def PN (r : Option zV) : Prop := r = none
theorem z_lt_or (a b : Int) : a < b ∨ ¬ a < b := Decidable.em _
