/-! The cells of the machine of places, laid over the heap from address b on. -/
def x_rc (b0 : Nat → Nat) (b : Nat) (a : vp_A) : vp_A := match a with
  | (n, .inl f) => (n, .inl f)
  | (n, .inr (.inl f)) => (n, .inr (.inl f))
  | (n, .inr (.inr (.inl f))) => (n, .inr (.inr (.inl f)))
  | (n, .inr (.inr (.inr (.inl f)))) => (n, .inr (.inr (.inr (.inl f))))
  | (n, .inr (.inr (.inr (.inr f)))) => (n, .inr (.inr (.inr (.inr fun i => (f i).map (x_ad b0 b)))))
theorem x_rc_n (b0 : Nat → Nat) (b : Nat) (a : vp_A) : (x_rc b0 b a).1 = a.1 := by
  unfold x_rc
  split <;> rfl
def x_e (ca : FieldType → ClassId) (b0 : Nat → Nat) (b : Nat) (e : xC) : va_E := match e with
  | .inl (ty, a) => .inl (ca ty, x_rc b0 b a)
  | .inr (ci, fs) => .inr (ci, fs.map (x_v b0 b))
def x_ws (ca : FieldType → ClassId) (b0 : Nat → Nat) (b : Nat) : Nat → List xC → va_W
  | _, [] => []
  | a, e :: r => (a, x_e ca b0 b e) :: x_ws ca b0 b (a + 1) r
section
variable {ca : FieldType → ClassId} {b0 : Nat → Nat} {b : Nat}
theorem x_ws_get : ∀ (u : List xC) (a i : Nat), (x_ws ca b0 b a u)[i]? = (u[i]?).map fun e => (a + i, x_e ca b0 b e)
  | [], _, _ => by simp [x_ws]
  | e :: r, a, 0 => by simp [x_ws]
  | e :: r, a, i + 1 => by
    have h := x_ws_get r (a + 1) i
    simp only [x_ws, List.getElem?_cons_succ, h]
    rw [show a + 1 + i = a + (i + 1) by omega]
theorem x_ws_len : ∀ (u : List xC) (a : Nat), (x_ws ca b0 b a u).length = u.length
  | [], _ => rfl
  | e :: r, a => by simp [x_ws, x_ws_len r (a + 1)]
theorem x_ws_set : ∀ (u : List xC) (a i : Nat) (e : xC), (x_ws ca b0 b a u).set i (a + i, x_e ca b0 b e) = x_ws ca b0 b a (u.set i e)
  | [], _, _, _ => by simp [x_ws]
  | z :: r, a, 0, e => by simp [x_ws]
  | z :: r, a, i + 1, e => by
    have h := x_ws_set r (a + 1) i e
    simp only [x_ws, List.set_cons_succ]
    rw [show a + (i + 1) = a + 1 + i by omega, h]
theorem x_ws_app : ∀ (u : List xC) (a : Nat) (e : xC), x_ws ca b0 b a u ++ [(a + u.length, x_e ca b0 b e)] = x_ws ca b0 b a (u ++ [e])
  | [], a, e => by simp [x_ws]
  | z :: r, a, e => by
    have h := x_ws_app r (a + 1) e
    simp only [x_ws, List.cons_append, List.length_cons]
    rw [show a + (r.length + 1) = a + 1 + r.length by omega, h]
theorem x_ws_D (u : List xC) : va_D (fun q => b ≤ q) (x_ws ca b0 b b u) := by
  constructor
  · intro i j p q hi hj hpq
    rw [x_ws_get] at hi hj
    obtain ⟨e1, -, rfl⟩ := Option.map_eq_some_iff.mp hi
    obtain ⟨e2, -, rfl⟩ := Option.map_eq_some_iff.mp hj
    have h : b + i = b + j := hpq
    omega
  · intro k q hk
    rw [x_ws_get] at hk
    obtain ⟨e, -, rfl⟩ := Option.map_eq_some_iff.mp hk
    show b ≤ b + k
    omega
theorem x_ws_at {u : List xC} {k : Nat} {e : xC} (h : u[k]? = some e) : (x_ws ca b0 b b u)[k]? = some (b + k, x_e ca b0 b e) := by
  rw [x_ws_get, h]
  rfl
theorem x_has {D : va_G} {cl : List vw_C} {q : Nat} {E : va_E} {H : Heap} (h : va_at D cl (q, E) H) : q < H.size := by
  cases E with
  | inl a =>
    have h1 : H[q]? = some (vp_cell a.1 a.2) := h
    exact (Array.getElem?_eq_some_iff.mp h1).1
  | inr o =>
    obtain ⟨r, -, cell, h1, -⟩ := h
    exact (Array.getElem?_eq_some_iff.mp h1).1
theorem x_fresh {D : va_G} {cl : List vw_C} {u : List xC} {H1 : Heap} {q : Nat} {E : va_E} (hP : va_P D cl (x_ws ca b0 b b u ++ [(q, E)]) H1) (hD : va_D (fun q => b ≤ q) (x_ws ca b0 b b u ++ [(q, E)])) (hz : H1.size ≤ b + u.length + 1) : q = b + u.length := by
  have hlen : (x_ws ca b0 b b u).length = u.length := x_ws_len u b
  have hq : (x_ws ca b0 b b u ++ [(q, E)])[u.length]? = some (q, E) := by
    rw [List.getElem?_append_right (by omega), hlen]
    simp
  have h1 : b ≤ q := hD.2 _ _ hq
  have h3 : q < H1.size := x_has (hP _ _ hq)
  rcases Nat.lt_or_ge q (b + u.length) with h | h
  · obtain ⟨k, rfl⟩ : ∃ k, q = b + k := ⟨q - b, by omega⟩
    have hk : k < u.length := by omega
    have h4 : (x_ws ca b0 b b u ++ [(b + k, E)])[k]? = some (b + k, x_e ca b0 b u[k]) := by
      rw [List.getElem?_append_left (by omega)]
      exact x_ws_at (List.getElem?_eq_getElem hk)
    have h5 := hD.1 _ _ _ _ h4 hq rfl
    omega
  · omega
end
theorem x_sz_set : ∀ (u : List xC) (k : Nat) (e e' : xC), u[k]? = some e → x_sz1 e' = x_sz1 e → x_sz (u.set k e') = x_sz u
  | [], _, _, _, h, _ => by simp at h
  | z :: r, 0, e, e', h, hs => by
    have h1 : z = e := by simpa using h
    subst h1
    simp [x_sz, hs]
  | z :: r, k + 1, e, e', h, hs => by
    have h1 := x_sz_set r k e e' (by simpa using h) hs
    simp only [x_sz, List.set_cons_succ, List.map_cons, List.sum_cons] at h1 ⊢
    omega
theorem x_sz_app (u : List xC) (e : xC) : x_sz (u ++ [e]) = x_sz u + x_sz1 e := by simp [x_sz]
def x_okc (tyl : List FieldType) (e : xC) : Prop := match e with
  | .inl z => z.1 ∈ tyl
  | .inr _ => True
def x_oku (tyl : List FieldType) (u : List xC) : Prop := ∀ e ∈ u, x_okc tyl e
theorem x_oku_set {tyl : List FieldType} {u : List xC} {k : Nat} {e : xC} (h : x_oku tyl u) (he : x_okc tyl e) : x_oku tyl (u.set k e) := by
  intro z hz
  rcases List.mem_or_eq_of_mem_set hz with h1 | h1
  · exact h z h1
  · rw [h1]; exact he
theorem x_oku_app {tyl : List FieldType} {u : List xC} {e : xC} (h : x_oku tyl u) (he : x_okc tyl e) : x_oku tyl (u ++ [e]) := by
  intro z hz
  rcases List.mem_append.mp hz with h1 | h1
  · exact h z h1
  · rw [List.mem_singleton.mp h1]; exact he
theorem x_oku_at {tyl : List FieldType} {u : List xC} {k : Nat} {e : xC} (h : x_oku tyl u) (hk : u[k]? = some e) : x_okc tyl e := h e (List.mem_of_getElem? hk)
/-- the cells of a frame whose method began with u0 and has u now -/
def x_Inv (D : va_G) (cl : List vw_C) (tyl : List FieldType) (ca : FieldType → ClassId) (b0 : Nat → Nat) (b : Nat) (s : State) (u0 u : List xC) (H : Heap) (locs : List Loc) (cells slots : Nat) : Prop :=
  va_P D cl (x_ws ca b0 b b u) H ∧ va_S (fun q => b ≤ q) s.heap H locs ∧ cells + u0.length = u.length ∧ slots + x_sz u0 = x_sz u ∧ x_oku tyl u
/-- the tables of what is old: static fields (class, name, type, place), texts (class, entry, text, place), links of nest mates, static fields' numbers -/
abbrev xT : Type := List (String × String × String × Nat) × List (String × Nat × String × Nat) × List (String × Nat × MethodName × String) × List (String × String × String × Value)
def x_len (scr : xZ) : List Nat := [(scr.2 4).length, (scr.2 5).length, (scr.2 6).length, (scr.2 7).length]
def x_byt (scr : xZ) : List (List Int32) := [scr.2 4, scr.2 5, scr.2 6, scr.2 7]
def x_O (os : xT) (b0 : Nat → Nat) (b : Nat) (scr : xZ) (U : State) (H : Heap) : Prop :=
  (∀ p, p < 4 → va_T .int (b0 p) (scr.1 p).1 (fun j => .int ((scr.1 p).2 j)) (fun q => b ≤ q) U H) ∧ (∀ q ∈ os.1, va_Z q.1 q.2.1 q.2.2.1 (.ref (b0 q.2.2.2)) (fun q => b ≤ q) U H) ∧ (∀ q ∈ os.2.1, vk_R q.1 q.2.1 q.2.2.1 (b0 q.2.2.2) U) ∧ (∀ q ∈ os.2.2.1, va_Nw (.methodLinkNest q.1 q.2.1 q.2.2.1 q.2.2.2) U) ∧ (∀ q ∈ os.2.2.2, va_Z q.1 q.2.1 q.2.2.1 q.2.2.2 (fun q => b ≤ q) U H) ∧ ∃ adV, vk_S 4 (x_len scr) (x_byt scr) (fun i => b0 (4 + i)) adV (fun q => b ≤ q) U H
theorem x_O.kept {os : xT} {b0 : Nat → Nat} {b : Nat} {scr : xZ} {U : State} {H H1 : Heap} (h : x_O os b0 b scr U H) (hq : ∀ a : Nat, a < H.size → ¬ b ≤ a → H1[a]? = H[a]?) : x_O os b0 b scr U H1 := by
  obtain ⟨h1, h2, h3, h5, h6, adV, h4⟩ := h
  refine ⟨fun p hp => (h1 p hp).kept hq, fun q hm => ?_, h3, h5, fun q hm => ?_, adV, h4.kept hq⟩
  · obtain ⟨cf, kf, fi, f, a, cell, g1, g2, g3, g4, g5, g6, g7, g8⟩ := h2 q hm
    exact ⟨cf, kf, fi, f, a, cell, g1, g2, g3, g4, by rw [hq a (Array.getElem?_eq_some_iff.mp g5).1 g8]; exact g5, g6, g7, g8⟩
  · obtain ⟨cf, kf, fi, f, a, cell, g1, g2, g3, g4, g5, g6, g7, g8⟩ := h6 q hm
    exact ⟨cf, kf, fi, f, a, cell, g1, g2, g3, g4, by rw [hq a (Array.getElem?_eq_some_iff.mp g5).1 g8]; exact g5, g6, g7, g8⟩
theorem x_O.moved {os : xT} {b0 : Nat → Nat} {b : Nat} {scr : xZ} {u U : State} {H : Heap} (hvm : u.vm.Alike U.vm) (hR : ∀ q ∈ os.2.1, vk_R q.1 q.2.1 q.2.2.1 (b0 q.2.2.2) u → vk_R q.1 q.2.1 q.2.2.1 (b0 q.2.2.2) U) (hN : ∀ q ∈ os.2.2.1, va_Nw (.methodLinkNest q.1 q.2.1 q.2.2.1 q.2.2.2) u → va_Nw (.methodLinkNest q.1 q.2.1 q.2.2.1 q.2.2.2) U) (h : x_O os b0 b scr u H) : x_O os b0 b scr U H := by
  obtain ⟨h1, h2, h3, h5, h6, adV, h4⟩ := h
  exact ⟨fun p hp => (h1 p hp).moved hvm, fun q hm => (h2 q hm).moved hvm, fun q hm => hR q hm (h3 q hm), fun q hm => hN q hm (h5 q hm), fun q hm => (h6 q hm).moved hvm, adV, h4.moved hvm⟩
-- what must be known of the tables
def x_lk (T : List Jvm.Cond) (own : String) (idx : Nat) (q : String × String × String × Bool) : Prop := Jvm.Cond.fieldLink own idx q.1 q.2.1 q.2.2.1 ∈ T ∨ ∃ host, Jvm.Cond.fieldLinkNest own idx q.1 q.2.1 q.2.2.1 host ∈ T
def x_tag (t : Nat) (ty : FieldType) : Prop := (t = 0 ∧ ty = .int) ∨ (t = 1 ∧ ty = .long) ∨ (t = 2 ∧ ty = .boolean) ∨ (t = 3 ∧ ((∃ C, ty = .object C) ∨ ∃ z, ty = .array z))
/-- the kinds of object: their fields' words, types, names, first values -/
def x_CL (T : List Jvm.Cond) (cl : List vw_C) (tyf : Nat → Nat → FieldType) (df : Nat → List Value) : Prop := ∀ (ci : Nat) (C : String) (F : u_T) (N : Nat), cl[ci]? = some (C, F, N) →
  (∀ w ∈ u_ws C F N, w ∈ T) ∧ (∀ k, k < N → parseFieldDescriptor (F k).2.2.1 = some (tyf ci k)) ∧ (∀ a, a < N → ∀ b, b < N → a ≠ b → (F a).2.1 ≠ (F b).2.1) ∧ (∀ j, j < N → defaultValue (tyf ci j) = vp_V (df ci) j) ∧ (df ci).length = N
/-- a call's words: kinds as in x_inv -/
def x_lkC (os : xT) (T : List Jvm.Cond) (cl : List vw_C) (P : Nat → Option xM) (own : String) (idx : Nat) (q : Nat × Nat × Nat × Nat) : Prop :=
  ∃ M : xM, P q.1 = some M ∧ Jvm.Cond.initialized M.1.cls ∈ T ∧ Jvm.Cond.code M.1 M.2.1 M.2.2.1 M.2.2.2.1 ∈ T ∧ (M.1.cls ≠ "java/lang/invoke/MethodHandle" ∧ M.1.cls ≠ "java/lang/invoke/VarHandle" ∧ (parseMethodDescriptor M.1.desc).map (fun d => d.parameters.length) = some q.2.1) ∧
    (((q.2.2.1 = 1 ∨ q.2.2.1 = 2 ∨ q.2.2.1 = 3) ∧ Jvm.Cond.methodLink own idx M.1 ∈ T) ∨ ((q.2.2.1 = 4 ∨ q.2.2.1 = 5 ∨ q.2.2.1 = 6) ∧ ∃ host, (own, idx, M.1, host) ∈ os.2.2.1)) ∧
    ((q.2.2.1 = 1 ∨ q.2.2.1 = 4) → Jvm.Cond.instanceMethod M.1 ∈ T ∧ Jvm.Cond.selects M.1.cls M.1 M.1 ∈ T ∧ ∃ (F : u_T) (N : Nat), cl[q.2.2.2]? = some (M.1.cls, F, N)) ∧
    ((q.2.2.1 = 2 ∨ q.2.2.1 = 5) → M.1.name = "<init>" ∧ M.2.2.2.1 = none ∧ Jvm.Cond.instanceMethod M.1 ∈ T) ∧
    ((q.2.2.1 = 3 ∨ q.2.2.1 = 6) → Jvm.Cond.static M.1 ∈ T)
/-- the words of what is no method of ours -/
def x_lkB (T : List Jvm.Cond) (own : String) (idx k : Nat) : Prop :=
  (k = 7 ∧ Jvm.Cond.methodLink own idx arraycopyName ∈ T ∧ Jvm.Cond.native arraycopyName ∈ T ∧ Jvm.Cond.static arraycopyName ∈ T ∧ Jvm.Cond.initialized "java/lang/System" ∈ T) ∨
  (k = 10 ∧ Jvm.Cond.methodLink own idx Lib.Math.max.name ∈ T ∧ Jvm.Cond.static Lib.Math.max.name ∈ T ∧ Jvm.Cond.initialized "java/lang/Math" ∈ T ∧ Jvm.Cond.code Lib.Math.max.name Lib.Math.max.code 2 (some .int) ∈ T) ∨
  (k = 11 ∧ Jvm.Cond.methodLink own idx Lib.Math.min.name ∈ T ∧ Jvm.Cond.static Lib.Math.min.name ∈ T ∧ Jvm.Cond.initialized "java/lang/Math" ∈ T ∧ Jvm.Cond.code Lib.Math.min.name Lib.Math.min.code 2 (some .int) ∈ T) ∨
  (k = 12 ∧ Jvm.Cond.methodLink own idx Lib.MathLoose.max_long.x ∈ T ∧ Jvm.Cond.static Lib.MathLoose.max_long.x ∈ T ∧ Jvm.Cond.initialized "java/lang/Math" ∈ T ∧ Jvm.Cond.code Lib.MathLoose.max_long.x Lib.MathLoose.max_long.code 4 (some .long) ∈ T) ∨
  (k = 13 ∧ Jvm.Cond.methodLink own idx Lib.MathLoose.min_long.x ∈ T ∧ Jvm.Cond.static Lib.MathLoose.min_long.x ∈ T ∧ Jvm.Cond.initialized "java/lang/Math" ∈ T ∧ Jvm.Cond.code Lib.MathLoose.min_long.x Lib.MathLoose.min_long.code 4 (some .long) ∈ T) ∨
  (k = 14 ∧ Jvm.Cond.methodLink own idx Lib.MathLoose.abs_long.x ∈ T ∧ Jvm.Cond.static Lib.MathLoose.abs_long.x ∈ T ∧ Jvm.Cond.initialized "java/lang/Math" ∈ T ∧ Jvm.Cond.code Lib.MathLoose.abs_long.x Lib.MathLoose.abs_long.code 2 (some .long) ∈ T)
/-- length and charAt of a text -/
def x_yL : MethodName := ⟨"java/lang/String", "length", "()I"⟩
def x_yC : MethodName := ⟨"java/lang/String", "charAt", "(I)C"⟩
def x_lkS (T : List Jvm.Cond) (own : String) (idx k : Nat) (cL cC : ByteArray) : Prop :=
  (k = 8 ∧ Jvm.Cond.methodLink own idx x_yL ∈ T ∧ Jvm.Cond.initialized "java/lang/String" ∈ T ∧ Jvm.Cond.code x_yL cL 1 (some .int) ∈ T ∧ Jvm.Cond.instanceMethod x_yL ∈ T ∧ Jvm.Cond.selects "java/lang/String" x_yL x_yL ∈ T) ∨
  (k = 9 ∧ Jvm.Cond.methodLink own idx x_yC ∈ T ∧ Jvm.Cond.initialized "java/lang/String" ∈ T ∧ Jvm.Cond.code x_yC cC 2 (some .char) ∈ T ∧ Jvm.Cond.instanceMethod x_yC ∈ T ∧ Jvm.Cond.selects "java/lang/String" x_yC x_yC ∈ T)
def x_okI (os : xT) (cL cC : ByteArray) (T : List Jvm.Cond) (cl : List vw_C) (tyf : Nat → Nat → FieldType) (tyl : List FieldType) (P : Nat → Option xM) (M : xM) (pc : Nat) (x : xI) : Prop :=
  decode M.2.1 pc = .ok (x.1, x.2.1) ∧ x_stok x.1 M.2.2.1 ∧ match x.1 with
  | .getfield idx => ∃ (C : String) (F : u_T) (N : Nat), cl[x.2.2.1.1]? = some (C, F, N) ∧ x.2.2.1.2.1 < N ∧ x_lk T M.1.cls idx (F x.2.2.1.2.1)
  | .putfield idx => ∃ (C : String) (F : u_T) (N : Nat), cl[x.2.2.1.1]? = some (C, F, N) ∧ x.2.2.1.2.1 < N ∧ x_tag x.2.2.1.2.2.1 (tyf x.2.2.1.1 x.2.2.1.2.1) ∧
      (((F x.2.2.1.2.1).2.2.2 = false ∧ x_lk T M.1.cls idx (F x.2.2.1.2.1)) ∨ ((F x.2.2.1.2.1).2.2.2 = true ∧ M.1.name = "<init>" ∧ (F x.2.2.1.2.1).1 = M.1.cls ∧ Jvm.Cond.fieldLink M.1.cls idx (F x.2.2.1.2.1).1 (F x.2.2.1.2.1).2.1 (F x.2.2.1.2.1).2.2.1 ∈ T))
  | .new idx => ∃ (C : String) (F : u_T) (N : Nat), cl[x.2.2.1.1]? = some (C, F, N) ∧ Jvm.Cond.classLink M.1.cls idx C ∈ T ∧ Jvm.Cond.instantiable C N ∈ T ∧ Jvm.Cond.initialized C ∈ T
  | .newarray t => Jvm.Cond.arrayClass (newarray.typeOf t) ∈ T ∧ newarray.typeOf t ∈ tyl
  | .ldc idx => (∃ v, x.2.2.2.1 = .int v ∧ Jvm.Cond.constant M.1.cls idx v ∈ T) ∨ ∃ tx p, x.2.2.2.1 = .ref p ∧ p < 8 ∧ (M.1.cls, idx, tx, p) ∈ os.2.1
  | .ldc_w idx => ∃ v, x.2.2.2.1 = .int v ∧ Jvm.Cond.constant M.1.cls idx v ∈ T
  | .getstatic idx => ∃ C n d, (C, n, d, x.2.2.1.1) ∈ os.1 ∧ x_lk T M.1.cls idx (C, n, d, true)
  | .ldc2_w idx => ∃ v, x.2.2.2.1 = .long v ∧ Jvm.Cond.constantLong M.1.cls idx v ∈ T
  | .invokevirtual idx => x_lkS T M.1.cls idx x.2.2.1.2.2.1 cL cC ∨ (x.2.2.1.2.2.1 = 1 ∨ x.2.2.1.2.2.1 = 4) ∧ x_lkC os T cl P M.1.cls idx x.2.2.1
  | .invokespecial idx => (x.2.2.1.2.2.1 = 0 ∧ Jvm.Cond.methodLink M.1.cls idx objectInit ∈ T ∧ Jvm.Cond.instanceMethod objectInit ∈ T ∧ Jvm.Cond.code objectInit ⟨#[0xb1]⟩ 1 none ∈ T) ∨ ((x.2.2.1.2.2.1 = 2 ∨ x.2.2.1.2.2.1 = 5) ∧ x_lkC os T cl P M.1.cls idx x.2.2.1)
  | .invokestatic idx => x_lkB T M.1.cls idx x.2.2.1.2.2.1 ∨ (x.2.2.1.2.2.1 = 3 ∨ x.2.2.1.2.2.1 = 6) ∧ x_lkC os T cl P M.1.cls idx x.2.2.1
  | _ => True
/-- what holds of a frame of the method M that began at the state s with the cells u0 -/
def x_Fix (os : xT) (T : List Jvm.Cond) (D : va_G) (cl : List vw_C) (tyl : List FieldType) (ca : FieldType → ClassId) (b0 : Nat → Nat) (b : Nat) (scr : xZ) (u0 : List xC) (M : xM) (p : Program) (s : State) (m : MethodId) (args : Array Value) (meth : Method) (c : Code) : Prop :=
  p.tables.exec = Jvm.exec ∧ c.code = M.2.1 ∧ c.maxLocals = M.2.2.1 ∧ meth.sig.returnType = M.2.2.2.1 ∧ meth.name = M.1.name ∧ s.vm.findClass M.1.cls = some m.cls ∧ (∀ w ∈ T, w.before args s = true) ∧ va_K D cl (tyl.map fun t => (ca t, t)) s ∧ x_O os b0 b scr s s.heap ∧ s.heap.size = b + u0.length ∧ meth.locks = false
