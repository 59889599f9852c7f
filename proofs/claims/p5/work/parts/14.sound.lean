def x_w (T : List Jvm.Cond) (M : xM) : List Jvm.Cond := .code M.1 M.2.1 M.2.2.1 M.2.2.2.1 :: T
def x_rm (K d mc ms : Nat) : Room := { frames := d, cells := mc, slots := ms, locals := d * K }
def x_Pc (os : xT) (D : va_G) (cl : List vw_C) (tyl : List FieldType) (ca : FieldType → ClassId) (b0 : Nat → Nat) (b : Nat) (scr : xZ) (As : List Value) (u : List xC) : Array Value → State → Prop :=
  va_Pc (As.map (x_v b0 b)) (fun U => U.heap.size = b + u.length ∧ va_P D cl (x_ws ca b0 b b u) U.heap ∧ va_K D cl (tyl.map fun t => (ca t, t)) U ∧ x_O os b0 b scr U U.heap)
def x_Qc (D : va_G) (cl : List vw_C) (tyl : List FieldType) (ca : FieldType → ClassId) (b0 : Nat → Nat) (b : Nat) (z : xR) : Array Value → State → Outcome → State → Prop :=
  fun _ st oc t => oc = .returned (z.1.map (x_v b0 b)) ∧ va_P D cl (x_ws ca b0 b b z.2) t.heap ∧ va_F (fun q => b ≤ q) st t ∧ x_oku tyl z.2
/-- the contract of a method out of its run over the cells -/
def x_MetOf (os : xT) (l : Launch) (T : List Jvm.Cond) (K : Nat) (D : va_G) (cl : List vw_C) (tyl : List FieldType) (ca : FieldType → ClassId) (b0 : Nat → Nat) (b : Nat) (scr : xZ) (d : Nat) (M : xM) (As : List Value) (u : List xC) (z : xR) : Prop :=
  Met l M.1 (x_w T M) (x_rm K d (z.2.length - u.length) (x_sz z.2 - x_sz u)) (x_Pc os D cl tyl ca b0 b scr As u) (x_Qc D cl tyl ca b0 b z) (z.2.length - u.length) (x_sz z.2 - x_sz u) (fun q => b ≤ q)
theorem x_Pc_blind {os : xT} {D : va_G} {cl : List vw_C} {tyl : List FieldType} {ca : FieldType → ClassId} {b0 : Nat → Nat} {b : Nat} {scr : xZ} {As : List Value} {u : List xC} : FrameBlind (x_Pc os D cl tyl ca b0 b scr As u) := by
  intro a U g mk q
  obtain ⟨q0, q1, qP, qK, qX⟩ := q
  exact ⟨q0, q1, qP, va_K.moved (u := U) (U := U.calling g mk a) (Vm.Alike.refl U.vm) qK, x_O.moved (u := U) (U := U.calling g mk a) (Vm.Alike.refl U.vm) (fun _ _ h => h.same rfl) (fun _ _ h => h.same rfl rfl) qX⟩
theorem x_cats (b0 : Nat → Nat) (b : Nat) (r : List Value) : ((r.map (x_v b0 b)).map fun v => v.category) = r.map fun v => v.category := by
  rw [List.map_map]
  exact List.map_congr_left fun v _ => x_v_cat b0 b v
theorem x_sl_len : ∀ vs : List Value, (lg_sl vs).length = (vs.map fun v => v.category).sum
  | [] => rfl
  | v :: vs => by
    have h := x_sl_len vs
    unfold lg_sl at h ⊢
    rw [List.flatMap_cons, List.length_append, h, List.map_cons, List.sum_cons]
    rcases lv_cat v with hc | hc <;> simp [hc]
theorem x_lv_args (b0 : Nat → Nat) (b : Nat) : ∀ (As : List Value) (i : Nat), lv_args i (As.map (x_v b0 b)) = x_lv b0 b (lv_args i As)
  | [], _ => rfl
  | v :: vs, i => by
    have h := x_lv_args b0 b vs (if v.category = 2 then i + 2 else i + 1)
    simp only [List.map_cons, lv_args, x_v_cat, h]
    rfl
theorem x_args_inv {n : Nat} {st As r : List Value} (h : x_args n st = some (As, r)) : As.length = n ∧ st = As.reverse ++ r := by
  unfold x_args at h
  split at h
  · rename_i hn
    have h1 := Option.some.inj h
    have h2 : (st.take n).reverse = As := congrArg Prod.fst h1
    have h3 : st.drop n = r := congrArg Prod.snd h1
    subst h2
    subst h3
    refine ⟨by rw [List.length_reverse, List.length_take]; omega, ?_⟩
    rw [List.reverse_reverse, List.take_append_drop]
  · exact x_no h
theorem x_low_inv {ρ : Type} {res : ρ} {r : List Value} {a : Option ρ} (h : x_low r a = some res) : (r.map fun v => v.category).sum ≤ 8 ∧ a = some res := by
  unfold x_low at h
  split at h
  · exact ⟨by assumption, h⟩
  · exact x_no h
/-- the three ways of a call -/
theorem x_inv_inv {ρ : Type} {res : ρ} {scr : xZ} {call : Nat → List Value → List xC → Option xR} {d n pc : Nat} {q : Nat × Nat × Nat × Nat} {st : List Value} {u : List xC} {k : Nat → List Value → List xC → Option ρ} (hq : ¬ 7 ≤ q.2.2.1) (h : x_inv scr call d q n pc st u k = some res) : n = 3 ∧
    ((q.2.2.1 = 0 ∧ ¬ d = 0 ∧ ∃ p0 r, st = .ref (p0 + 8) :: r ∧ (r.map fun v => v.category).sum ≤ 8 ∧ k (pc + 3) r u = some res) ∨
    ((q.2.2.1 = 3 ∨ q.2.2.1 = 6) ∧ ∃ As r z, As.length = q.2.1 ∧ st = As.reverse ++ r ∧ (r.map fun v => v.category).sum ≤ 8 ∧ call q.1 As u = some z ∧ k (pc + 3) (z.1.toList ++ r) z.2 = some res) ∨
    (¬ (q.2.2.1 = 3 ∨ q.2.2.1 = 6) ∧ ¬ q.2.2.1 = 0 ∧ ∃ As p0 r fs z, As.length = q.2.1 ∧ st = As.reverse ++ .ref (p0 + 8) :: r ∧ u[p0]? = some (.inr (q.2.2.2, fs)) ∧ (r.map fun v => v.category).sum ≤ 8 ∧ call q.1 (.ref (p0 + 8) :: As) u = some z ∧ k (pc + 3) (z.1.toList ++ r) z.2 = some res)) := by
  unfold x_inv at h
  split at h
  · rename_i hn
    refine ⟨hn, ?_⟩
    try rw [if_neg hq] at h
    split at h
    · rename_i h0
      split at h
      · split at h
        · exact x_no h
        · obtain ⟨h1, h⟩ := x_low_inv h
          exact .inl ⟨h0, by assumption, _, _, rfl, h1, h⟩
      · exact x_no h
    · rename_i h0
      split at h
      · rename_i h3
        split at h
        · rename_i ha
          obtain ⟨h1, h2⟩ := x_args_inv ha
          obtain ⟨h4, h⟩ := x_low_inv h
          obtain ⟨z, h5, h⟩ := Option.bind_eq_some_iff.mp h
          exact .inr (.inl ⟨h3, _, _, z, h1, h2, h4, h5, h⟩)
        · exact x_no h
      · rename_i h3
        split at h
        · rename_i ha
          obtain ⟨h1, h2⟩ := x_args_inv ha
          split at h
          · rename_i hu
            split at h
            · rename_i hc
              subst hc
              obtain ⟨h4, h⟩ := x_low_inv h
              obtain ⟨z, h5, h⟩ := Option.bind_eq_some_iff.mp h
              exact .inr (.inr ⟨h3, h0, _, _, _, _, z, h1, h2, hu, h4, h5, h⟩)
            · exact x_no h
          · exact x_no h
        · exact x_no h
  · exact x_no h
/-- what is no method of ours -/
theorem x_bi_inv {ρ : Type} {res : ρ} {scr : xZ} {call : Nat → List Value → List xC → Option xR} {d n pc : Nat} {q : Nat × Nat × Nat × Nat} {st : List Value} {u : List xC} {k : Nat → List Value → List xC → Option ρ} (hq : 7 ≤ q.2.2.1) (h : x_inv scr call d q n pc st u k = some res) : n = 3 ∧ 12 ≤ d ∧
    ((q.2.2.1 = 7 ∧ x_cp scr st u (fun r h => x_low r (k (pc + 3) r h)) = some res) ∨ (8 ≤ q.2.2.1 ∧ q.2.2.1 ≤ 9 ∧ x_tx scr q.2.2.1 st (fun st => x_low (st.drop 1) (k (pc + 3) st u)) = some res) ∨ (10 ≤ q.2.2.1 ∧ x_ma q.2.2.1 st (fun st => x_low (st.drop 1) (k (pc + 3) st u)) = some res)) := by
  unfold x_inv at h
  split at h
  · rename_i hn
    try rw [if_pos hq] at h
    split at h
    · exact x_no h
    · rename_i hd
      refine ⟨hn, by omega, ?_⟩
      split at h
      · exact .inl ⟨by assumption, h⟩
      · split at h
        · exact .inr (.inl ⟨by omega, by assumption, h⟩)
        · exact .inr (.inr ⟨by omega, h⟩)
  · exact x_no h
theorem x_cpi_inv {ρ : Type} {res : ρ} {n sp dp : Int32} {N0 N1 : Nat} {a : Option ρ} (h : x_cpi n sp dp N0 N1 a = some res) : (¬ sp < 0 ∧ ¬ dp < 0 ∧ ¬ n < 0 ∧ sp.toNatClampNeg + n.toNatClampNeg ≤ N0 ∧ dp.toNatClampNeg + n.toNatClampNeg ≤ N1) ∧ a = some res := by
  unfold x_cpi at h
  split at h
  · exact x_no h
  · rename_i h1
    split at h
    · rename_i h2
      exact ⟨⟨fun z => h1 (.inr (.inl z)), fun z => h1 (.inr (.inr z)), fun z => h1 (.inl z), h2.1, h2.2⟩, h⟩
    · exact x_no h
theorem x_cp_inv {ρ : Type} {res : ρ} {scr : xZ} {st : List Value} {u : List xC} {k : List Value → List xC → Option ρ} (h : x_cp scr st u k = some res) : ∃ n dp p1 sp p0 r, st = .int n :: .int dp :: .ref (p1 + 8) :: .int sp :: .ref p0 :: r ∧ ¬ sp < 0 ∧ ¬ dp < 0 ∧ ¬ n < 0 ∧
    ((∃ N1 g N0 f, u[p1]? = some (.inl (.int, N1, .inl g)) ∧ sp.toNatClampNeg + n.toNatClampNeg ≤ N0 ∧ dp.toNatClampNeg + n.toNatClampNeg ≤ N1 ∧ ((∃ p2, p0 = p2 + 8 ∧ u[p2]? = some (.inl (.int, N0, .inl f))) ∨ (p0 < 4 ∧ N0 = (scr.1 p0).1 ∧ f = (scr.1 p0).2)) ∧ k r (u.set p1 (.inl (.int, N1, .inl (va_cpy f g sp.toNatClampNeg dp.toNatClampNeg n.toNatClampNeg)))) = some res) ∨
    (∃ N1 g N0 f p2, u[p1]? = some (.inl (.long, N1, .inr (.inl g))) ∧ sp.toNatClampNeg + n.toNatClampNeg ≤ N0 ∧ dp.toNatClampNeg + n.toNatClampNeg ≤ N1 ∧ p0 = p2 + 8 ∧ u[p2]? = some (.inl (.long, N0, .inr (.inl f))) ∧ k r (u.set p1 (.inl (.long, N1, .inr (.inl (va_cpy f g sp.toNatClampNeg dp.toNatClampNeg n.toNatClampNeg))))) = some res)) := by
  unfold x_cp at h
  split at h
  · rename_i n dp p1 sp p0 r
    split at h
    · rename_i N1 g hu
      unfold x_src at h
      split at h
      · split at h
        · obtain ⟨⟨h1, h2, h3, h4, h5⟩, h⟩ := x_cpi_inv h
          exact ⟨_, _, _, _, _, _, rfl, h1, h2, h3, .inl ⟨_, _, _, _, hu, h4, h5, .inl ⟨_, rfl, by assumption⟩, h⟩⟩
        · exact x_no h
      · split at h
        · obtain ⟨⟨h1, h2, h3, h4, h5⟩, h⟩ := x_cpi_inv h
          exact ⟨_, _, _, _, _, _, rfl, h1, h2, h3, .inl ⟨_, _, _, _, hu, h4, h5, .inr ⟨by assumption, rfl, rfl⟩, h⟩⟩
        · exact x_no h
    · rename_i N1 g hu
      unfold x_srcl at h
      split at h
      · split at h
        · obtain ⟨⟨h1, h2, h3, h4, h5⟩, h⟩ := x_cpi_inv h
          exact ⟨_, _, _, _, _, _, rfl, h1, h2, h3, .inr ⟨_, _, _, _, _, hu, h4, h5, rfl, by assumption, h⟩⟩
        · exact x_no h
      · exact x_no h
    · exact x_no h
  · exact x_no h
section
variable {p : Program} {l : Launch} {e : Env} {R : Room} {s : State} {m : MethodId} {args : Array Value} {below : List Frame} {meth : Method} {c : Code} {H : Heap} {locs : List Loc} {cells slots : Nat} {Q : State → Prop}
variable {pc : Nat} {ls : Array Slot} {res : xR}
variable {os : xT} {cL cC : ByteArray} {T : List Jvm.Cond} {D : va_G} {cl : List vw_C} {tyf : Nat → Nat → FieldType} {tyl : List FieldType} {ca : FieldType → ClassId} {b0 : Nat → Nat} {b : Nat} {scr : xZ} {df : Nat → List Value} {P : Nat → Option xM} {u0 u : List xC} {M : xM} {x : xI} {st : List Value}
/-- System.arraycopy out of an old row of ints -/
theorem x_copyt {ws : va_W} {A : Nat → Prop} {tys : List (ClassId × FieldType)} {rest : List Value} {a : Nat} {cc : ByteArray} (hexec : p.tables.exec = Jvm.exec) (hb : c.code = cc) (hml : c.maxLocals = ls.size) {own : String} {index : Nat} (hown : s.vm.findClass own = some m.cls) (w1 : (Jvm.Cond.methodLink own index arraycopyName).before args s = true) (w2 : (Jvm.Cond.native arraycopyName).before args s = true) (w3 : (Jvm.Cond.static arraycopyName).before args s = true) (w4 : (Jvm.Cond.initialized "java/lang/System").before args s = true)
    (hK : va_K D cl tys s) (hP : va_P D cl ws H) (hD : va_D A ws) (hS : va_S A s.heap H locs) {o n0 : Nat} {f : Nat → Int32} (hX : va_T .int o n0 (fun j => .int (f j)) A s s.heap) (q1 t1 : Nat) {c1 : ClassId} {n1 : Nat} {g : Nat → Int32} (ha1 : ws[q1]? = some (a, .inl (c1, n1, .inl g))) (ht1 : tys[t1]? = some (c1, .int))
    {sp dp n : Int32} (h1 : ¬ sp < 0) (h2 : ¬ dp < 0) (h3 : ¬ n < 0) (h4 : sp.toNatClampNeg + n.toNatClampNeg ≤ n0) (h5 : dp.toNatClampNeg + n.toNatClampNeg ≤ n1)
    (hfr : 1 ≤ R.frames) (hlo : (rest.map fun v => v.category).sum + (nativeFrameWords "java/lang/System" "arraycopy" 5 + 11) ≤ R.locals) (hd : decode cc pc = .ok (.invokestatic index, 3))
    (kk : ∀ (H1 : Heap) (locs1 : List Loc), va_P D cl (ws.set q1 (a, .inl (c1, n1, .inl (va_cpy f g sp.toNatClampNeg dp.toNatClampNeg n.toNatClampNeg)))) H1 → va_D A (ws.set q1 (a, .inl (c1, n1, .inl (va_cpy f g sp.toNatClampNeg dp.toNatClampNeg n.toNatClampNeg)))) → va_S A s.heap H1 locs1 → W p l e R s m args below meth c H1 locs1 cells slots Q (F0 m (pc + 3) ls rest)) : W p l e R s m args below meth c H locs cells slots Q (F0 m pc ls (.int n :: .int dp :: .ref a :: .int sp :: .ref o :: rest)) := by
  have nat : ∀ z : Int32, ¬ z < 0 → z.toInt = (z.toNatClampNeg : Int) := fun z hz => by
    have h9 : (0 : Int) ≤ z.toInt := by simpa using Int32.le_iff_toInt_le.mp (Int32.not_lt.mp hz)
    show z.toInt = ((z.toInt.toNat : Nat) : Int)
    omega
  intro T hT X
  obtain ⟨old, o1, ⟨o2, k0, o3, _, o4⟩, o5, o6, -, o7, o8⟩ := hX
  have hold : H[o]? = some old := (hS.2.1 o (Array.getElem?_eq_some_iff.mp o1).1 o8).trans o1
  have hnew : H[a]? = some (vp_cell c1 (n1, .inl g)) := hP q1 _ ha1
  obtain ⟨-, k1, n3, _, n4⟩ := (hK.2 t1 _ ht1).1 n1 (fun j => .int (g j))
  obtain ⟨vm', X', step⟩ := X.arraycopy hexec hown w1 w2 w3 w4 (src := o) (dst := a) (cs := old) (cd := vp_cell c1 (n1, .inl g)) (srcPos := sp) (destPos := dp) (n := n) (by rw [hT]; exact hold) (by rw [hT]; exact hnew) o2 (fun _ h => by cases h) o5 (fun h => by cases h) o3 n3 o4 n4 (by simp [refKind]) h1 h2 h3
    (by rw [nat sp h1, nat n h3]; omega)
    (by rw [nat dp h2, nat n h3]; show ¬ _ > ((arrV c1 n1 (fun j => .int (g j))).slots.size : Int); rw [arrV_size]; omega)
    (fun _ _ i hi => by
      have e : old.slots.getD (sp.toNatClampNeg + i) .null = .int (f (sp.toNatClampNeg + i)) := by rw [Array.getD_eq_getD_getElem?, o7 _ (by omega)]; rfl
      exact ⟨by rw [e]; rfl, by rw [e]; exact trivial⟩)
    (g := F0 m pc ls (.int n :: .int dp :: .ref a :: .int sp :: .ref o :: rest)) rfl (by rw [hml]) (rest := rest) rfl (by rw [hb]; exact hd) hfr (by show 2 * 0 + _ + _ ≤ _; omega)
  rw [show copied old (vp_cell c1 (n1, .inl g)) sp dp n = vp_cell c1 (n1, .inl (va_cpy f g sp.toNatClampNeg dp.toNatClampNeg n.toNatClampNeg)) from va_copiedX (fun z => .int z) old c1 f g o7 h4] at X' step
  have hl : a < H.size := (Array.getElem?_eq_some_iff.mp hnew).1
  have oq : ∀ q : Nat, q ≠ a → (H.setIfInBounds a (vp_cell c1 (n1, .inl (va_cpy f g sp.toNatClampNeg dp.toNatClampNeg n.toNatClampNeg))))[q]? = H[q]? := fun q hq => by simp [Array.getElem?_setIfInBounds, Ne.symm hq]
  obtain ⟨t, a1, b1⟩ := kk _ _ (hP.set hD ha1 (show (H.setIfInBounds a _)[a]? = some _ by simp [Array.getElem?_setIfInBounds, hl]) oq) (hD.set ha1) ⟨by simp; exact hS.1, fun q g1 g2 => (oq q (fun e => g2 (by rw [e]; exact hD.2 q1 _ ha1))).trans (hS.2.1 q g1 g2), fun q hq => by
      rcases List.mem_append.mp hq with h | h
      · exact hS.2.2 q h
      · obtain ⟨z, -, rfl⟩ := List.mem_map.mp h
        exact hD.2 q1 _ ha1⟩ ((T.setVm vm').setCell a (vp_cell c1 (n1, .inl (va_cpy f g sp.toNatClampNeg dp.toNatClampNeg n.toNatClampNeg)))) (by rw [← hT]; rfl) X'
  exact ⟨t, step t a1, b1⟩
theorem x_callR {z : xR} {mc ms : Nat} {st0 rest : List Value} {arr : Array Value} (hr : va_Run p l e R s m args below meth c H locs cells slots mc ms (F0 m pc ls st0) rest (x_Qc D cl tyl ca b0 b z arr) (fun q => b ≤ q)) (hS : va_S (fun q => b ≤ q) s.heap H locs)
    (kk : ∀ (H1 : Heap) (locs1 : List Loc), va_P D cl (x_ws ca b0 b b z.2) H1 → va_S (fun q => b ≤ q) s.heap H1 locs1 → x_oku tyl z.2 → W p l e R s m args below meth c H1 locs1 (cells + mc) (slots + ms) Q (F0 m (pc + 3) ls ((z.1.map (x_v b0 b)).toList ++ rest))) : W p l e R s m args below meth c H locs cells slots Q (F0 m pc ls st0) := by
  intro T hT X
  obtain ⟨v, st₀, t, T', L, h0, X', hL, e1, e2, ⟨hv, hp, ⟨hz, hk⟩, hu⟩, st⟩ := hr T hT X
  cases hv
  rw [h0] at hz hk
  obtain ⟨t2, a1, b1⟩ := kk T'.heap (locs ++ L) (by rw [e1]; exact hp)
    ⟨Nat.le_trans hS.1 (by rw [e1]; exact hz), fun q h1 h2 => by rw [e1, hk q (Nat.lt_of_lt_of_le h1 hS.1) h2]; exact hS.2.1 q h1 h2, fun q hq => by
      rcases List.mem_append.mp hq with h | h
      · exact hS.2.2 q h
      · exact hL q h⟩ hu T' rfl X'
  exact ⟨t2, st t2 a1, b1⟩
theorem x_lower (hP : va_P D cl (x_ws ca b0 b b u) H) (h : b ≤ H.size) : b + u.length ≤ H.size := by
  cases hu : u.length with
  | zero => omega
  | succ k =>
    have hk : k < u.length := by omega
    have h1 := x_has (hP k _ (x_ws_at (List.getElem?_eq_getElem hk)))
    omega
set_option maxHeartbeats 8000000 in
/-- a call -/
theorem x_inv_ok {K d : Nat} {call : Nat → List Value → List xC → Option xR} {k : Nat → List Value → List xC → Option xR}
    (hT : ∀ w ∈ T, (w.onTables && w.keeps) = true ∨ ∃ ty, w = .arrayClass ty) (hKm : ∀ (j : Nat) (M' : xM), P j = some M' → M'.2.2.1 + 19 ≤ K) (hK20 : 20 ≤ K)
    (hcall : ∀ (j : Nat) (As : List Value) (u : List xC) (z : xR) (M' : xM), call j As u = some z → P j = some M' → x_oku tyl u → ∃ d', d = d' + 1 ∧ u.length ≤ z.2.length ∧ x_sz u ≤ x_sz z.2 ∧ x_MetOf os l T K D cl tyl ca b0 b scr d' M' As u z)
    (hF : x_Fix os T D cl tyl ca b0 b scr u0 M p s m args meth c) (hok : x_okI os cL cC T cl tyf tyl P M pc x) (hki : x_kind x.1 = 4) (hq7 : ¬ 7 ≤ x.2.2.1.2.2.1) (hI : x_Inv D cl tyl ca b0 b s u0 u H locs cells slots) (hls : ls.size = M.2.2.1) (hdR : d ≤ R.frames) (hdL : d * K ≤ R.locals)
    (h : x_inv scr call d x.2.2.1 x.2.1 pc st u k = some res)
    (hroom : ∀ pc' st' u', k pc' st' u' = some res → u'.length ≤ R.cells + u0.length ∧ x_sz u' ≤ R.slots + x_sz u0)
    (kk : ∀ pc' st' u' H' locs' cells' slots', k pc' st' u' = some res → x_Inv D cl tyl ca b0 b s u0 u' H' locs' cells' slots' → W p l e R s m args below meth c H' locs' cells' slots' Q (F0 m pc' ls (st'.map (x_v b0 b)))) :
    W p l e R s m args below meth c H locs cells slots Q (F0 m pc ls (st.map (x_v b0 b))) := by
  obtain ⟨hx, hb, hml, hr, hmn, hown, hts, hKK, hX, hsz, hlocks⟩ := hF
  obtain ⟨hP, hS, hc1, hc2, hu⟩ := hI
  obtain ⟨i, n, q, cst⟩ := x
  obtain ⟨hd, -, hok⟩ := hok
  dsimp only at h hki hd hq7
  replace h := x_inv_inv hq7 h
  obtain ⟨hn3, h⟩ := h
  subst hn3
  refine x_size (fun hz0 => ?_)
  have hlow : b + u.length ≤ H.size := x_lower hP (by have := hS.1; omega)
  have hHs : H.size = b + u.length := by omega
  have hXH : x_O os b0 b scr s H := hX.kept hS.2.1
  have hpre : ∀ (As : List Value) (U : State), U.heap = H → s.WarmedH U.vm → x_Pc os D cl tyl ca b0 b scr As u (As.map (x_v b0 b)).toArray U := fun As U hU hW => ⟨rfl, by rw [hU]; exact hHs, by rw [hU]; exact hP, va_K.moved hW.alike hKK, by rw [hU]; exact hXH.moved hW.alike (fun _ _ h9 => h9.warm hW) (fun _ _ h9 => h9.warmM hW)⟩
  have hG : ∀ M' : xM, Jvm.Cond.code M'.1 M'.2.1 M'.2.2.1 M'.2.2.2.1 ∈ T → GoodIn T (x_w T M') := by
    intro M' hM' w hw
    rcases List.mem_cons.mp hw with rfl | hw
    · exact ⟨hM', hT _ hM'⟩
    · exact ⟨hw, hT _ hw⟩
  have hFix : CallFix p m c M.2.1 M.2.2.1 s args T M.1.cls := ⟨hx, hb, hml, hown, hts⟩
  have hcat : ∀ r : List Value, (r.map fun v => v.category).sum ≤ 8 → 2 * (F0 m pc ls (st.map (x_v b0 b))).monitorRoom + ((r.map (x_v b0 b)).map fun v => v.category).sum ≤ 8 := fun r hr8 => lv_room (by rw [x_cats]; exact hr8)
  -- what follows behind the callee
  have hgo : ∀ (r : List Value) (z : xR) (arr : Array Value), k (pc + 3) (z.1.toList ++ r) z.2 = some res → u.length ≤ z.2.length → x_sz u ≤ x_sz z.2 →
      va_Run p l e R s m args below meth c H locs cells slots (z.2.length - u.length) (x_sz z.2 - x_sz u) (F0 m pc ls (st.map (x_v b0 b))) (r.map (x_v b0 b)) (x_Qc D cl tyl ca b0 b z arr) (fun q => b ≤ q) → W p l e R s m args below meth c H locs cells slots Q (F0 m pc ls (st.map (x_v b0 b))) := by
    intro r z arr hk h1 h2 hrun
    refine x_callR hrun hS (fun H1 locs1 hP1 hS1 hu1 => ?_)
    rw [show (z.1.map (x_v b0 b)).toList ++ r.map (x_v b0 b) = (z.1.toList ++ r).map (x_v b0 b) by cases z.1 <;> simp]
    exact kk _ _ _ _ _ _ _ hk ⟨hP1, hS1, by omega, by omega, hu1⟩
  have hfit : ∀ (r : List Value) (z : xR), k (pc + 3) (z.1.toList ++ r) z.2 = some res → u.length ≤ z.2.length → x_sz u ≤ x_sz z.2 → cells + (z.2.length - u.length) ≤ R.cells ∧ slots + (x_sz z.2 - x_sz u) ≤ R.slots := by
    intro r z hk h1 h2
    obtain ⟨r1, r2⟩ := hroom _ _ _ hk
    exact ⟨by omega, by omega⟩
  have hRm : ∀ (d' mc ms : Nat) (M' : xM), d = d' + 1 → M'.2.2.1 + 19 ≤ K → (x_rm K d' mc ms).frames + 1 ≤ R.frames ∧ 8 + (M'.2.2.1 + 11) + (x_rm K d' mc ms).locals ≤ R.locals := by
    intro d' mc ms M' h1 h2
    subst h1
    refine ⟨hdR, ?_⟩
    show 8 + (M'.2.2.1 + 11) + d' * K ≤ R.locals
    rw [Nat.add_mul] at hdL
    omega
  cases i with
  | invokestatic idx =>
    rcases hok with hok | hok
    · exfalso; apply hq7; dsimp only at hok; rcases hok with ⟨h9, -⟩ | ⟨h9, -⟩ | ⟨h9, -⟩ | ⟨h9, -⟩ | ⟨h9, -⟩ | ⟨h9, -⟩ <;> rw [h9] <;> decide
    obtain ⟨hk3, M', hM', hini, hcode, hnm, hlink, -, -, hst⟩ := hok
    rcases h with ⟨h0, -⟩ | ⟨-, As, r, z, h1, rfl, h3, h4, h5⟩ | ⟨h0, -⟩
    · exfalso; rcases hk3 with h9 | h9 <;> exact absurd (h0.symm.trans h9) (by decide)
    · obtain ⟨d', h6, h7, h8, hMet⟩ := hcall _ _ _ _ _ h4 hM' hu
      refine hgo r z (As.map (x_v b0 b)).toArray h5 h7 h8 ?_
      rcases hlink with ⟨-, hl⟩ | ⟨-, host, hl⟩
      · exact va_runS hFix hMet ⟨callB_of q.2.1 hts (hG M' hcode) rfl rfl rfl (hts _ hini) (hts _ hl) hnm (hRm _ _ _ M' h6 (hKm _ _ hM')), hts _ (hst hk3)⟩ ⟨x_Pc_blind, hpre As⟩ rfl (by rw [List.length_map]; exact h1) hls (by show List.map _ _ = _; rw [List.map_append, List.map_reverse]) (hcat r h3) hd (hfit r z h5 h7 h8)
      · exact va_runSN hFix hMet ⟨va_cnB q.2.1 hts (hG M' hcode) rfl rfl rfl (hX.2.2.2.1 _ hl) (hts _ hini) hnm (hRm _ _ _ M' h6 (hKm _ _ hM')), hts _ (hst hk3), trivial⟩ ⟨x_Pc_blind, hpre As⟩ rfl (by rw [List.length_map]; exact h1) hls (by show List.map _ _ = _; rw [List.map_append, List.map_reverse]) (hcat r h3) hd (hfit r z h5 h7 h8)
    · exact absurd hk3 h0
  | invokevirtual idx =>
    rcases hok with hok | hok
    · exfalso; apply hq7; dsimp only at hok; rcases hok with ⟨h9, -⟩ | ⟨h9, -⟩ <;> rw [h9] <;> decide
    obtain ⟨hk3, M', hM', hini, hcode, hnm, hlink, hvi, -, -⟩ := hok
    obtain ⟨v1, v2, F, N, v3⟩ := hvi hk3
    rcases h with ⟨h0, -⟩ | ⟨h0, -⟩ | ⟨-, -, As, p0, r, fs, z, h1, rfl, hcell, h3, h4, h5⟩
    · exfalso; rcases hk3 with h9 | h9 <;> exact absurd (h0.symm.trans h9) (by decide)
    · exfalso; rcases hk3 with h9 | h9 <;> rcases h0 with h0 | h0 <;> exact absurd (h0.symm.trans h9) (by decide)
    · obtain ⟨d', h6, h7, h8, hMet⟩ := hcall _ _ _ _ _ h4 hM' hu
      refine hgo r z ((Value.ref (p0 + 8) :: As).map (x_v b0 b)).toArray h5 h7 h8 ?_
      have hrecv : ∃ cellB : Cell, H[b + p0]? = some cellB ∧ cellB.vm.isStatics = false ∧ s.vm.findClass M'.1.cls = some cellB.cls := va_recv hKK hP v3 (x_ws_at hcell)
      rcases hlink with ⟨-, hl⟩ | ⟨-, host, hl⟩
      · exact va_runV (b := b + p0) (As := As.map (x_v b0 b)) hFix hMet ⟨callB_of q.2.1 hts (hG M' hcode) rfl rfl rfl (hts _ hini) (hts _ hl) hnm (hRm _ _ _ M' h6 (hKm _ _ hM')), hts _ v1, hts _ v2⟩ ⟨x_Pc_blind, hrecv, hpre (.ref (p0 + 8) :: As)⟩ rfl (by rw [List.length_map]; exact h1) hls (by show List.map _ _ = _; rw [List.map_append, List.map_reverse]; rfl) (hcat r h3) hd (hfit r z h5 h7 h8)
      · exact va_runVN (b := b + p0) (As := As.map (x_v b0 b)) hFix hMet ⟨va_cnB q.2.1 hts (hG M' hcode) rfl rfl rfl (hX.2.2.2.1 _ hl) (hts _ hini) hnm (hRm _ _ _ M' h6 (hKm _ _ hM')), hts _ v1, hts _ v2⟩ ⟨x_Pc_blind, hrecv, hpre (.ref (p0 + 8) :: As)⟩ rfl (by rw [List.length_map]; exact h1) hls (by show List.map _ _ = _; rw [List.map_append, List.map_reverse]; rfl) (hcat r h3) hd (hfit r z h5 h7 h8)
  | invokespecial idx =>
    rcases hok with ⟨hk0, o1, o2, o3⟩ | ⟨hk3, M', hM', hini, hcode, hnm, hlink, -, hvi, -⟩
    · dsimp only at hk0
      rcases h with ⟨-, hd0, p0, r, rfl, h3, h5⟩ | ⟨h0, -⟩ | ⟨-, h0, -⟩
      · have hRL : 20 ≤ R.locals := by
          have h9 : 1 * K ≤ d * K := Nat.mul_le_mul_right K (by omega)
          omega
        have h8 := hcat r h3
        refine W.objInit hx hb hown (hts _ o1) (hts _ o2) (hts _ o3) rfl (by show ls.size = _; rw [hml]; exact hls) rfl hd (by omega) (by omega) ?_
        refine W.eq (g2 := F0 m (pc + 3) ls (r.map (x_v b0 b))) rfl ?_
        exact kk _ _ _ _ _ _ _ h5 ⟨hP, hS, hc1, hc2, hu⟩
      · exfalso; rcases h0 with h0 | h0 <;> exact absurd (hk0.symm.trans h0) (by decide)
      · exact absurd hk0 h0
    · obtain ⟨v1, v2, v3⟩ := hvi hk3
      rcases h with ⟨h0, -⟩ | ⟨h0, -⟩ | ⟨-, -, As, p0, r, fs, z, h1, rfl, hcell, h3, h4, h5⟩
      · exfalso; rcases hk3 with h9 | h9 <;> exact absurd (h0.symm.trans h9) (by decide)
      · exfalso; rcases hk3 with h9 | h9 <;> rcases h0 with h0 | h0 <;> exact absurd (h0.symm.trans h9) (by decide)
      · obtain ⟨d', h6, h7, h8, hMet⟩ := hcall _ _ _ _ _ h4 hM' hu
        refine hgo r z ((Value.ref (p0 + 8) :: As).map (x_v b0 b)).toArray h5 h7 h8 ?_
        have hcode' : Jvm.Cond.code M'.1 M'.2.1 M'.2.2.1 none ∈ T := by rw [← v2]; exact hcode
        have hw' : x_w T M' = Jvm.Cond.code M'.1 M'.2.1 M'.2.2.1 none :: T := by unfold x_w; rw [v2]
        rcases hlink with ⟨-, hl⟩ | ⟨-, host, hl⟩
        · exact va_runI (b := b + p0) (As := As.map (x_v b0 b)) hFix hMet ⟨callB_of q.2.1 hts (hG M' hcode) hw' rfl rfl (hts _ hini) (hts _ hl) hnm (hRm _ _ _ M' h6 (hKm _ _ hM')), v1, hts _ v3⟩ ⟨x_Pc_blind, hpre (.ref (p0 + 8) :: As)⟩ rfl (by rw [List.length_map]; exact h1) hls (by show List.map _ _ = _; rw [List.map_append, List.map_reverse]; rfl) (hcat r h3) hd (hfit r z h5 h7 h8)
        · exact va_runIN (b := b + p0) (As := As.map (x_v b0 b)) hFix hMet ⟨va_cnB q.2.1 hts (hG M' hcode) hw' rfl rfl (hX.2.2.2.1 _ hl) (hts _ hini) hnm (hRm _ _ _ M' h6 (hKm _ _ hM')), v1, hts _ v3⟩ ⟨x_Pc_blind, hpre (.ref (p0 + 8) :: As)⟩ rfl (by rw [List.length_map]; exact h1) hls (by show List.map _ _ = _; rw [List.map_append, List.map_reverse]; rfl) (hcat r h3) hd (hfit r z h5 h7 h8)
  | _ => simp [x_kind] at hki
/-- what length and charAt of a text do: to be shown once -/
def x_St (os : xT) (l : Launch) (T : List Jvm.Cond) (K : Nat) (D : va_G) (cl : List vw_C) (tyl : List FieldType) (ca : FieldType → ClassId) (b0 : Nat → Nat) (b : Nat) (scr : xZ) (cL cC : ByteArray) : Prop :=
  ∀ (p0 : Nat) (u : List xC), 4 ≤ p0 → p0 < 8 → x_oku tyl u →
    Met l x_yL (Jvm.Cond.code x_yL cL 1 (some .int) :: T) (x_rm K 11 0 0) (x_Pc os D cl tyl ca b0 b scr [.ref p0] u) (x_Qc D cl tyl ca b0 b (some (.int (Int32.ofNat (scr.2 p0).length)), u)) 0 0 (fun q => b ≤ q) ∧
    ∀ i : Int32, vp_in i (scr.2 p0).length → Met l x_yC (Jvm.Cond.code x_yC cC 2 (some .char) :: T) (x_rm K 11 0 0) (x_Pc os D cl tyl ca b0 b scr [.ref p0, .int i] u) (x_Qc D cl tyl ca b0 b (some (.int ((scr.2 p0).getD i.toNatClampNeg 0)), u)) 0 0 (fun q => b ≤ q)
theorem x_tx_inv {ρ : Type} {res : ρ} {t : Nat} {k : List Value → Option ρ} (h : x_tx scr t st k = some res) : (t = 8 ∧ ∃ p0 r, st = .ref p0 :: r ∧ 4 ≤ p0 ∧ p0 < 8 ∧ k (.int (Int32.ofNat (scr.2 p0).length) :: r) = some res) ∨ (¬ t = 8 ∧ ∃ i p0 r, st = .int i :: .ref p0 :: r ∧ 4 ≤ p0 ∧ p0 < 8 ∧ vp_in i (scr.2 p0).length ∧ k (.int ((scr.2 p0).getD i.toNatClampNeg 0) :: r) = some res) := by
  unfold x_tx at h
  split at h
  · split at h
    · split at h
      · rename_i h1 _ _ _ h2
        exact .inl ⟨h1, _, _, rfl, h2.1, h2.2, h⟩
      · exact x_no h
    · exact x_no h
  · split at h
    · split at h
      · rename_i h1 _ _ _ _ h2
        obtain ⟨h3, h⟩ := x_in_inv h
        exact .inr ⟨h1, _, _, _, rfl, h2.1, h2.2, h3, h⟩
      · exact x_no h
    · exact x_no h
set_option maxHeartbeats 8000000 in
/-- what is no method of ours -/
theorem x_bi_ok {K d : Nat} {call : Nat → List Value → List xC → Option xR} {k : Nat → List Value → List xC → Option xR}
    (hT : ∀ w ∈ T, (w.onTables && w.keeps) = true ∨ ∃ ty, w = .arrayClass ty) (hK20 : 30 ≤ K) (hSt : x_St os l T K D cl tyl ca b0 b scr cL cC)
    (hF : x_Fix os T D cl tyl ca b0 b scr u0 M p s m args meth c) (hok : x_okI os cL cC T cl tyf tyl P M pc x) (hki : x_kind x.1 = 4) (hq7 : 7 ≤ x.2.2.1.2.2.1) (hI : x_Inv D cl tyl ca b0 b s u0 u H locs cells slots) (hls : ls.size = M.2.2.1) (hdR : d ≤ R.frames) (hdL : d * K ≤ R.locals)
    (h : x_inv scr call d x.2.2.1 x.2.1 pc st u k = some res)
    (hroom : ∀ pc' st' u', k pc' st' u' = some res → u'.length ≤ R.cells + u0.length ∧ x_sz u' ≤ R.slots + x_sz u0)
    (kk : ∀ pc' st' u' H' locs' cells' slots', k pc' st' u' = some res → x_Inv D cl tyl ca b0 b s u0 u' H' locs' cells' slots' → W p l e R s m args below meth c H' locs' cells' slots' Q (F0 m pc' ls (st'.map (x_v b0 b)))) :
    W p l e R s m args below meth c H locs cells slots Q (F0 m pc ls (st.map (x_v b0 b))) := by
  obtain ⟨hx, hb, hml, hr, hmn, hown, hts, hKK, hX, hsz, hlocks⟩ := hF
  obtain ⟨hP, hS, hc1, hc2, hu⟩ := hI
  have hD : va_D (fun q => b ≤ q) (x_ws ca b0 b b u) := x_ws_D u
  obtain ⟨i, n, q, cst⟩ := x
  obtain ⟨hd, -, hok⟩ := hok
  dsimp only at h hki hd hq7
  replace h := x_bi_inv hq7 h
  obtain ⟨hn3, hd12, h⟩ := h
  subst hn3
  have hfr : 1 ≤ R.frames := by omega
  have hnf : nativeFrameWords "java/lang/System" "arraycopy" 5 + 11 ≤ 300 := by decide
  have hRL : 12 * 30 ≤ R.locals := Nat.le_trans (Nat.mul_le_mul hd12 hK20) hdL
  have hmls : c.maxLocals = ls.size := hml.trans hls.symm
  have hcs : ∀ (r : List Value), (r.map fun v => v.category).sum ≤ 8 → ((r.map (x_v b0 b)).map fun v => v.category).sum ≤ 8 := fun r h9 => by rw [x_cats]; exact h9
  have hfit : ∀ pc' st', k pc' st' u = some res → cells ≤ R.cells ∧ slots ≤ R.slots := fun pc' st' h9 => by
    obtain ⟨r1, r2⟩ := hroom _ _ _ h9
    exact ⟨by omega, by omega⟩
  cases i with
  | invokestatic idx =>
    rcases hok with hok | ⟨hok, -⟩
    · dsimp only [x_lkB] at hok
      rcases hok with ⟨e7, w1, w2, w3, w4⟩ | ⟨e7, w1, w2, w3, w4⟩ | ⟨e7, w1, w2, w3, w4⟩ | ⟨e7, w1, w2, w3, w4⟩ | ⟨e7, w1, w2, w3, w4⟩ | ⟨e7, w1, w2, w3, w4⟩
      · have h := h.resolve_right (fun z => by rcases z with ⟨z, -⟩ | ⟨z, -⟩ <;> omega)
        obtain ⟨nn, dp, p1, sp, p0, r, rfl, g1, g2, g3, h⟩ := x_cp_inv h.2
        rcases h with ⟨N1, g, N0, f, hu1, g4, g5, hsrc, h⟩ | ⟨N1, g, N0, f, p2, hu1, g4, g5, rfl, hu2, h⟩
        · obtain ⟨hlow, h⟩ := x_low_inv h
          have hlow' := hcs r hlow
          have hty : FieldType.int ∈ tyl := x_oku_at hu hu1
          obtain ⟨t1, ht1⟩ := x_tyAt (ca := ca) hty
          have hnext : ∀ (H1 : Heap) (locs1 : List Loc), va_P D cl ((x_ws ca b0 b b u).set p1 (b + p1, .inl (ca .int, N1, .inl (va_cpy f g sp.toNatClampNeg dp.toNatClampNeg nn.toNatClampNeg)))) H1 → va_D (fun q => b ≤ q) ((x_ws ca b0 b b u).set p1 (b + p1, .inl (ca .int, N1, .inl (va_cpy f g sp.toNatClampNeg dp.toNatClampNeg nn.toNatClampNeg)))) → va_S (fun q => b ≤ q) s.heap H1 locs1 → W p l e R s m args below meth c H1 locs1 cells slots Q (F0 m (pc + 3) ls (r.map (x_v b0 b))) := by
            intro H1 locs1 hP1 _ hS1
            rw [show (x_ws ca b0 b b u).set p1 (b + p1, .inl (ca .int, N1, .inl (va_cpy f g sp.toNatClampNeg dp.toNatClampNeg nn.toNatClampNeg))) = x_ws ca b0 b b (u.set p1 (.inl (.int, N1, .inl (va_cpy f g sp.toNatClampNeg dp.toNatClampNeg nn.toNatClampNeg)))) from x_ws_set u b p1 (.inl (.int, N1, .inl (va_cpy f g sp.toNatClampNeg dp.toNatClampNeg nn.toNatClampNeg)))] at hP1
            exact kk _ _ _ _ _ _ _ h ⟨hP1, hS1, by rw [List.length_set]; exact hc1, hc2.trans (Eq.symm (x_sz_set _ _ _ _ hu1 rfl)), x_oku_set hu hty⟩
          rcases hsrc with ⟨p2, rfl, hu2⟩ | ⟨h4, rfl, rfl⟩
          · exact va_copyi hx hb hmls hown (hts _ w1) (hts _ w2) (hts _ w3) (hts _ w4) hKK hP hD hS p2 p1 t1 t1 (x_ws_at hu2) (x_ws_at hu1) ht1 ht1 rfl g1 g2 g3 g4 g5 (fun _ _ => rfl) hfr (by omega) hd hnext
          · show W p l e R s m args below meth c H locs cells slots Q (F0 m pc ls (.int nn :: .int dp :: .ref (b + p1) :: .int sp :: x_v b0 b (.ref p0) :: r.map (x_v b0 b)))
            rw [x_v_old (p := p0) b0 b (Nat.lt_trans h4 (by decide))]
            exact x_copyt hx hb hmls hown (hts _ w1) (hts _ w2) (hts _ w3) (hts _ w4) hKK hP hD hS (hX.1 p0 h4) p1 t1 (x_ws_at hu1) ht1 g1 g2 g3 g4 g5 hfr (by omega) hd hnext
        · obtain ⟨hlow, h⟩ := x_low_inv h
          have hlow' := hcs r hlow
          have hty : FieldType.long ∈ tyl := x_oku_at hu hu1
          obtain ⟨t1, ht1⟩ := x_tyAt (ca := ca) hty
          refine va_copyl hx hb hmls hown (hts _ w1) (hts _ w2) (hts _ w3) (hts _ w4) hKK hP hD hS p2 p1 t1 t1 (x_ws_at hu2) (x_ws_at hu1) ht1 ht1 rfl g1 g2 g3 g4 g5 (fun _ _ => rfl) hfr (by omega) hd (fun H1 locs1 hP1 _ hS1 => ?_)
          rw [show (x_ws ca b0 b b u).set p1 (b + p1, .inl (ca .long, N1, .inr (.inl (va_cpy f g sp.toNatClampNeg dp.toNatClampNeg nn.toNatClampNeg)))) = x_ws ca b0 b b (u.set p1 (.inl (.long, N1, .inr (.inl (va_cpy f g sp.toNatClampNeg dp.toNatClampNeg nn.toNatClampNeg))))) from x_ws_set u b p1 (.inl (.long, N1, .inr (.inl (va_cpy f g sp.toNatClampNeg dp.toNatClampNeg nn.toNatClampNeg))))] at hP1
          exact kk _ _ _ _ _ _ _ h ⟨hP1, hS1, by rw [List.length_set]; exact hc1, hc2.trans (Eq.symm (x_sz_set _ _ _ _ hu1 rfl)), x_oku_set hu hty⟩
      all_goals
        have h := (h.resolve_left (fun z => by omega)).resolve_left (fun z => by omega)
        have h := h.2
        rw [e7] at h
        simp only [x_ma, if_neg (show ¬ (11 : Nat) = 10 by decide), if_neg (show ¬ (12 : Nat) = 10 by decide), if_neg (show ¬ (12 : Nat) = 11 by decide), if_neg (show ¬ (13 : Nat) = 10 by decide), if_neg (show ¬ (13 : Nat) = 11 by decide), if_neg (show ¬ (13 : Nat) = 12 by decide), if_neg (show ¬ (14 : Nat) = 10 by decide), if_neg (show ¬ (14 : Nat) = 11 by decide), if_neg (show ¬ (14 : Nat) = 12 by decide), if_neg (show ¬ (14 : Nat) = 13 by decide), if_true] at h
        split at h
      · obtain ⟨hlow, h⟩ := x_low_inv h
        obtain ⟨f1, f2⟩ := hfit _ _ h
        exact va_mmax hx hb hmls hown (hts _ w1) (hts _ w2) (hts _ w3) (hts _ w4) hfr (by have := hcs _ hlow; simp only [List.drop_succ_cons, List.drop_zero] at this; omega) f1 f2 hd (kk _ _ _ _ _ _ _ h ⟨hP, hS, hc1, hc2, hu⟩)
      · exact x_no h
      · obtain ⟨hlow, h⟩ := x_low_inv h
        obtain ⟨f1, f2⟩ := hfit _ _ h
        exact va_mmin hx hb hmls hown (hts _ w1) (hts _ w2) (hts _ w3) (hts _ w4) hfr (by have := hcs _ hlow; simp only [List.drop_succ_cons, List.drop_zero] at this; omega) f1 f2 hd (kk _ _ _ _ _ _ _ h ⟨hP, hS, hc1, hc2, hu⟩)
      · exact x_no h
      · obtain ⟨hlow, h⟩ := x_low_inv h
        obtain ⟨f1, f2⟩ := hfit _ _ h
        exact va_mmax_long hx hb hmls hown (hts _ w1) (hts _ w2) (hts _ w3) (hts _ w4) hfr (by have := hcs _ hlow; simp only [List.drop_succ_cons, List.drop_zero] at this; omega) f1 f2 hd (kk _ _ _ _ _ _ _ h ⟨hP, hS, hc1, hc2, hu⟩)
      · exact x_no h
      · obtain ⟨hlow, h⟩ := x_low_inv h
        obtain ⟨f1, f2⟩ := hfit _ _ h
        exact va_mmin_long hx hb hmls hown (hts _ w1) (hts _ w2) (hts _ w3) (hts _ w4) hfr (by have := hcs _ hlow; simp only [List.drop_succ_cons, List.drop_zero] at this; omega) f1 f2 hd (kk _ _ _ _ _ _ _ h ⟨hP, hS, hc1, hc2, hu⟩)
      · exact x_no h
      · obtain ⟨hlow, h⟩ := x_low_inv h
        obtain ⟨f1, f2⟩ := hfit _ _ h
        exact va_mabs_long hx hb hmls hown (hts _ w1) (hts _ w2) (hts _ w3) (hts _ w4) hfr (by have := hcs _ hlow; simp only [List.drop_succ_cons, List.drop_zero] at this; omega) f1 f2 hd (kk _ _ _ _ _ _ _ h ⟨hP, hS, hc1, hc2, hu⟩)
      · exact x_no h
    · exfalso; dsimp only at hok; rcases hok with h9 | h9 <;> rw [h9] at hq7 <;> exact absurd hq7 (by decide)
  | invokevirtual idx =>
    rcases hok with hok | ⟨hok, -⟩
    · dsimp only [x_lkS] at hok
      refine x_size (fun hz0 => ?_)
      have hlow0 : b + u.length ≤ H.size := x_lower hP (by have := hS.1; omega)
      have hHs : H.size = b + u.length := by omega
      have hXH : x_O os b0 b scr s H := hX.kept hS.2.1
      have hpre : ∀ (As : List Value) (U : State), U.heap = H → s.WarmedH U.vm → x_Pc os D cl tyl ca b0 b scr As u (As.map (x_v b0 b)).toArray U := fun As U hU hW => ⟨rfl, by rw [hU]; exact hHs, by rw [hU]; exact hP, va_K.moved hW.alike hKK, by rw [hU]; exact hXH.moved hW.alike (fun _ _ h9 => h9.warm hW) (fun _ _ h9 => h9.warmM hW)⟩
      have hFix : CallFix p m c M.2.1 M.2.2.1 s args T M.1.cls := ⟨hx, hb, hml, hown, hts⟩
      have hRm : ∀ mL : Nat, mL ≤ 2 → (x_rm K 11 0 0).frames + 1 ≤ R.frames ∧ 8 + (mL + 11) + (x_rm K 11 0 0).locals ≤ R.locals := by
        intro mL hmL
        refine ⟨Nat.le_trans hd12 hdR, ?_⟩
        show 8 + (mL + 11) + 11 * K ≤ R.locals
        have h9 : 12 * K ≤ d * K := Nat.mul_le_mul_right K hd12
        omega
      have hcat : ∀ r : List Value, (r.map fun v => v.category).sum ≤ 8 → 2 * (F0 m pc ls (st.map (x_v b0 b))).monitorRoom + ((r.map (x_v b0 b)).map fun v => v.category).sum ≤ 8 := fun r hr8 => lv_room (by rw [x_cats]; exact hr8)
      have hG : ∀ w0 : Jvm.Cond, w0 ∈ T → GoodIn T (w0 :: T) := by
        intro w0 hw0 w hw
        rcases List.mem_cons.mp hw with rfl | hw
        · exact ⟨hw0, hT _ hw0⟩
        · exact ⟨hw, hT _ hw⟩
      have hrecv : ∀ p0 : Nat, 4 ≤ p0 → p0 < 8 → ∃ cellB : Cell, H[b0 p0]? = some cellB ∧ cellB.vm.isStatics = false ∧ s.vm.findClass "java/lang/String" = some cellB.cls := by
        intro p0 h4 h8
        obtain ⟨adV, hv⟩ := hX.2.2.2.2.2
        have h9 := vk_recv hv (show p0 - 4 < 4 by omega) hS
        rw [show 4 + (p0 - 4) = p0 by omega] at h9
        exact h9
      rcases hok with ⟨e7, w1, w2, w3, w4, w5⟩ | ⟨e7, w1, w2, w3, w4, w5⟩
      · have h := (h.resolve_left (fun z => by omega)).resolve_right (fun z => by omega)
        rcases x_tx_inv h.2.2 with ⟨-, p0, r, rfl, g4, g8, h⟩ | ⟨h9, -⟩
        · obtain ⟨hlow, h⟩ := x_low_inv h
          have hlow : (r.map fun v => v.category).sum ≤ 8 := hlow
          have hMet := (hSt p0 u g4 g8 hu).1
          refine x_callR (z := (some (.int (Int32.ofNat (scr.2 p0).length)), u)) (mc := 0) (ms := 0) (rest := r.map (x_v b0 b)) (arr := (([Value.ref p0] : List Value).map (x_v b0 b)).toArray) ?_ hS (fun H1 locs1 hP1 hS1 hu1 => kk _ _ _ _ _ _ _ h ⟨hP1, hS1, hc1, hc2, hu1⟩)
          refine va_runV (b := b0 p0) (As := []) hFix hMet ⟨callB_of 0 hts (hG _ w3) rfl rfl rfl (hts _ w2) (hts _ w1) ⟨by decide, by decide, by decide⟩ (hRm 1 (by decide)), hts _ w4, hts _ w5⟩ ⟨x_Pc_blind, hrecv p0 g4 g8, ?_⟩ rfl rfl hls ?_ (hcat r hlow) hd ⟨by have := (hfit _ _ h).1; omega, by have := (hfit _ _ h).2; omega⟩
          · have h9 := hpre [.ref p0]
            rw [List.map_cons, x_v_old (p := p0) b0 b g8] at h9
            exact h9
          · show x_v b0 b (.ref p0) :: _ = _
            rw [x_v_old (p := p0) b0 b g8]
            rfl
        · exact absurd e7 h9
      · have h := (h.resolve_left (fun z => by omega)).resolve_right (fun z => by omega)
        rcases x_tx_inv h.2.2 with ⟨h9, -⟩ | ⟨-, i, p0, r, rfl, g4, g8, g9, h⟩
        · exfalso; omega
        · obtain ⟨hlow, h⟩ := x_low_inv h
          have hlow : (r.map fun v => v.category).sum ≤ 8 := hlow
          have hMet := (hSt p0 u g4 g8 hu).2 i g9
          refine x_callR (z := (some (.int ((scr.2 p0).getD i.toNatClampNeg 0)), u)) (mc := 0) (ms := 0) (rest := r.map (x_v b0 b)) (arr := (([Value.ref p0, Value.int i] : List Value).map (x_v b0 b)).toArray) ?_ hS (fun H1 locs1 hP1 hS1 hu1 => kk _ _ _ _ _ _ _ h ⟨hP1, hS1, hc1, hc2, hu1⟩)
          refine va_runV (b := b0 p0) (As := [.int i]) hFix hMet ⟨callB_of 1 hts (hG _ w3) rfl rfl rfl (hts _ w2) (hts _ w1) ⟨by decide, by decide, by decide⟩ (hRm 2 (by decide)), hts _ w4, hts _ w5⟩ ⟨x_Pc_blind, hrecv p0 g4 g8, ?_⟩ rfl rfl hls ?_ (hcat r hlow) hd ⟨by have := (hfit _ _ h).1; omega, by have := (hfit _ _ h).2; omega⟩
          · have h9 := hpre [.ref p0, .int i]
            rw [List.map_cons, x_v_old (p := p0) b0 b g8] at h9
            exact h9
          · show Value.int i :: x_v b0 b (.ref p0) :: _ = _
            rw [x_v_old (p := p0) b0 b g8]
            rfl
    · exfalso; dsimp only at hok; rcases hok with h9 | h9 <;> rw [h9] at hq7 <;> exact absurd hq7 (by decide)
  | invokespecial idx =>
    exfalso
    rcases hok with ⟨hok, -⟩ | ⟨hok, -⟩
    · dsimp only at hok; rw [hok] at hq7; exact absurd hq7 (by decide)
    · dsimp only at hok; rcases hok with h9 | h9 <;> rw [h9] at hq7 <;> exact absurd hq7 (by decide)
  | _ => simp [x_kind] at hki
/-- its end, in a method -/
theorem x_ret_ok {i : Instr} {n : Nat} (hF : x_Fix os T D cl tyl ca b0 b scr u0 M p s m args meth c) (hI : x_Inv D cl tyl ca b0 b s u0 u H locs cells slots) (hd : decode M.2.1 pc = .ok (i, n)) (h : x_ret i n M.2.2.2.1 st u = some res) :
    W p l e R s m args below meth c H locs cells slots (MQ below (x_Qc D cl tyl ca b0 b res) args s cells slots (fun q => b ≤ q)) (F0 m pc ls (st.map (x_v b0 b))) := by
  obtain ⟨hx, hb, hml, hr, hmn, hown, hts, hKK, hX, hsz, hlocks⟩ := hF
  obtain ⟨hP, hS, hc1, hc2, hu⟩ := hI
  generalize M.2.2.2.1 = ty at h hr
  cases i with
  | ireturn =>
    simp only [x_ret] at h
    split at h
    · split at h
      · rename_i hn; subst hn
        cases h
        exact W.iret hx hb hr (fun t ht hW => ⟨rfl, by rw [ht]; exact hP, hS.F ht, hu⟩) hS.2.2 hd hlocks
      · exact x_no h
    · split at h
      · rename_i hn; subst hn
        split at h
        · rename_i hv
          cases h
          exact W.zret hx hb hr (by rcases hv with rfl | rfl <;> rfl) (fun t ht hW => ⟨rfl, by rw [ht]; exact hP, hS.F ht, hu⟩) hS.2.2 hd hlocks
        · exact x_no h
      · exact x_no h
    · exact x_no h
  | lreturn =>
    simp only [x_ret] at h
    split at h
    · split at h
      · rename_i hn; subst hn
        cases h
        exact W.lret hx hb hr (fun t ht hW => ⟨rfl, by rw [ht]; exact hP, hS.F ht, hu⟩) hS.2.2 hd hlocks
      · exact x_no h
    · exact x_no h
  | areturn =>
    simp only [x_ret] at h
    split at h
    · split at h
      · rename_i hn; subst hn
        cases h
        exact W.aret hx hb hr (.inl ⟨_, rfl⟩) (.inr ⟨_, rfl⟩) (fun t ht hW => ⟨rfl, by rw [ht]; exact hP, hS.F ht, hu⟩) hS.2.2 hd hlocks
      · exact x_no h
    · split at h
      · rename_i hn; subst hn
        cases h
        exact W.aret hx hb hr (.inr ⟨_, rfl⟩) (.inr ⟨_, rfl⟩) (fun t ht hW => ⟨rfl, by rw [ht]; exact hP, hS.F ht, hu⟩) hS.2.2 hd hlocks
      · exact x_no h
    · exact x_no h
  | return_ =>
    simp only [x_ret] at h
    split at h
    · split at h
      · rename_i hn; subst hn
        cases h
        exact W.vret hx hb hr (fun t ht hW => ⟨rfl, by rw [ht]; exact hP, hS.F ht, hu⟩) hS.2.2 hd hlocks
      · exact x_no h
    · exact x_no h
  | _ => exact x_no h
end
