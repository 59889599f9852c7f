theorem x_no {ρ : Type} {res : ρ} {A : Prop} (h : (none : Option ρ) = some res) : A := nomatch h
theorem x_v_cat (b0 : Nat → Nat) (b : Nat) (v : Value) : (x_v b0 b v).category = v.category := by cases v <;> rfl
theorem x_v_int (b0 : Nat → Nat) (b : Nat) (x : Int32) : x_v b0 b (.int x) = .int x := rfl
theorem x_v_long (b0 : Nat → Nat) (b : Nat) (x : Int64) : x_v b0 b (.long x) = .long x := rfl
section
variable {ρ : Type} {res : ρ} {n : Nat} {st : List Value}
theorem x_push_inv {w : Nat} {v : Value} {k : List Value → Option ρ} (h : x_push w n v st k = some res) : n = w ∧ k (v :: st) = some res := by
  unfold x_push at h
  split at h
  · exact ⟨by assumption, h⟩
  · exact x_no h
theorem x_ii_inv {f : Int32 → Int32 → Int32} {k : List Value → Option ρ} (h : x_ii f n st k = some res) : n = 1 ∧ ∃ x y r, st = .int y :: .int x :: r ∧ k (.int (f x y) :: r) = some res := by
  unfold x_ii at h
  split at h
  · split at h
    · exact ⟨by assumption, _, _, _, rfl, h⟩
    · exact x_no h
  · exact x_no h
theorem x_id_inv {f : Int32 → Int32 → Int32} {k : List Value → Option ρ} (h : x_id f n st k = some res) : n = 1 ∧ ∃ x y r, st = .int y :: .int x :: r ∧ ¬ y = 0 ∧ k (.int (f x y) :: r) = some res := by
  unfold x_id at h
  split at h
  · split at h
    · split at h
      · exact x_no h
      · exact ⟨by assumption, _, _, _, rfl, by assumption, h⟩
    · exact x_no h
  · exact x_no h
theorem x_ll_inv {f : Int64 → Int64 → Int64} {k : List Value → Option ρ} (h : x_ll f n st k = some res) : n = 1 ∧ ∃ x y r, st = .long y :: .long x :: r ∧ k (.long (f x y) :: r) = some res := by
  unfold x_ll at h
  split at h
  · split at h
    · exact ⟨by assumption, _, _, _, rfl, h⟩
    · exact x_no h
  · exact x_no h
theorem x_ld_inv {f : Int64 → Int64 → Int64} {k : List Value → Option ρ} (h : x_ld f n st k = some res) : n = 1 ∧ ∃ x y r, st = .long y :: .long x :: r ∧ ¬ y = 0 ∧ k (.long (f x y) :: r) = some res := by
  unfold x_ld at h
  split at h
  · split at h
    · split at h
      · exact x_no h
      · exact ⟨by assumption, _, _, _, rfl, by assumption, h⟩
    · exact x_no h
  · exact x_no h
theorem x_lli_inv {f : Int64 → Int64 → Int32} {k : List Value → Option ρ} (h : x_lli f n st k = some res) : n = 1 ∧ ∃ x y r, st = .long y :: .long x :: r ∧ k (.int (f x y) :: r) = some res := by
  unfold x_lli at h
  split at h
  · split at h
    · exact ⟨by assumption, _, _, _, rfl, h⟩
    · exact x_no h
  · exact x_no h
theorem x_li_inv {f : Int64 → Int32 → Int64} {k : List Value → Option ρ} (h : x_li f n st k = some res) : n = 1 ∧ ∃ x y r, st = .int y :: .long x :: r ∧ k (.long (f x y) :: r) = some res := by
  unfold x_li at h
  split at h
  · split at h
    · exact ⟨by assumption, _, _, _, rfl, h⟩
    · exact x_no h
  · exact x_no h
theorem x_i1_inv {f : Int32 → Int32} {k : List Value → Option ρ} (h : x_i1 f n st k = some res) : n = 1 ∧ ∃ x r, st = .int x :: r ∧ k (.int (f x) :: r) = some res := by
  unfold x_i1 at h
  split at h
  · split at h
    · exact ⟨by assumption, _, _, rfl, h⟩
    · exact x_no h
  · exact x_no h
theorem x_i2_inv {f : Int32 → Int64} {k : List Value → Option ρ} (h : x_i2 f n st k = some res) : n = 1 ∧ ∃ x r, st = .int x :: r ∧ k (.long (f x) :: r) = some res := by
  unfold x_i2 at h
  split at h
  · split at h
    · exact ⟨by assumption, _, _, rfl, h⟩
    · exact x_no h
  · exact x_no h
theorem x_l1_inv {f : Int64 → Int64} {k : List Value → Option ρ} (h : x_l1 f n st k = some res) : n = 1 ∧ ∃ x r, st = .long x :: r ∧ k (.long (f x) :: r) = some res := by
  unfold x_l1 at h
  split at h
  · split at h
    · exact ⟨by assumption, _, _, rfl, h⟩
    · exact x_no h
  · exact x_no h
theorem x_l2_inv {f : Int64 → Int32} {k : List Value → Option ρ} (h : x_l2 f n st k = some res) : n = 1 ∧ ∃ x r, st = .long x :: r ∧ k (.int (f x) :: r) = some res := by
  unfold x_l2 at h
  split at h
  · split at h
    · exact ⟨by assumption, _, _, rfl, h⟩
    · exact x_no h
  · exact x_no h
theorem x_s1'_inv {c1 : Nat} {f : Value → List Value → List Value} {k : List Value → Option ρ} (h : x_s1' c1 n f st k = some res) : n = 1 ∧ ∃ v r, st = v :: r ∧ v.category = c1 ∧ k (f v r) = some res := by
  unfold x_s1' at h
  split at h
  · split at h
    · rename_i hc; exact ⟨hc.1, _, _, rfl, hc.2, h⟩
    · exact x_no h
  · exact x_no h
theorem x_s2'_inv {c1 c2 : Nat} {f : Value → Value → List Value → List Value} {k : List Value → Option ρ} (h : x_s2' c1 c2 n f st k = some res) : n = 1 ∧ ∃ v w r, st = v :: w :: r ∧ v.category = c1 ∧ w.category = c2 ∧ k (f v w r) = some res := by
  unfold x_s2' at h
  split at h
  · split at h
    · rename_i hc; exact ⟨hc.1, _, _, _, rfl, hc.2.1, hc.2.2, h⟩
    · exact x_no h
  · exact x_no h
theorem x_s3'_inv {c1 c2 c3 : Nat} {f : Value → Value → Value → List Value → List Value} {k : List Value → Option ρ} (h : x_s3' c1 c2 c3 n f st k = some res) : n = 1 ∧ ∃ v w z r, st = v :: w :: z :: r ∧ v.category = c1 ∧ w.category = c2 ∧ z.category = c3 ∧ k (f v w z r) = some res := by
  unfold x_s3' at h
  split at h
  · split at h
    · rename_i hc; exact ⟨hc.1, _, _, _, _, rfl, hc.2.1, hc.2.2.1, hc.2.2.2, h⟩
    · exact x_no h
  · exact x_no h
theorem x_d2_inv {f : Value → List Value → List Value} {g : Value → Value → List Value → List Value} {k : List Value → Option ρ} (h : x_d2 n f g st k = some res) : n = 1 ∧ ((∃ v r, st = v :: r ∧ v.category = 2 ∧ k (f v r) = some res) ∨ ∃ v w r, st = v :: w :: r ∧ v.category = 1 ∧ w.category = 1 ∧ k (g v w r) = some res) := by
  unfold x_d2 at h
  split at h
  · split at h
    · exact ⟨by assumption, .inl ⟨_, _, rfl, rfl, h⟩⟩
    · exact x_no h
  · split at h
    · exact ⟨by assumption, .inr ⟨_, _, _, rfl, rfl, rfl, h⟩⟩
    · exact x_no h
  · split at h
    · exact ⟨by assumption, .inr ⟨_, _, _, rfl, rfl, rfl, h⟩⟩
    · exact x_no h
  · exact x_no h
end
section
variable {p : Program} {l : Launch} {e : Env} {R : Room} {s : State} {m : MethodId} {args : Array Value} {below : List Frame} {meth : Method} {c : Code} {H : Heap} {locs : List Loc} {cells slots : Nat} {Q : State → Prop}
variable {cc : ByteArray} {pc : Nat} {ls : Array Slot} {ρ : Type} {res : ρ}
set_option maxHeartbeats 4000000 in
/-- an instruction over numbers on the stack alone -/
theorem x_pure_ok (hx : p.tables.exec = Jvm.exec) (hb : c.code = cc) {i : Instr} {n : Nat} {st : List Value} {k : List Value → Option ρ} (b0 : Nat → Nat) (b : Nat) (hd : decode cc pc = .ok (i, n)) (h : x_pure i n st k = some res)
    (kk : ∀ st', k st' = some res → W p l e R s m args below meth c H locs cells slots Q (F0 m (pc + n) ls (st'.map (x_v b0 b)))) : W p l e R s m args below meth c H locs cells slots Q (F0 m pc ls (st.map (x_v b0 b))) := by
  cases i with
  | iconst c =>
    obtain ⟨rfl, h⟩ := x_push_inv h
    exact lv_iconst hx hb hd rfl (kk _ h)
  | bipush c =>
    obtain ⟨rfl, h⟩ := x_push_inv h
    exact lv_bipush hx hb hd rfl (kk _ h)
  | sipush c =>
    obtain ⟨rfl, h⟩ := x_push_inv h
    exact lv_sipush hx hb hd rfl (kk _ h)
  | lconst c =>
    obtain ⟨rfl, h⟩ := x_push_inv h
    exact lv_lconst hx hb hd rfl (kk _ h)
  | aconst_null =>
    obtain ⟨rfl, h⟩ := x_push_inv h
    exact lv_null hx hb hd (kk _ h)
  | iadd =>
    obtain ⟨rfl, x, y, r, rfl, h⟩ := x_ii_inv h
    exact lv_iadd hx hb hd (kk _ h)
  | isub =>
    obtain ⟨rfl, x, y, r, rfl, h⟩ := x_ii_inv h
    exact lv_isub hx hb hd (kk _ h)
  | imul =>
    obtain ⟨rfl, x, y, r, rfl, h⟩ := x_ii_inv h
    exact lv_imul hx hb hd (kk _ h)
  | iand =>
    obtain ⟨rfl, x, y, r, rfl, h⟩ := x_ii_inv h
    exact lv_iand hx hb hd (kk _ h)
  | ior =>
    obtain ⟨rfl, x, y, r, rfl, h⟩ := x_ii_inv h
    exact lv_ior hx hb hd (kk _ h)
  | ixor =>
    obtain ⟨rfl, x, y, r, rfl, h⟩ := x_ii_inv h
    exact lv_ixor hx hb hd (kk _ h)
  | ishl =>
    obtain ⟨rfl, x, y, r, rfl, h⟩ := x_ii_inv h
    exact lv_ishl hx hb hd (kk _ h)
  | ishr =>
    obtain ⟨rfl, x, y, r, rfl, h⟩ := x_ii_inv h
    exact lv_ishr hx hb hd (kk _ h)
  | iushr =>
    obtain ⟨rfl, x, y, r, rfl, h⟩ := x_ii_inv h
    exact lv_iushr hx hb hd rfl (kk _ h)
  | idiv =>
    obtain ⟨rfl, x, y, r, rfl, hy, h⟩ := x_id_inv h
    exact lv_idiv hx hb hd hy (kk _ h)
  | irem =>
    obtain ⟨rfl, x, y, r, rfl, hy, h⟩ := x_id_inv h
    exact lv_irem hx hb hd hy (kk _ h)
  | ladd =>
    obtain ⟨rfl, x, y, r, rfl, h⟩ := x_ll_inv h
    exact lv_ladd hx hb hd (kk _ h)
  | lsub =>
    obtain ⟨rfl, x, y, r, rfl, h⟩ := x_ll_inv h
    exact lv_lsub hx hb hd (kk _ h)
  | lmul =>
    obtain ⟨rfl, x, y, r, rfl, h⟩ := x_ll_inv h
    exact lv_lmul hx hb hd (kk _ h)
  | land =>
    obtain ⟨rfl, x, y, r, rfl, h⟩ := x_ll_inv h
    exact lv_land hx hb hd (kk _ h)
  | lor =>
    obtain ⟨rfl, x, y, r, rfl, h⟩ := x_ll_inv h
    exact lv_lor hx hb hd (kk _ h)
  | lxor =>
    obtain ⟨rfl, x, y, r, rfl, h⟩ := x_ll_inv h
    exact lv_lxor hx hb hd (kk _ h)
  | ldiv =>
    obtain ⟨rfl, x, y, r, rfl, hy, h⟩ := x_ld_inv h
    exact lv_ldiv hx hb hd hy (kk _ h)
  | lrem =>
    obtain ⟨rfl, x, y, r, rfl, hy, h⟩ := x_ld_inv h
    exact lv_lrem hx hb hd hy (kk _ h)
  | lshl =>
    obtain ⟨rfl, x, y, r, rfl, h⟩ := x_li_inv h
    exact lv_lshl hx hb hd rfl (kk _ h)
  | lshr =>
    obtain ⟨rfl, x, y, r, rfl, h⟩ := x_li_inv h
    exact lv_lshr hx hb hd rfl (kk _ h)
  | lushr =>
    obtain ⟨rfl, x, y, r, rfl, h⟩ := x_li_inv h
    exact lv_lushr hx hb hd rfl (kk _ h)
  | lcmp =>
    obtain ⟨rfl, x, y, r, rfl, h⟩ := x_lli_inv h
    exact W.lcmp hx hb hd (kk _ h)
  | ineg =>
    obtain ⟨rfl, x, r, rfl, h⟩ := x_i1_inv h
    exact lv_ineg hx hb hd (kk _ h)
  | lneg =>
    obtain ⟨rfl, x, r, rfl, h⟩ := x_l1_inv h
    exact lv_lneg hx hb hd (kk _ h)
  | i2l =>
    obtain ⟨rfl, x, r, rfl, h⟩ := x_i2_inv h
    exact lv_i2l hx hb hd rfl (kk _ h)
  | l2i =>
    obtain ⟨rfl, x, r, rfl, h⟩ := x_l2_inv h
    exact lv_l2i hx hb hd rfl (kk _ h)
  | i2b =>
    obtain ⟨rfl, x, r, rfl, h⟩ := x_i1_inv h
    exact lv_i2b hx hb hd rfl (kk _ h)
  | i2s =>
    obtain ⟨rfl, x, r, rfl, h⟩ := x_i1_inv h
    exact lv_i2s hx hb hd rfl (kk _ h)
  | i2c =>
    obtain ⟨rfl, x, r, rfl, h⟩ := x_i1_inv h
    exact lv_i2c hx hb hd rfl (kk _ h)
  | dup =>
    obtain ⟨rfl, v, r, rfl, h1, h⟩ := x_s1'_inv h
    exact lv_dup hx hb hd ((x_v_cat b0 b v).trans h1) (kk _ h)
  | pop =>
    obtain ⟨rfl, v, r, rfl, h1, h⟩ := x_s1'_inv h
    exact lv_pop hx hb hd ((x_v_cat b0 b v).trans h1) (kk _ h)
  | dup_x1 =>
    obtain ⟨rfl, v, w, r, rfl, h1, h2, h⟩ := x_s2'_inv h
    exact lv_dup_x1 hx hb hd ((x_v_cat b0 b v).trans h1) ((x_v_cat b0 b w).trans h2) (kk _ h)
  | dup2_x1 =>
    obtain ⟨rfl, v, w, r, rfl, h1, h2, h⟩ := x_s2'_inv h
    exact lv_dup2_x1_2 hx hb hd ((x_v_cat b0 b v).trans h1) ((x_v_cat b0 b w).trans h2) (kk _ h)
  | dup_x2 =>
    obtain ⟨rfl, v, w, z, r, rfl, h1, h2, h3, h⟩ := x_s3'_inv h
    exact lv_dup_x2 hx hb hd ((x_v_cat b0 b v).trans h1) ((x_v_cat b0 b w).trans h2) ((x_v_cat b0 b z).trans h3) (kk _ h)
  | dup2_x2 =>
    obtain ⟨rfl, v, w, z, r, rfl, h1, h2, h3, h⟩ := x_s3'_inv h
    exact lv_dup2_x2_2 hx hb hd ((x_v_cat b0 b v).trans h1) ((x_v_cat b0 b w).trans h2) ((x_v_cat b0 b z).trans h3) (kk _ h)
  | dup2 =>
    replace h : x_d2 n (fun v r => v :: v :: r) (fun v w r => v :: w :: v :: w :: r) st k = some res := h
    obtain ⟨rfl, ⟨v, r, rfl, h1, h⟩ | ⟨v, w, r, rfl, h1, h2, h⟩⟩ := x_d2_inv h
    · exact lv_dup2_2 hx hb hd ((x_v_cat b0 b v).trans h1) (kk _ h)
    · exact lv_dup2_11 hx hb hd ((x_v_cat b0 b v).trans h1) ((x_v_cat b0 b w).trans h2) (kk _ h)
  | pop2 =>
    replace h : x_d2 n (fun _ r => r) (fun _ _ r => r) st k = some res := h
    obtain ⟨rfl, ⟨v, r, rfl, h1, h⟩ | ⟨v, w, r, rfl, h1, h2, h⟩⟩ := x_d2_inv h
    · exact lv_pop2_2 hx hb hd ((x_v_cat b0 b v).trans h1) (kk _ h)
    · exact lv_pop2_11 hx hb hd ((x_v_cat b0 b v).trans h1) ((x_v_cat b0 b w).trans h2) (kk _ h)
  | _ => exact x_no h
/-- the frame's own numbers, as they are over the heap -/
def x_lv (b0 : Nat → Nat) (b : Nat) (lv : xL) : xL := lv.map fun q => (q.1, x_v b0 b q.2)
theorem x_get_at {b0 : Nat → Nat} {b nL i : Nat} {lv : xL} {v : Value} (hl : lv_has ls nL (x_lv b0 b lv)) (h : x_get lv i = some v) : ls[i]? = some (.val (x_v b0 b v)) := by
  unfold x_get at h
  obtain ⟨q, h1, rfl⟩ := Option.map_eq_some_iff.mp h
  have h2 : q.1 = i := by simpa using List.find?_some h1
  have h3 : (q.1, x_v b0 b q.2) ∈ x_lv b0 b lv := List.mem_map.mpr ⟨q, List.mem_of_find?_eq_some h1, rfl⟩
  have h4 := hl.2.2 _ h3
  rw [← h2]
  exact h4
theorem x_get_pl {b0 : Nat → Nat} {b i : Nat} {lv : xL} {v : Value} (h : x_get lv i = some v) : ∃ k : Nat, (x_lv b0 b lv)[k]? = some (i, x_v b0 b v) := by
  unfold x_get at h
  obtain ⟨q, h1, rfl⟩ := Option.map_eq_some_iff.mp h
  have h2 : q.1 = i := by simpa using List.find?_some h1
  have h3 : (q.1, x_v b0 b q.2) ∈ x_lv b0 b lv := List.mem_map.mpr ⟨q, List.mem_of_find?_eq_some h1, rfl⟩
  rw [h2] at h3
  exact List.mem_iff_getElem?.mp h3
theorem x_ins_mem {q z : Nat × Value} : ∀ {l : xL}, z ∈ x_ins q l → z = q ∨ z ∈ l
  | [], h => .inl (List.mem_singleton.mp h)
  | y :: r, h => by
    unfold x_ins at h
    split at h
    · rcases List.mem_cons.mp h with h | h
      · exact .inr (List.mem_cons.mpr (.inl h))
      · rcases x_ins_mem h with h | h
        · exact .inl h
        · exact .inr (List.mem_cons.mpr (.inr h))
    · exact List.mem_cons.mp h
theorem x_s1_has {ls : Array Slot} {nL : Nat} {b0 : Nat → Nat} {b : Nat} {lv : xL} {i : Nat} {v : Value} (h : lv_has ls nL ((i, x_v b0 b v) :: (x_lv b0 b lv).filter (fun q => !(q.1 == i) && !(q.1 + 1 == i && q.2.category == 2)))) : lv_has ls nL (x_lv b0 b (x_s1 lv i v)) := by
  refine ⟨h.1, h.2.1, fun q hq => h.2.2 q ?_⟩
  obtain ⟨z, hz, rfl⟩ := List.mem_map.mp hq
  rcases x_ins_mem hz with rfl | hz
  · exact List.mem_cons_self
  · obtain ⟨h1, h2⟩ := List.mem_filter.mp hz
    refine List.mem_cons.mpr (.inr (List.mem_filter.mpr ⟨List.mem_map.mpr ⟨z, h1, rfl⟩, ?_⟩))
    simpa only [x_v_cat] using h2
theorem x_s2_has {ls : Array Slot} {nL : Nat} {b0 : Nat → Nat} {b : Nat} {lv : xL} {i : Nat} {v : Value} (h : lv_has ls nL ((i, x_v b0 b v) :: (x_lv b0 b lv).filter (fun q => !(q.1 == i) && (!(q.1 == i + 1) && !(q.1 + 1 == i && q.2.category == 2))))) : lv_has ls nL (x_lv b0 b (x_s2 lv i v)) := by
  refine ⟨h.1, h.2.1, fun q hq => h.2.2 q ?_⟩
  obtain ⟨z, hz, rfl⟩ := List.mem_map.mp hq
  rcases x_ins_mem hz with rfl | hz
  · exact List.mem_cons_self
  · obtain ⟨h1, h2⟩ := List.mem_filter.mp hz
    refine List.mem_cons.mpr (.inr (List.mem_filter.mpr ⟨List.mem_map.mpr ⟨z, h1, rfl⟩, ?_⟩))
    simpa only [x_v_cat] using h2
theorem x_cut_has {ls : Array Slot} {nL : Nat} {b0 : Nat → Nat} {b : Nat} {lv : xL} (ks : Option (List Nat)) (h : lv_has ls nL (x_lv b0 b lv)) : lv_has ls nL (x_lv b0 b (x_cut ks lv)) := by
  refine ⟨h.1, h.2.1, fun q hq => h.2.2 q ?_⟩
  obtain ⟨z, hz, rfl⟩ := List.mem_map.mp hq
  refine List.mem_map.mpr ⟨z, ?_, rfl⟩
  unfold x_cut at hz
  split at hz
  · exact hz
  · exact (List.mem_filter.mp hz).1
theorem x_ldi_inv {i w n : Nat} {lv : xL} {st : List Value} {k : xL → List Value → Option ρ} (h : x_ldi i w n lv st k = some res) : n = w ∧ ∃ x, x_get lv i = some (.int x) ∧ k lv (.int x :: st) = some res := by
  unfold x_ldi at h
  split at h
  · split at h
    · exact ⟨by assumption, _, by assumption, h⟩
    · exact x_no h
  · exact x_no h
theorem x_ldl_inv {i w n : Nat} {lv : xL} {st : List Value} {k : xL → List Value → Option ρ} (h : x_ldl i w n lv st k = some res) : n = w ∧ ∃ x, x_get lv i = some (.long x) ∧ k lv (.long x :: st) = some res := by
  unfold x_ldl at h
  split at h
  · split at h
    · exact ⟨by assumption, _, by assumption, h⟩
    · exact x_no h
  · exact x_no h
theorem x_lda_inv {i w n : Nat} {lv : xL} {st : List Value} {k : xL → List Value → Option ρ} (h : x_lda i w n lv st k = some res) : n = w ∧ ((∃ x, x_get lv i = some (.ref x) ∧ k lv (.ref x :: st) = some res) ∨ (x_get lv i = some .null ∧ k lv (.null :: st) = some res)) := by
  unfold x_lda at h
  split at h
  · split at h
    · exact ⟨by assumption, .inl ⟨_, by assumption, h⟩⟩
    · exact x_no h
  · split at h
    · exact ⟨by assumption, .inr ⟨by assumption, h⟩⟩
    · exact x_no h
  · exact x_no h
theorem x_sti_inv {i w n : Nat} {lv : xL} {st : List Value} {k : xL → List Value → Option ρ} (h : x_sti i w n lv st k = some res) : n = w ∧ ∃ x r, st = .int x :: r ∧ k (x_s1 lv i (.int x)) r = some res := by
  unfold x_sti at h
  split at h
  · split at h
    · exact ⟨by assumption, _, _, rfl, h⟩
    · exact x_no h
  · exact x_no h
theorem x_stl_inv {i w n : Nat} {lv : xL} {st : List Value} {k : xL → List Value → Option ρ} (h : x_stl i w n lv st k = some res) : n = w ∧ ∃ x r, st = .long x :: r ∧ k (x_s2 lv i (.long x)) r = some res := by
  unfold x_stl at h
  split at h
  · split at h
    · exact ⟨by assumption, _, _, rfl, h⟩
    · exact x_no h
  · exact x_no h
theorem x_sta_inv {i w n : Nat} {lv : xL} {st : List Value} {k : xL → List Value → Option ρ} (h : x_sta i w n lv st k = some res) : n = w ∧ ((∃ x r, st = .ref x :: r ∧ k (x_s1 lv i (.ref x)) r = some res) ∨ ∃ r, st = .null :: r ∧ k (x_s1 lv i .null) r = some res) := by
  unfold x_sta at h
  split at h
  · split at h
    · exact ⟨by assumption, .inl ⟨_, _, rfl, h⟩⟩
    · exact x_no h
  · split at h
    · exact ⟨by assumption, .inr ⟨_, rfl, h⟩⟩
    · exact x_no h
  · exact x_no h
theorem x_inc_inv {i n : Nat} {c : Int} {lv : xL} {st : List Value} {k : xL → List Value → Option ρ} (h : x_inc i c n lv st k = some res) : n = 3 ∧ ∃ x, x_get lv i = some (.int x) ∧ k (x_s1 lv i (.int (x + Int32.ofInt c))) st = some res := by
  unfold x_inc at h
  split at h
  · split at h
    · exact ⟨by assumption, _, by assumption, h⟩
    · exact x_no h
  · exact x_no h
set_option maxHeartbeats 4000000 in
/-- an instruction that reads or writes the frame's own numbers -/
theorem x_loc_ok (hx : p.tables.exec = Jvm.exec) (hb : c.code = cc) {i : Instr} {n nL : Nat} {lv : xL} {st : List Value} {k : xL → List Value → Option ρ} (b0 : Nat → Nat) (b : Nat) (hl : lv_has ls nL (x_lv b0 b lv)) (hd : decode cc pc = .ok (i, n)) (hok : x_stok i nL) (h : x_loc i n lv st k = some res)
    (kk : ∀ (ls' : Array Slot) (lv' : xL) (st' : List Value), lv_has ls' nL (x_lv b0 b lv') → k lv' st' = some res → W p l e R s m args below meth c H locs cells slots Q (F0 m (pc + n) ls' (st'.map (x_v b0 b)))) : W p l e R s m args below meth c H locs cells slots Q (F0 m pc ls (st.map (x_v b0 b))) := by
  cases i with
  | iload j =>
    obtain ⟨rfl, x, h1, h⟩ := x_ldi_inv h
    exact lv_iload hx hb hd (x_get_at hl h1) (kk _ _ _ hl h)
  | iload_n j =>
    obtain ⟨rfl, x, h1, h⟩ := x_ldi_inv h
    exact lv_iload_n hx hb hd rfl (x_get_at hl h1) (kk _ _ _ hl h)
  | lload j =>
    obtain ⟨rfl, x, h1, h⟩ := x_ldl_inv h
    exact lv_lload hx hb hd (x_get_at hl h1) (kk _ _ _ hl h)
  | lload_n j =>
    obtain ⟨rfl, x, h1, h⟩ := x_ldl_inv h
    exact lv_lload_n hx hb hd rfl (x_get_at hl h1) (kk _ _ _ hl h)
  | aload j =>
    obtain ⟨rfl, ⟨x, h1, h⟩ | ⟨h1, h⟩⟩ := x_lda_inv h
    · exact lv_aload hx hb hd (x_get_at hl h1) (kk _ _ _ hl h)
    · exact lv_aloadN hx hb hd (x_get_at hl h1) (kk _ _ _ hl h)
  | aload_n j =>
    obtain ⟨rfl, ⟨x, h1, h⟩ | ⟨h1, h⟩⟩ := x_lda_inv h
    · exact lv_aload_n hx hb hd rfl (x_get_at hl h1) (kk _ _ _ hl h)
    · exact lv_aload_nN hx hb hd rfl (x_get_at hl h1) (kk _ _ _ hl h)
  | istore j =>
    obtain ⟨rfl, x, r, rfl, h5⟩ := x_sti_inv h
    exact lv_istore hx hb hd hl hok rfl (fun ls' hl' => kk ls' _ _ (x_s1_has (v := .int x) hl') h5)
  | istore_n j =>
    obtain ⟨rfl, x, r, rfl, h5⟩ := x_sti_inv h
    exact lv_istore_n hx hb hd rfl hl hok rfl (fun ls' hl' => kk ls' _ _ (x_s1_has (v := .int x) hl') h5)
  | lstore j =>
    obtain ⟨rfl, x, r, rfl, h5⟩ := x_stl_inv h
    exact lv_lstore hx hb hd hl hok rfl (fun ls' hl' => kk ls' _ _ (x_s2_has (v := .long x) hl') h5)
  | lstore_n j =>
    obtain ⟨rfl, x, r, rfl, h5⟩ := x_stl_inv h
    exact lv_lstore_n hx hb hd rfl hl hok rfl (fun ls' hl' => kk ls' _ _ (x_s2_has (v := .long x) hl') h5)
  | astore j =>
    obtain ⟨rfl, ⟨x, r, rfl, h5⟩ | ⟨r, rfl, h5⟩⟩ := x_sta_inv h
    · exact lv_astore hx hb hd hl hok rfl (fun ls' hl' => kk ls' _ _ (x_s1_has (v := .ref x) hl') h5)
    · exact lv_astoreN hx hb hd hl hok rfl (fun ls' hl' => kk ls' _ _ (x_s1_has (v := .null) hl') h5)
  | astore_n j =>
    obtain ⟨rfl, ⟨x, r, rfl, h5⟩ | ⟨r, rfl, h5⟩⟩ := x_sta_inv h
    · exact lv_astore_n hx hb hd rfl hl hok rfl (fun ls' hl' => kk ls' _ _ (x_s1_has (v := .ref x) hl') h5)
    · exact lv_astore_nN hx hb hd rfl hl hok rfl (fun ls' hl' => kk ls' _ _ (x_s1_has (v := .null) hl') h5)
  | iinc j z =>
    obtain ⟨rfl, x, h2, h⟩ := x_inc_inv h
    obtain ⟨q, h3⟩ := x_get_pl (b0 := b0) (b := b) h2
    exact lv_iinc hx hb hd hl h3 rfl hok rfl (fun ls' hl' => kk ls' _ _ (x_s1_has (v := .int _) hl') h)
  | _ => exact x_no h
theorem x_to_inv {pc : Nat} {off : Int} {k : Nat → Option ρ} (h : x_to pc off k = some res) : ∃ t : Nat, (pc : Int) + off = (t : Int) ∧ k t = some res := by
  unfold x_to at h
  split at h
  · exact x_no h
  · exact ⟨_, by omega, h⟩
set_option maxHeartbeats 4000000 in
/-- an instruction that says where it goes on -/
theorem x_br_ok (hx : p.tables.exec = Jvm.exec) (hb : c.code = cc) {i : Instr} {n : Nat} {st : List Value} {k : Nat → List Value → Option ρ} (b0 : Nat → Nat) (b : Nat) (hd : decode cc pc = .ok (i, n)) (h : x_br i n pc st k = some res)
    (kk : ∀ (pc' : Nat) (st' : List Value), k pc' st' = some res → W p l e R s m args below meth c H locs cells slots Q (F0 m pc' ls (st'.map (x_v b0 b)))) : W p l e R s m args below meth c H locs cells slots Q (F0 m pc ls (st.map (x_v b0 b))) := by
  cases i with
  | goto off =>
    simp only [x_br] at h
    split at h
    · rename_i hn; subst hn
      obtain ⟨t, ht, h⟩ := x_to_inv h
      exact lv_goto hx hb hd ht (kk _ _ h)
    · exact x_no h
  | ifCond z off =>
    simp only [x_br] at h
    split at h
    · split at h
      · rename_i hn; subst hn
        obtain ⟨t, ht, h⟩ := x_to_inv h
        cases z with
        | eq => exact lv_if_eq hx hb hd ht (fun hc => kk _ _ (by simpa only [x_c0, if_pos hc] using h)) (fun hc => kk _ _ (by simpa only [x_c0, if_neg hc] using h))
        | ne => exact lv_if_ne hx hb hd ht (fun hc => kk _ _ (by simpa only [x_c0, if_neg hc] using h)) (fun hc => kk _ _ (by simpa only [x_c0, if_pos hc] using h))
        | lt => exact lv_if_lt hx hb hd ht (fun hc => kk _ _ (by simpa only [x_c0, if_pos hc] using h)) (fun hc => kk _ _ (by simpa only [x_c0, if_neg hc] using h))
        | ge => exact lv_if_ge hx hb hd ht (fun hc => kk _ _ (by simpa only [x_c0, if_pos hc] using h)) (fun hc => kk _ _ (by simpa only [x_c0, if_neg hc] using h))
        | gt => exact lv_if_gt hx hb hd ht (fun hc => kk _ _ (by simpa only [x_c0, if_pos hc] using h)) (fun hc => kk _ _ (by simpa only [x_c0, if_neg hc] using h))
        | le => exact lv_if_le hx hb hd ht (fun hc => kk _ _ (by simpa only [x_c0, if_pos hc] using h)) (fun hc => kk _ _ (by simpa only [x_c0, if_neg hc] using h))
      · exact x_no h
    · exact x_no h
  | if_icmp z off =>
    simp only [x_br] at h
    split at h
    · split at h
      · rename_i hn; subst hn
        obtain ⟨t, ht, h⟩ := x_to_inv h
        cases z with
        | eq => exact lv_icmp_eq hx hb hd ht (fun hc => kk _ _ (by simpa only [x_c2, if_pos hc] using h)) (fun hc => kk _ _ (by simpa only [x_c2, if_neg hc] using h))
        | ne => exact lv_icmp_ne hx hb hd ht (fun hc => kk _ _ (by simpa only [x_c2, if_neg hc] using h)) (fun hc => kk _ _ (by simpa only [x_c2, if_pos hc] using h))
        | lt => exact lv_icmp_lt hx hb hd ht (fun hc => kk _ _ (by simpa only [x_c2, if_pos hc] using h)) (fun hc => kk _ _ (by simpa only [x_c2, if_neg hc] using h))
        | ge => exact lv_icmp_ge hx hb hd ht (fun hc => kk _ _ (by simpa only [x_c2, if_pos hc] using h)) (fun hc => kk _ _ (by simpa only [x_c2, if_neg hc] using h))
        | gt => exact lv_icmp_gt hx hb hd ht (fun hc => kk _ _ (by simpa only [x_c2, if_pos hc] using h)) (fun hc => kk _ _ (by simpa only [x_c2, if_neg hc] using h))
        | le => exact lv_icmp_le hx hb hd ht (fun hc => kk _ _ (by simpa only [x_c2, if_pos hc] using h)) (fun hc => kk _ _ (by simpa only [x_c2, if_neg hc] using h))
      · exact x_no h
    · exact x_no h
  | ifnull off =>
    simp only [x_br] at h
    split at h
    · split at h
      · rename_i hn; subst hn
        obtain ⟨t, ht, h⟩ := x_to_inv h
        exact lv_ifnullN hx hb hd ht (kk _ _ h)
      · exact x_no h
    · split at h
      · rename_i hn; subst hn
        exact lv_ifnull hx hb hd (kk _ _ h)
      · exact x_no h
    · exact x_no h
  | ifnonnull off =>
    simp only [x_br] at h
    split at h
    · split at h
      · rename_i hn; subst hn
        exact lv_ifnonnullN hx hb hd (kk _ _ h)
      · exact x_no h
    · split at h
      · rename_i hn; subst hn
        obtain ⟨t, ht, h⟩ := x_to_inv h
        exact lv_ifnonnull hx hb hd ht (kk _ _ h)
      · exact x_no h
    · exact x_no h
  | tableswitch dflt lo hi offs =>
    simp only [x_br] at h
    split at h
    · split at h
      · rename_i hc
        obtain ⟨t, ht, h⟩ := x_to_inv h
        exact lv_tableOut hx hb hd hc ht (kk _ _ h)
      · rename_i hc
        split at h
        · rename_i off ho
          obtain ⟨t, ht, h⟩ := x_to_inv h
          exact lv_tableIn hx hb hd (fun z => hc (.inl z)) (fun z => hc (.inr z)) ho ht (kk _ _ h)
        · exact x_no h
    · exact x_no h
  | lookupswitch dflt ps =>
    simp only [x_br] at h
    split at h
    · split at h
      · rename_i hc
        obtain ⟨t, ht, h⟩ := x_to_inv h
        exact lv_lookup hx hb hd hc rfl ht (kk _ _ h)
      · exact x_no h
    · exact x_no h
  | _ => exact x_no h
end
