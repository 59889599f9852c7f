/-! Over numbers: the cells as one function of numbers (group, number in the group's order, field or index), values as numbers; rows that step through a method. -/
abbrev zV : Type := Int ⊕ (Int ⊕ (Nat × Nat))
abbrev zM : Type := Nat → Nat → Int → Int
/-- a field: 0 int, 1 long, 2 boolean; the cell of the same group with that number; that cell -/
abbrev zF : Type := Nat ⊕ (Nat ⊕ (Nat × Nat))
/-- a kind of cell: an object (its class' number, its fields), a row (0 int, 1 long, 2 byte, 3 boolean; its length) -/
abbrev zK : Type := (Nat × List zF) ⊕ (Nat × Nat)
/-- kinds by number; where each stands; what stands there; how many -/
abbrev zL : Type := (Nat → Option zK) × (Nat → Nat → Nat) × (Nat → Nat × Nat) × Nat
abbrev zE : Type := xZ × (Nat → List Value) × (Nat → Option xM) × zL
abbrev zi (x : Int) : zV := .inl x
abbrev zl (x : Int) : zV := .inr (.inl x)
abbrev zr (g k : Nat) : zV := .inr (.inr (g, k))
def z_v (L : zL) (v : zV) : Value := match v with
  | .inl x => .int (Int32.ofInt x)
  | .inr (.inl x) => .long (Int64.ofInt x)
  | .inr (.inr q) => .ref (if q.1 = 99 then q.2 else L.2.1 q.1 q.2 + 8)
def z_val (L : zL) (g k : Nat) : Prop := L.2.1 g k < L.2.2.2 ∧ L.2.2.1 (L.2.1 g k) = (g, k) ∧ g ≠ 99 ∧ ∀ i, i < L.2.2.2 → L.2.2.1 i = (g, k) → i = L.2.1 g k
def z_ok (L : zL) (v : zV) : Prop := match v with
  | .inl x => -2147483648 ≤ x ∧ x ≤ 2147483647
  | .inr (.inl x) => -9223372036854775808 ≤ x ∧ x ≤ 9223372036854775807
  | .inr (.inr q) => (q.1 = 99 ∧ q.2 < 8) ∨ z_val L q.1 q.2
def z_fv (d : zF) (g : Nat) (x : Int) : zV := match d with
  | .inl t => if t = 1 then zl x else zi x
  | .inr (.inl k) => zr g k
  | .inr (.inr q) => zr q.1 q.2
def z_fs (L : zL) (f : Int → Int) (g : Nat) : Nat → List zF → List Value
  | _, [] => []
  | j, d :: r => z_v L (z_fv d g (f j)) :: z_fs L f g (j + 1) r
def z_arr (t N : Nat) (f : Int → Int) : FieldType × vp_A :=
  if t = 0 then (.int, N, .inl fun i => Int32.ofInt (f i)) else if t = 1 then (.long, N, .inr (.inl fun i => Int64.ofInt (f i))) else if t = 2 then (.byte, N, .inl fun i => Int32.ofInt (f i)) else (.boolean, N, .inl fun i => Int32.ofInt (f i))
def z_c (L : zL) (f : Int → Int) (g k : Nat) : xC := match L.1 k with
  | some (.inl q) => .inr (q.1, z_fs L f g 0 q.2)
  | some (.inr q) => .inl (z_arr q.1 q.2 f)
  | none => .inr (0, [])
def z_at (L : zL) (m : zM) (i : Nat) : xC := z_c L (m (L.2.2.1 i).1 (L.2.2.1 i).2) (L.2.2.1 i).1 (L.2.2.1 i).2
def z_u (L : zL) (m : zM) : List xC := (List.range L.2.2.2).map (z_at L m)
/-- the numbers of a row of kind t -/
def z_rg (t : Nat) (x : Int) : Prop := if t = 0 then -2147483648 ≤ x ∧ x ≤ 2147483647 else if t = 1 then -9223372036854775808 ≤ x ∧ x ≤ 9223372036854775807 else if t = 2 then -128 ≤ x ∧ x ≤ 127 else 0 ≤ x ∧ x ≤ 1
def z_ck (L : zL) (f : Int → Int) (g k : Nat) : Prop := match L.1 k with
  | some (.inl q) => ∀ (j : Nat) (d : zF), q.2[j]? = some d → z_ok L (z_fv d g (f j)) ∧ (d = .inl 2 → f j = 0 ∨ f j = 1)
  | some (.inr q) => (∀ i : Int, 0 ≤ i → i < q.2 → z_rg q.1 (f i)) ∧ q.2 < 2147483648
  | none => True
def z_mok (L : zL) (m : zM) : Prop := ∀ g k, z_val L g k → z_ck L (m g k) g k
def z_upd (m : zM) (g k : Nat) (i x : Int) : zM := fun g' k' i' => if g' = g ∧ k' = k ∧ i' = i then x else m g' k' i'
def z_cpy (m : zM) (g1 k1 g0 k0 : Nat) (sp dp n : Int) : zM := fun g k i => if g = g1 ∧ k = k1 ∧ dp ≤ i ∧ i < dp + n then m g0 k0 (i - dp + sp) else m g k i
def z_cut (ks : Option (List Nat)) (lv : List (Nat × zV)) : List (Nat × zV) := match ks with
  | none => lv
  | some ks => lv.filter (fun q => ks.contains q.1)
def z_get (lv : List (Nat × zV)) (i : Nat) : Option zV := (lv.find? fun q => q.1 == i).map fun q => q.2
def z_is2 (v : zV) : Bool := match v with
  | .inr (.inl _) => true
  | _ => false
def z_ins (q : Nat × zV) : List (Nat × zV) → List (Nat × zV)
  | [] => [q]
  | z :: r => if z.1 < q.1 then z :: z_ins q r else q :: z :: r
def z_s1 (lv : List (Nat × zV)) (i : Nat) (v : zV) : List (Nat × zV) := z_ins (i, v) (lv.filter (fun q => !(q.1 == i) && !(q.1 + 1 == i && z_is2 q.2)))
def z_s2 (lv : List (Nat × zV)) (i : Nat) (v : zV) : List (Nat × zV) := z_ins (i, v) (lv.filter (fun q => !(q.1 == i) && (!(q.1 == i + 1) && !(q.1 + 1 == i && z_is2 q.2))))
def z_args : Nat → List zV → List (Nat × zV)
  | _, [] => []
  | i, v :: vs => (i, v) :: z_args (if z_is2 v then i + 2 else i + 1) vs
def z_wd (vs : List zV) : Nat := (vs.map fun v => if z_is2 v then 2 else 1).sum
abbrev z_push (r : Option zV) (st : List zV) : List zV := match r with
  | some v => v :: st
  | none => st
def z_I (E : zE) (j pc : Nat) : Option xI := match E.2.2.1 j with
  | some M => M.2.2.2.2 pc
  | none => none
/-- what a method returns, how many numbers its frame has -/
def z_T (E : zE) (j : Nat) : Option (Option FieldType × Nat) := (E.2.2.1 j).map fun M => (M.2.2.2.1, M.2.2.1)
def z_lv (L : zL) (lv : List (Nat × zV)) : xL := lv.map fun q => (q.1, z_v L q.2)
def X (E : zE) (d j pc : Nat) (lv : List (Nat × zV)) (st : List zV) (m : zM) (Q : Option zV → zM → Prop) : Prop :=
  (∀ q ∈ lv, z_ok E.2.2.2 q.2) → (∀ v ∈ st, z_ok E.2.2.2 v) → z_mok E.2.2.2 m → ∃ c r m', (∀ n, x_exec E.1 E.2.1 E.2.2.1 (n + c) d j pc (z_lv E.2.2.2 lv) (st.map (z_v E.2.2.2)) (z_u E.2.2.2 m) = some (Option.map (z_v E.2.2.2) r, z_u E.2.2.2 m')) ∧ (∀ v, r = some v → z_ok E.2.2.2 v) ∧ z_mok E.2.2.2 m' ∧ Q r m'
-- cells
theorem z_u_at {L : zL} {m : zM} {g k : Nat} (h : z_val L g k) : (z_u L m)[L.2.1 g k]? = some (z_c L (m g k) g k) := by
  unfold z_u
  rw [List.getElem?_map, List.getElem?_range h.1]
  show some (z_at L m (L.2.1 g k)) = _
  unfold z_at
  rw [h.2.1]
theorem z_u_set {L : zL} {m m' : zM} {g k : Nat} {c : xC} (h : z_val L g k) (hc : c = z_c L (m' g k) g k) (hm : ∀ g' k', (g', k') ≠ (g, k) → m' g' k' = m g' k') : (z_u L m).set (L.2.1 g k) c = z_u L m' := by
  apply List.ext_getElem?
  intro i
  rw [List.getElem?_set]
  by_cases hi : L.2.1 g k = i
  · subst hi
    rw [if_pos rfl, if_pos (by unfold z_u; rw [List.length_map, List.length_range]; exact h.1), z_u_at h, hc]
  · rw [if_neg hi]
    unfold z_u
    rw [List.getElem?_map, List.getElem?_map]
    cases hr : (List.range L.2.2.2)[i]? with
    | none => rfl
    | some i' =>
      have hii : i' = i := by
        have h1 := List.getElem?_eq_some_iff.mp hr
        obtain ⟨h2, h3⟩ := h1
        rw [List.getElem_range] at h3
        exact h3.symm
      subst hii
      show some (z_at L m i') = some (z_at L m' i')
      unfold z_at
      rw [hm]
      intro e
      have e1 : L.2.2.1 i' = (g, k) := by rw [← e]
      refine hi (h.2.2.2 i' ?_ e1).symm
      have h2 := (List.getElem?_eq_some_iff.mp hr).1
      rwa [List.length_range] at h2
theorem z_v_ref {L : zL} {g k : Nat} (h : z_val L g k) : z_v L (zr g k) = .ref (L.2.1 g k + 8) := by
  show Value.ref (if g = 99 then k else _) = _
  rw [if_neg h.2.2.1]
theorem z_v_old {L : zL} {k : Nat} : z_v L (zr 99 k) = .ref k := rfl
theorem z_fs_get {L : zL} {f : Int → Int} {g : Nat} : ∀ (fs : List zF) (j0 j : Nat), (z_fs L f g j0 fs)[j]? = (fs[j]?).map fun d => z_v L (z_fv d g (f ((j0 + j : Nat) : Int)))
  | [], _, _ => by simp [z_fs]
  | d :: r, j0, 0 => by simp [z_fs]
  | d :: r, j0, j + 1 => by
    have h := z_fs_get (L := L) (f := f) (g := g) r (j0 + 1) j
    simp only [z_fs, List.getElem?_cons_succ, h]
    rw [show j0 + 1 + j = j0 + (j + 1) by omega]
theorem z_fs_len {L : zL} {f : Int → Int} {g : Nat} : ∀ (fs : List zF) (j0 : Nat), (z_fs L f g j0 fs).length = fs.length
  | [], _ => rfl
  | d :: r, j0 => by simp [z_fs, z_fs_len r (j0 + 1)]
theorem z_fs_set {L : zL} {f f' : Int → Int} {g : Nat} (fs : List zF) (j : Nat) (v : Value) (d : zF) (hd : fs[j]? = some d) (hv : v = z_v L (z_fv d g (f' j))) (hf : ∀ i : Nat, i ≠ j → f' i = f i) : (z_fs L f g 0 fs).set j v = z_fs L f' g 0 fs := by
  apply List.ext_getElem?
  intro i
  rw [List.getElem?_set, z_fs_get, z_fs_get]
  by_cases hi : j = i
  · subst hi
    have hl : j < fs.length := (List.getElem?_eq_some_iff.mp hd).1
    rw [if_pos rfl, if_pos (by rw [z_fs_len]; exact hl), hd, hv]
    simp
  · rw [if_neg hi]
    cases fs[i]? with
    | none => rfl
    | some d' => simp only [Option.map_some, Nat.zero_add]; rw [hf i (fun e => hi e.symm)]
-- values
theorem z_v_cat (L : zL) (v : zV) : (z_v L v).category = if z_is2 v then 2 else 1 := by
  match v with
  | .inl x => rfl
  | .inr (.inl x) => rfl
  | .inr (.inr q) => rfl
theorem z_cats (L : zL) (vs : List zV) : ((vs.map (z_v L)).map fun v => v.category).sum = z_wd vs := by
  unfold z_wd
  rw [List.map_map]
  congr 1
  exact List.map_congr_left fun v _ => z_v_cat L v
theorem z_get_lv (L : zL) (lv : List (Nat × zV)) (i : Nat) : x_get (z_lv L lv) i = (z_get lv i).map (z_v L) := by
  unfold x_get z_get z_lv
  rw [List.find?_map]
  simp only [Option.map_map]
  rfl
theorem z_cut_lv (L : zL) (ks : Option (List Nat)) (lv : List (Nat × zV)) : x_cut ks (z_lv L lv) = z_lv L (z_cut ks lv) := by
  unfold x_cut z_cut z_lv
  cases ks with
  | none => rfl
  | some ks => simp only [List.filter_map]; rfl
theorem z_ins_lv (L : zL) (i : Nat) (v : zV) : ∀ lv : List (Nat × zV), x_ins (i, z_v L v) (z_lv L lv) = z_lv L (z_ins (i, v) lv)
  | [] => rfl
  | q :: r => by
    have h := z_ins_lv L i v r
    unfold z_lv at h ⊢
    simp only [List.map_cons, x_ins, z_ins]
    split
    · rw [h]; rfl
    · rfl
theorem z_s1_lv (L : zL) (lv : List (Nat × zV)) (i : Nat) (v : zV) : x_s1 (z_lv L lv) i (z_v L v) = z_lv L (z_s1 lv i v) := by
  unfold x_s1 z_s1
  rw [← z_ins_lv]
  congr 1
  unfold z_lv
  rw [List.filter_map]
  congr 1
  apply List.filter_congr
  intro q _
  simp only [Function.comp_apply, z_v_cat]
  cases z_is2 q.2 <;> simp
theorem z_s2_lv (L : zL) (lv : List (Nat × zV)) (i : Nat) (v : zV) : x_s2 (z_lv L lv) i (z_v L v) = z_lv L (z_s2 lv i v) := by
  unfold x_s2 z_s2
  rw [← z_ins_lv]
  congr 1
  unfold z_lv
  rw [List.filter_map]
  congr 1
  apply List.filter_congr
  intro q _
  simp only [Function.comp_apply, z_v_cat]
  cases z_is2 q.2 <;> simp
theorem z_args_lv (L : zL) : ∀ (vs : List zV) (i : Nat), lv_args i (vs.map (z_v L)) = z_lv L (z_args i vs)
  | [], _ => rfl
  | v :: vs, i => by
    have h := z_args_lv L vs (if z_is2 v then i + 2 else i + 1)
    unfold z_lv at h ⊢
    simp only [List.map_cons, lv_args, z_args, z_v_cat]
    rw [← h]
    cases z_is2 v <;> rfl
theorem z_ins_mem {q z : Nat × zV} : ∀ {l : List (Nat × zV)}, z ∈ z_ins q l → z = q ∨ z ∈ l
  | [], h => .inl (List.mem_singleton.mp h)
  | y :: r, h => by
    unfold z_ins at h
    split at h
    · rcases List.mem_cons.mp h with h | h
      · exact .inr (List.mem_cons.mpr (.inl h))
      · rcases z_ins_mem h with h | h
        · exact .inl h
        · exact .inr (List.mem_cons.mpr (.inr h))
    · exact List.mem_cons.mp h
theorem z_get_mem {lv : List (Nat × zV)} {i : Nat} {v : zV} (h : z_get lv i = some v) : ∃ q ∈ lv, q.2 = v := by
  unfold z_get at h
  obtain ⟨q, h1, h2⟩ := Option.map_eq_some_iff.mp h
  exact ⟨q, List.mem_of_find?_eq_some h1, h2⟩
theorem z_args_mem : ∀ {vs : List zV} {i : Nat} {q : Nat × zV}, q ∈ z_args i vs → q.2 ∈ vs
  | [], _, _, h => by simp [z_args] at h
  | v :: vs, i, q, h => by
    simp only [z_args] at h
    rcases List.mem_cons.mp h with h | h
    · rw [h]; exact List.mem_cons_self
    · exact List.mem_cons_of_mem _ (z_args_mem h)
-- numbers
theorem z_32 {x : Int} (h : -2147483648 ≤ x ∧ x ≤ 2147483647) : (Int32.ofInt x).toInt = x := Int32.toInt_ofInt_of_le (by omega) (by omega)
theorem z_64 {x : Int} (h : -9223372036854775808 ≤ x ∧ x ≤ 9223372036854775807) : (Int64.ofInt x).toInt = x := Int64.toInt_ofInt_of_le (by omega) (by omega)
theorem z_r32 (a : Int32) : -2147483648 ≤ a.toInt ∧ a.toInt ≤ 2147483647 := by have h1 := a.toInt_lt; have h2 := a.le_toInt; omega
theorem z_r64 (a : Int64) : -9223372036854775808 ≤ a.toInt ∧ a.toInt ≤ 9223372036854775807 := by have h1 := a.toInt_lt; have h2 := a.le_toInt; omega
theorem z_eq32 {x y : Int} (hx : -2147483648 ≤ x ∧ x ≤ 2147483647) (hy : -2147483648 ≤ y ∧ y ≤ 2147483647) : Int32.ofInt x = Int32.ofInt y ↔ x = y := by
  rw [← Int32.toInt_inj, z_32 hx, z_32 hy]
theorem z_lt32 {x y : Int} (hx : -2147483648 ≤ x ∧ x ≤ 2147483647) (hy : -2147483648 ≤ y ∧ y ≤ 2147483647) : Int32.ofInt x < Int32.ofInt y ↔ x < y := by
  rw [Int32.lt_iff_toInt_lt, z_32 hx, z_32 hy]
theorem z_le32 {x y : Int} (hx : -2147483648 ≤ x ∧ x ≤ 2147483647) (hy : -2147483648 ≤ y ∧ y ≤ 2147483647) : Int32.ofInt x ≤ Int32.ofInt y ↔ x ≤ y := by
  rw [Int32.le_iff_toInt_le, z_32 hx, z_32 hy]
theorem z_eq64 {x y : Int} (hx : -9223372036854775808 ≤ x ∧ x ≤ 9223372036854775807) (hy : -9223372036854775808 ≤ y ∧ y ≤ 9223372036854775807) : Int64.ofInt x = Int64.ofInt y ↔ x = y := by
  rw [← Int64.toInt_inj, z_64 hx, z_64 hy]
theorem z_lt64 {x y : Int} (hx : -9223372036854775808 ≤ x ∧ x ≤ 9223372036854775807) (hy : -9223372036854775808 ≤ y ∧ y ≤ 9223372036854775807) : Int64.ofInt x < Int64.ofInt y ↔ x < y := by
  rw [Int64.lt_iff_toInt_lt, z_64 hx, z_64 hy]
theorem z_cl {x : Int} (h : -2147483648 ≤ x ∧ x ≤ 2147483647) : (Int32.ofInt x).toNatClampNeg = x.toNat := Int32.toNatClampNeg_ofInt_of_le (by omega) (by omega)
theorem z_in {x : Int} {N : Nat} (h : -2147483648 ≤ x ∧ x ≤ 2147483647) (h0 : 0 ≤ x) (hN : x < N) : ¬ (Int32.ofInt x < 0 ∨ N ≤ (Int32.ofInt x).toNatClampNeg) := by
  rw [z_cl h, show (0 : Int32) = Int32.ofInt 0 from rfl, z_lt32 h (by omega)]
  omega
theorem z_div32 {x y : Int} (hx : -2147483648 ≤ x ∧ x ≤ 2147483647) (hy : -2147483648 ≤ y ∧ y ≤ 2147483647) : Int32.ofInt x / Int32.ofInt y = Int32.ofInt (x.tdiv y) := (Int32.ofInt_tdiv hx.1 hx.2 hy.1 hy.2).symm
theorem z_div64 {x y : Int} (hx : -9223372036854775808 ≤ x ∧ x ≤ 9223372036854775807) (hy : -9223372036854775808 ≤ y ∧ y ≤ 9223372036854775807) : Int64.ofInt x / Int64.ofInt y = Int64.ofInt (x.tdiv y) := (Int64.ofInt_tdiv hx.1 hx.2 hy.1 hy.2).symm
theorem z_rem32 {x y : Int} (hx : -2147483648 ≤ x ∧ x ≤ 2147483647) (hy : -2147483648 ≤ y ∧ y ≤ 2147483647) : Int32.ofInt x - Int32.ofInt x / Int32.ofInt y * Int32.ofInt y = Int32.ofInt (x.tmod y) := by
  rw [z_div32 hx hy, ← Int32.ofInt_mul, ← Int32.ofInt_sub]
  congr 1
  have := Int.tmod_add_mul_tdiv x y
  rw [Int.mul_comm] at this
  omega
theorem z_rem64 {x y : Int} (hx : -9223372036854775808 ≤ x ∧ x ≤ 9223372036854775807) (hy : -9223372036854775808 ≤ y ∧ y ≤ 9223372036854775807) : Int64.ofInt x - Int64.ofInt x / Int64.ofInt y * Int64.ofInt y = Int64.ofInt (x.tmod y) := by
  rw [z_div64 hx hy, ← Int64.ofInt_mul, ← Int64.ofInt_sub]
  congr 1
  have := Int.tmod_add_mul_tdiv x y
  rw [Int.mul_comm] at this
  omega
theorem z_bip {c : Int} (h : -128 ≤ c ∧ c ≤ 127) : (Int8.ofInt c).toInt32 = Int32.ofInt c := by
  rw [← Int32.toInt_inj, Int8.toInt_toInt32, z_32 (by omega), Int8.toInt_ofInt_of_le (by omega) (by omega)]
theorem z_sip {c : Int} (h : -32768 ≤ c ∧ c ≤ 32767) : (Int16.ofInt c).toInt32 = Int32.ofInt c := by
  rw [← Int32.toInt_inj, Int16.toInt_toInt32, z_32 (by omega), Int16.toInt_ofInt_of_le (by omega) (by omega)]
theorem z_i2l {x : Int} (h : -2147483648 ≤ x ∧ x ≤ 2147483647) : (Int32.ofInt x).toInt64 = Int64.ofInt x := by
  rw [← Int64.toInt_inj, Int32.toInt_toInt64, z_32 h, z_64 (by omega)]
theorem z_tdiv_le {x y : Int} (hy : 0 < y) : (0 ≤ x → 0 ≤ x.tdiv y ∧ x.tdiv y ≤ x) ∧ (x ≤ 0 → x ≤ x.tdiv y ∧ x.tdiv y ≤ 0) := by
  constructor
  · intro hx
    rw [Int.tdiv_eq_ediv_of_nonneg hx]
    exact ⟨Int.ediv_nonneg hx (by omega), Int.ediv_le_self y hx⟩
  · intro hx
    have h1 : x.tdiv y = -((-x).tdiv y) := by rw [Int.neg_tdiv]; omega
    rw [h1, Int.tdiv_eq_ediv_of_nonneg (by omega)]
    have h2 := Int.ediv_nonneg (show 0 ≤ -x by omega) (show 0 ≤ y by omega)
    have h3 := Int.ediv_le_self y (show 0 ≤ -x by omega)
    omega
theorem z_emod_le {x y : Int} (hx : 0 ≤ x) (hy : 0 < y) : x % y ≤ x := by
  have h1 := Int.mul_ediv_add_emod x y
  have h2 := Int.mul_nonneg (show 0 ≤ y by omega) (Int.ediv_nonneg hx (show 0 ≤ y by omega))
  omega
theorem z_tmod_le {x y : Int} (hy : 0 < y) : (0 ≤ x → 0 ≤ x.tmod y ∧ x.tmod y ≤ x) ∧ (x ≤ 0 → x ≤ x.tmod y ∧ x.tmod y ≤ 0) := by
  constructor
  · intro hx
    rw [Int.tmod_eq_emod_of_nonneg hx]
    exact ⟨Int.emod_nonneg _ (by omega), z_emod_le hx hy⟩
  · intro hx
    have h1 : x.tmod y = -((-x).tmod y) := by rw [Int.neg_tmod]; omega
    rw [h1, Int.tmod_eq_emod_of_nonneg (by omega)]
    have h2 := Int.emod_nonneg (-x) (show y ≠ 0 by omega)
    have h3 := z_emod_le (x := -x) (y := y) (by omega) hy
    omega
