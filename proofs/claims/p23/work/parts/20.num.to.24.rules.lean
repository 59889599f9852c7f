section
/-! Over numbers: the cells as one function of numbers (group, number in the group's order, field or index), values as numbers; rows that step through a method. -/
abbrev zV : Type := Int ⊕ (Int ⊕ (Nat × Nat))
abbrev zM : Type := Nat → Nat → Int → Int
/-- a field: 0 int, 1 long, 2 boolean; the cell of the same group with that number; that cell -/
abbrev zF : Type := Nat ⊕ (Nat ⊕ (Nat × Nat))
/-- a kind of cell: an object (its class' number, its fields), a row (0 int, 1 long, 2 byte, 3 boolean; its length) -/
abbrev zK : Type := (Nat × List zF) ⊕ (Nat × Nat)
/-- kinds by number; where each stands; what stands there; how many -/
abbrev zL : Type := (Nat → Option zK) × (Nat → Nat → Nat) × (Nat → Nat × Nat) × Nat
abbrev zE : Type := xZ × (Nat → List Value) × (Nat → Option xM) × zL
abbrev zi (x : Int) : zV := .inl x
abbrev zl (x : Int) : zV := .inr (.inl x)
abbrev zr (g k : Nat) : zV := .inr (.inr (g, k))
def z_v (L : zL) (v : zV) : Value := match v with
  | .inl x => .int (Int32.ofInt x)
  | .inr (.inl x) => .long (Int64.ofInt x)
  | .inr (.inr q) => .ref (if q.1 = 99 then q.2 else L.2.1 q.1 q.2 + 8)
def z_val (L : zL) (g k : Nat) : Prop := L.2.1 g k < L.2.2.2 ∧ L.2.2.1 (L.2.1 g k) = (g, k) ∧ g ≠ 99 ∧ ∀ i, i < L.2.2.2 → L.2.2.1 i = (g, k) → i = L.2.1 g k
def z_ok (L : zL) (v : zV) : Prop := match v with
  | .inl x => -2147483648 ≤ x ∧ x ≤ 2147483647
  | .inr (.inl x) => -9223372036854775808 ≤ x ∧ x ≤ 9223372036854775807
  | .inr (.inr q) => (q.1 = 99 ∧ q.2 < 8) ∨ z_val L q.1 q.2
def z_fv (d : zF) (g : Nat) (x : Int) : zV := match d with
  | .inl t => if t = 1 then zl x else zi x
  | .inr (.inl k) => zr g k
  | .inr (.inr q) => zr q.1 q.2
def z_fs (L : zL) (f : Int → Int) (g : Nat) : Nat → List zF → List Value
  | _, [] => []
  | j, d :: r => z_v L (z_fv d g (f j)) :: z_fs L f g (j + 1) r
def z_arr (t N : Nat) (f : Int → Int) : FieldType × vp_A :=
  if t = 0 then (.int, N, .inl fun i => Int32.ofInt (f i)) else if t = 1 then (.long, N, .inr (.inl fun i => Int64.ofInt (f i))) else if t = 2 then (.byte, N, .inl fun i => Int32.ofInt (f i)) else (.boolean, N, .inl fun i => Int32.ofInt (f i))
def z_c (L : zL) (f : Int → Int) (g k : Nat) : xC := match L.1 k with
  | some (.inl q) => .inr (q.1, z_fs L f g 0 q.2)
  | some (.inr q) => .inl (z_arr q.1 q.2 f)
  | none => .inr (0, [])
def z_at (L : zL) (m : zM) (i : Nat) : xC := z_c L (m (L.2.2.1 i).1 (L.2.2.1 i).2) (L.2.2.1 i).1 (L.2.2.1 i).2
def z_u (L : zL) (m : zM) : List xC := (List.range L.2.2.2).map (z_at L m)
/-- the numbers of a row of kind t -/
def z_rg (t : Nat) (x : Int) : Prop := if t = 0 then -2147483648 ≤ x ∧ x ≤ 2147483647 else if t = 1 then -9223372036854775808 ≤ x ∧ x ≤ 9223372036854775807 else if t = 2 then -128 ≤ x ∧ x ≤ 127 else 0 ≤ x ∧ x ≤ 1
def z_ck (L : zL) (f : Int → Int) (g k : Nat) : Prop := match L.1 k with
  | some (.inl q) => ∀ (j : Nat) (d : zF), q.2[j]? = some d → z_ok L (z_fv d g (f j)) ∧ (d = .inl 2 → f j = 0 ∨ f j = 1)
  | some (.inr q) => (∀ i : Int, 0 ≤ i → i < q.2 → z_rg q.1 (f i)) ∧ q.2 < 2147483648
  | none => True
def z_mok (L : zL) (m : zM) : Prop := ∀ g k, z_val L g k → z_ck L (m g k) g k
def z_upd (m : zM) (g k : Nat) (i x : Int) : zM := fun g' k' i' => if g' = g ∧ k' = k ∧ i' = i then x else m g' k' i'
def z_cpy (m : zM) (g1 k1 g0 k0 : Nat) (sp dp n : Int) : zM := fun g k i => if g = g1 ∧ k = k1 ∧ dp ≤ i ∧ i < dp + n then m g0 k0 (i - dp + sp) else m g k i
def z_cut (ks : Option (List Nat)) (lv : List (Nat × zV)) : List (Nat × zV) := match ks with
  | none => lv
  | some ks => lv.filter (fun q => ks.contains q.1)
def z_get (lv : List (Nat × zV)) (i : Nat) : Option zV := (lv.find? fun q => q.1 == i).map fun q => q.2
def z_is2 (v : zV) : Bool := match v with
  | .inr (.inl _) => true
  | _ => false
def z_ins (q : Nat × zV) : List (Nat × zV) → List (Nat × zV)
  | [] => [q]
  | z :: r => if z.1 < q.1 then z :: z_ins q r else q :: z :: r
def z_s1 (lv : List (Nat × zV)) (i : Nat) (v : zV) : List (Nat × zV) := z_ins (i, v) (lv.filter (fun q => !(q.1 == i) && !(q.1 + 1 == i && z_is2 q.2)))
def z_s2 (lv : List (Nat × zV)) (i : Nat) (v : zV) : List (Nat × zV) := z_ins (i, v) (lv.filter (fun q => !(q.1 == i) && (!(q.1 == i + 1) && !(q.1 + 1 == i && z_is2 q.2))))
def z_args : Nat → List zV → List (Nat × zV)
  | _, [] => []
  | i, v :: vs => (i, v) :: z_args (if z_is2 v then i + 2 else i + 1) vs
def z_wd (vs : List zV) : Nat := (vs.map fun v => if z_is2 v then 2 else 1).sum
abbrev z_push (r : Option zV) (st : List zV) : List zV := match r with
  | some v => v :: st
  | none => st
def z_I (E : zE) (j pc : Nat) : Option xI := match E.2.2.1 j with
  | some M => M.2.2.2.2 pc
  | none => none
/-- what a method returns, how many numbers its frame has -/
def z_T (E : zE) (j : Nat) : Option (Option FieldType × Nat) := (E.2.2.1 j).map fun M => (M.2.2.2.1, M.2.2.1)
def z_lv (L : zL) (lv : List (Nat × zV)) : xL := lv.map fun q => (q.1, z_v L q.2)
def X (E : zE) (d j pc : Nat) (lv : List (Nat × zV)) (st : List zV) (m : zM) (Q : Option zV → zM → Prop) : Prop :=
  (∀ q ∈ lv, z_ok E.2.2.2 q.2) → (∀ v ∈ st, z_ok E.2.2.2 v) → z_mok E.2.2.2 m → ∃ c r m', (∀ n, x_exec E.1 E.2.1 E.2.2.1 (n + c) d j pc (z_lv E.2.2.2 lv) (st.map (z_v E.2.2.2)) (z_u E.2.2.2 m) = some (Option.map (z_v E.2.2.2) r, z_u E.2.2.2 m')) ∧ (∀ v, r = some v → z_ok E.2.2.2 v) ∧ z_mok E.2.2.2 m' ∧ Q r m'
-- cells
theorem z_u_at {L : zL} {m : zM} {g k : Nat} (h : z_val L g k) : (z_u L m)[L.2.1 g k]? = some (z_c L (m g k) g k) := by
  unfold z_u
  rw [List.getElem?_map, List.getElem?_range h.1]
  show some (z_at L m (L.2.1 g k)) = _
  unfold z_at
  rw [h.2.1]
theorem z_u_set {L : zL} {m m' : zM} {g k : Nat} {c : xC} (h : z_val L g k) (hc : c = z_c L (m' g k) g k) (hm : ∀ g' k', (g', k') ≠ (g, k) → m' g' k' = m g' k') : (z_u L m).set (L.2.1 g k) c = z_u L m' := by
  apply List.ext_getElem?
  intro i
  rw [List.getElem?_set]
  by_cases hi : L.2.1 g k = i
  · subst hi
    rw [if_pos rfl, if_pos (by unfold z_u; rw [List.length_map, List.length_range]; exact h.1), z_u_at h, hc]
  · rw [if_neg hi]
    unfold z_u
    rw [List.getElem?_map, List.getElem?_map]
    cases hr : (List.range L.2.2.2)[i]? with
    | none => rfl
    | some i' =>
      have hii : i' = i := by
        have h1 := List.getElem?_eq_some_iff.mp hr
        obtain ⟨h2, h3⟩ := h1
        rw [List.getElem_range] at h3
        exact h3.symm
      subst hii
      show some (z_at L m i') = some (z_at L m' i')
      unfold z_at
      rw [hm]
      intro e
      have e1 : L.2.2.1 i' = (g, k) := by rw [← e]
      refine hi (h.2.2.2 i' ?_ e1).symm
      have h2 := (List.getElem?_eq_some_iff.mp hr).1
      rwa [List.length_range] at h2
theorem z_v_ref {L : zL} {g k : Nat} (h : z_val L g k) : z_v L (zr g k) = .ref (L.2.1 g k + 8) := by
  show Value.ref (if g = 99 then k else _) = _
  rw [if_neg h.2.2.1]
theorem z_v_old {L : zL} {k : Nat} : z_v L (zr 99 k) = .ref k := rfl
theorem z_fs_get {L : zL} {f : Int → Int} {g : Nat} : ∀ (fs : List zF) (j0 j : Nat), (z_fs L f g j0 fs)[j]? = (fs[j]?).map fun d => z_v L (z_fv d g (f ((j0 + j : Nat) : Int)))
  | [], _, _ => by simp [z_fs]
  | d :: r, j0, 0 => by simp [z_fs]
  | d :: r, j0, j + 1 => by
    have h := z_fs_get (L := L) (f := f) (g := g) r (j0 + 1) j
    simp only [z_fs, List.getElem?_cons_succ, h]
    rw [show j0 + 1 + j = j0 + (j + 1) by omega]
theorem z_fs_len {L : zL} {f : Int → Int} {g : Nat} : ∀ (fs : List zF) (j0 : Nat), (z_fs L f g j0 fs).length = fs.length
  | [], _ => rfl
  | d :: r, j0 => by simp [z_fs, z_fs_len r (j0 + 1)]
theorem z_fs_set {L : zL} {f f' : Int → Int} {g : Nat} (fs : List zF) (j : Nat) (v : Value) (d : zF) (hd : fs[j]? = some d) (hv : v = z_v L (z_fv d g (f' j))) (hf : ∀ i : Nat, i ≠ j → f' i = f i) : (z_fs L f g 0 fs).set j v = z_fs L f' g 0 fs := by
  apply List.ext_getElem?
  intro i
  rw [List.getElem?_set, z_fs_get, z_fs_get]
  by_cases hi : j = i
  · subst hi
    have hl : j < fs.length := (List.getElem?_eq_some_iff.mp hd).1
    rw [if_pos rfl, if_pos (by rw [z_fs_len]; exact hl), hd, hv]
    simp
  · rw [if_neg hi]
    cases fs[i]? with
    | none => rfl
    | some d' => simp only [Option.map_some, Nat.zero_add]; rw [hf i (fun e => hi e.symm)]
-- values
theorem z_v_cat (L : zL) (v : zV) : (z_v L v).category = if z_is2 v then 2 else 1 := by
  match v with
  | .inl x => rfl
  | .inr (.inl x) => rfl
  | .inr (.inr q) => rfl
theorem z_cats (L : zL) (vs : List zV) : ((vs.map (z_v L)).map fun v => v.category).sum = z_wd vs := by
  unfold z_wd
  rw [List.map_map]
  congr 1
  exact List.map_congr_left fun v _ => z_v_cat L v
theorem z_get_lv (L : zL) (lv : List (Nat × zV)) (i : Nat) : x_get (z_lv L lv) i = (z_get lv i).map (z_v L) := by
  unfold x_get z_get z_lv
  rw [List.find?_map]
  simp only [Option.map_map]
  rfl
theorem z_cut_lv (L : zL) (ks : Option (List Nat)) (lv : List (Nat × zV)) : x_cut ks (z_lv L lv) = z_lv L (z_cut ks lv) := by
  unfold x_cut z_cut z_lv
  cases ks with
  | none => rfl
  | some ks => simp only [List.filter_map]; rfl
theorem z_ins_lv (L : zL) (i : Nat) (v : zV) : ∀ lv : List (Nat × zV), x_ins (i, z_v L v) (z_lv L lv) = z_lv L (z_ins (i, v) lv)
  | [] => rfl
  | q :: r => by
    have h := z_ins_lv L i v r
    unfold z_lv at h ⊢
    simp only [List.map_cons, x_ins, z_ins]
    split
    · rw [h]; rfl
    · rfl
theorem z_s1_lv (L : zL) (lv : List (Nat × zV)) (i : Nat) (v : zV) : x_s1 (z_lv L lv) i (z_v L v) = z_lv L (z_s1 lv i v) := by
  unfold x_s1 z_s1
  rw [← z_ins_lv]
  congr 1
  unfold z_lv
  rw [List.filter_map]
  congr 1
  apply List.filter_congr
  intro q _
  simp only [Function.comp_apply, z_v_cat]
  cases z_is2 q.2 <;> simp
theorem z_s2_lv (L : zL) (lv : List (Nat × zV)) (i : Nat) (v : zV) : x_s2 (z_lv L lv) i (z_v L v) = z_lv L (z_s2 lv i v) := by
  unfold x_s2 z_s2
  rw [← z_ins_lv]
  congr 1
  unfold z_lv
  rw [List.filter_map]
  congr 1
  apply List.filter_congr
  intro q _
  simp only [Function.comp_apply, z_v_cat]
  cases z_is2 q.2 <;> simp
theorem z_args_lv (L : zL) : ∀ (vs : List zV) (i : Nat), lv_args i (vs.map (z_v L)) = z_lv L (z_args i vs)
  | [], _ => rfl
  | v :: vs, i => by
    have h := z_args_lv L vs (if z_is2 v then i + 2 else i + 1)
    unfold z_lv at h ⊢
    simp only [List.map_cons, lv_args, z_args, z_v_cat]
    rw [← h]
    cases z_is2 v <;> rfl
theorem z_ins_mem {q z : Nat × zV} : ∀ {l : List (Nat × zV)}, z ∈ z_ins q l → z = q ∨ z ∈ l
  | [], h => .inl (List.mem_singleton.mp h)
  | y :: r, h => by
    unfold z_ins at h
    split at h
    · rcases List.mem_cons.mp h with h | h
      · exact .inr (List.mem_cons.mpr (.inl h))
      · rcases z_ins_mem h with h | h
        · exact .inl h
        · exact .inr (List.mem_cons.mpr (.inr h))
    · exact List.mem_cons.mp h
theorem z_get_mem {lv : List (Nat × zV)} {i : Nat} {v : zV} (h : z_get lv i = some v) : ∃ q ∈ lv, q.2 = v := by
  unfold z_get at h
  obtain ⟨q, h1, h2⟩ := Option.map_eq_some_iff.mp h
  exact ⟨q, List.mem_of_find?_eq_some h1, h2⟩
theorem z_args_mem : ∀ {vs : List zV} {i : Nat} {q : Nat × zV}, q ∈ z_args i vs → q.2 ∈ vs
  | [], _, _, h => by simp [z_args] at h
  | v :: vs, i, q, h => by
    simp only [z_args] at h
    rcases List.mem_cons.mp h with h | h
    · rw [h]; exact List.mem_cons_self
    · exact List.mem_cons_of_mem _ (z_args_mem h)
-- numbers
theorem z_32 {x : Int} (h : -2147483648 ≤ x ∧ x ≤ 2147483647) : (Int32.ofInt x).toInt = x := Int32.toInt_ofInt_of_le (by omega) (by omega)
theorem z_64 {x : Int} (h : -9223372036854775808 ≤ x ∧ x ≤ 9223372036854775807) : (Int64.ofInt x).toInt = x := Int64.toInt_ofInt_of_le (by omega) (by omega)
theorem z_r32 (a : Int32) : -2147483648 ≤ a.toInt ∧ a.toInt ≤ 2147483647 := by have h1 := a.toInt_lt; have h2 := a.le_toInt; omega
theorem z_r64 (a : Int64) : -9223372036854775808 ≤ a.toInt ∧ a.toInt ≤ 9223372036854775807 := by have h1 := a.toInt_lt; have h2 := a.le_toInt; omega
theorem z_eq32 {x y : Int} (hx : -2147483648 ≤ x ∧ x ≤ 2147483647) (hy : -2147483648 ≤ y ∧ y ≤ 2147483647) : Int32.ofInt x = Int32.ofInt y ↔ x = y := by
  rw [← Int32.toInt_inj, z_32 hx, z_32 hy]
theorem z_lt32 {x y : Int} (hx : -2147483648 ≤ x ∧ x ≤ 2147483647) (hy : -2147483648 ≤ y ∧ y ≤ 2147483647) : Int32.ofInt x < Int32.ofInt y ↔ x < y := by
  rw [Int32.lt_iff_toInt_lt, z_32 hx, z_32 hy]
theorem z_le32 {x y : Int} (hx : -2147483648 ≤ x ∧ x ≤ 2147483647) (hy : -2147483648 ≤ y ∧ y ≤ 2147483647) : Int32.ofInt x ≤ Int32.ofInt y ↔ x ≤ y := by
  rw [Int32.le_iff_toInt_le, z_32 hx, z_32 hy]
theorem z_eq64 {x y : Int} (hx : -9223372036854775808 ≤ x ∧ x ≤ 9223372036854775807) (hy : -9223372036854775808 ≤ y ∧ y ≤ 9223372036854775807) : Int64.ofInt x = Int64.ofInt y ↔ x = y := by
  rw [← Int64.toInt_inj, z_64 hx, z_64 hy]
theorem z_lt64 {x y : Int} (hx : -9223372036854775808 ≤ x ∧ x ≤ 9223372036854775807) (hy : -9223372036854775808 ≤ y ∧ y ≤ 9223372036854775807) : Int64.ofInt x < Int64.ofInt y ↔ x < y := by
  rw [Int64.lt_iff_toInt_lt, z_64 hx, z_64 hy]
theorem z_cl {x : Int} (h : -2147483648 ≤ x ∧ x ≤ 2147483647) : (Int32.ofInt x).toNatClampNeg = x.toNat := Int32.toNatClampNeg_ofInt_of_le (by omega) (by omega)
theorem z_in {x : Int} {N : Nat} (h : -2147483648 ≤ x ∧ x ≤ 2147483647) (h0 : 0 ≤ x) (hN : x < N) : ¬ (Int32.ofInt x < 0 ∨ N ≤ (Int32.ofInt x).toNatClampNeg) := by
  rw [z_cl h, show (0 : Int32) = Int32.ofInt 0 from rfl, z_lt32 h (by omega)]
  omega
theorem z_div32 {x y : Int} (hx : -2147483648 ≤ x ∧ x ≤ 2147483647) (hy : -2147483648 ≤ y ∧ y ≤ 2147483647) : Int32.ofInt x / Int32.ofInt y = Int32.ofInt (x.tdiv y) := (Int32.ofInt_tdiv hx.1 hx.2 hy.1 hy.2).symm
theorem z_div64 {x y : Int} (hx : -9223372036854775808 ≤ x ∧ x ≤ 9223372036854775807) (hy : -9223372036854775808 ≤ y ∧ y ≤ 9223372036854775807) : Int64.ofInt x / Int64.ofInt y = Int64.ofInt (x.tdiv y) := (Int64.ofInt_tdiv hx.1 hx.2 hy.1 hy.2).symm
theorem z_rem32 {x y : Int} (hx : -2147483648 ≤ x ∧ x ≤ 2147483647) (hy : -2147483648 ≤ y ∧ y ≤ 2147483647) : Int32.ofInt x - Int32.ofInt x / Int32.ofInt y * Int32.ofInt y = Int32.ofInt (x.tmod y) := by
  rw [z_div32 hx hy, ← Int32.ofInt_mul, ← Int32.ofInt_sub]
  congr 1
  have := Int.tmod_add_mul_tdiv x y
  rw [Int.mul_comm] at this
  omega
theorem z_rem64 {x y : Int} (hx : -9223372036854775808 ≤ x ∧ x ≤ 9223372036854775807) (hy : -9223372036854775808 ≤ y ∧ y ≤ 9223372036854775807) : Int64.ofInt x - Int64.ofInt x / Int64.ofInt y * Int64.ofInt y = Int64.ofInt (x.tmod y) := by
  rw [z_div64 hx hy, ← Int64.ofInt_mul, ← Int64.ofInt_sub]
  congr 1
  have := Int.tmod_add_mul_tdiv x y
  rw [Int.mul_comm] at this
  omega
theorem z_bip {c : Int} (h : -128 ≤ c ∧ c ≤ 127) : (Int8.ofInt c).toInt32 = Int32.ofInt c := by
  rw [← Int32.toInt_inj, Int8.toInt_toInt32, z_32 (by omega), Int8.toInt_ofInt_of_le (by omega) (by omega)]
theorem z_sip {c : Int} (h : -32768 ≤ c ∧ c ≤ 32767) : (Int16.ofInt c).toInt32 = Int32.ofInt c := by
  rw [← Int32.toInt_inj, Int16.toInt_toInt32, z_32 (by omega), Int16.toInt_ofInt_of_le (by omega) (by omega)]
theorem z_i2l {x : Int} (h : -2147483648 ≤ x ∧ x ≤ 2147483647) : (Int32.ofInt x).toInt64 = Int64.ofInt x := by
  rw [← Int64.toInt_inj, Int32.toInt_toInt64, z_32 h, z_64 (by omega)]
theorem z_tdiv_le {x y : Int} (hy : 0 < y) : (0 ≤ x → 0 ≤ x.tdiv y ∧ x.tdiv y ≤ x) ∧ (x ≤ 0 → x ≤ x.tdiv y ∧ x.tdiv y ≤ 0) := by
  constructor
  · intro hx
    rw [Int.tdiv_eq_ediv_of_nonneg hx]
    exact ⟨Int.ediv_nonneg hx (by omega), Int.ediv_le_self y hx⟩
  · intro hx
    have h1 : x.tdiv y = -((-x).tdiv y) := by rw [Int.neg_tdiv]; omega
    rw [h1, Int.tdiv_eq_ediv_of_nonneg (by omega)]
    have h2 := Int.ediv_nonneg (show 0 ≤ -x by omega) (show 0 ≤ y by omega)
    have h3 := Int.ediv_le_self y (show 0 ≤ -x by omega)
    omega
theorem z_emod_le {x y : Int} (hx : 0 ≤ x) (hy : 0 < y) : x % y ≤ x := by
  have h1 := Int.mul_ediv_add_emod x y
  have h2 := Int.mul_nonneg (show 0 ≤ y by omega) (Int.ediv_nonneg hx (show 0 ≤ y by omega))
  omega
theorem z_tmod_le {x y : Int} (hy : 0 < y) : (0 ≤ x → 0 ≤ x.tmod y ∧ x.tmod y ≤ x) ∧ (x ≤ 0 → x ≤ x.tmod y ∧ x.tmod y ≤ 0) := by
  constructor
  · intro hx
    rw [Int.tmod_eq_emod_of_nonneg hx]
    exact ⟨Int.emod_nonneg _ (by omega), z_emod_le hx hy⟩
  · intro hx
    have h1 : x.tmod y = -((-x).tmod y) := by rw [Int.neg_tmod]; omega
    rw [h1, Int.tmod_eq_emod_of_nonneg (by omega)]
    have h2 := Int.emod_nonneg (-x) (show y ≠ 0 by omega)
    have h3 := z_emod_le (x := -x) (y := y) (by omega) hy
    omega
end
section
/-! The rows: a step each. -/
section
variable {E : zE} {d j pc : Nat} {lv : List (Nat × zV)} {st : List zV} {m : zM} {Q : Option zV → zM → Prop}
theorem z_unf {scr : xZ} {df : Nat → List Value} {P : Nat → Option xM} {M : xM} {x : xI} {n : Nat} {lv : xL} {st : List Value} {u : List xC} (hM : P j = some M) (hx : M.2.2.2.2 pc = some x) : x_exec scr df P (n + 1) d j pc lv st u = x_step scr df (fun j' As h' => match d with
          | 0 => none
          | d' + 1 => match P j' with
            | some M' => if (As.map fun v => v.category).sum ≤ M'.2.2.1 then x_exec scr df P n d' j' 0 (lv_args 0 As) [] h' else none
            | none => none) d M x pc (x_cut x.2.2.2.2 lv) st u (fun pc lv st u => x_exec scr df P n d j pc lv st u) := by
  rw [x_exec, hM]
  dsimp only
  rw [hx]
  rfl
theorem z_I_inv {x : xI} (h : z_I E j pc = some x) : ∃ M, E.2.2.1 j = some M ∧ M.2.2.2.2 pc = some x := by
  unfold z_I at h
  split at h
  · exact ⟨_, by assumption, h⟩
  · cases h
theorem X.mono {Q' : Option zV → zM → Prop} (h : X E d j pc lv st m Q) (k : ∀ r m', Q r m' → Q' r m') : X E d j pc lv st m Q' := by
  intro h1 h2 h3
  obtain ⟨c, r, m', a1, a2, a3, a4⟩ := h h1 h2 h3
  exact ⟨c, r, m', a1, a2, a3, k r m' a4⟩
/-- a step that goes on in the same frame -/
theorem X.go {x : xI} {pc' : Nat} {lv' : List (Nat × zV)} {st' : List zV} {m' : zM} (hi : z_I E j pc = some x) (hc : z_cut x.2.2.2.2 lv = lv)
    (hok : (∀ q ∈ lv, z_ok E.2.2.2 q.2) → (∀ v ∈ st, z_ok E.2.2.2 v) → z_mok E.2.2.2 m → (∀ q ∈ lv', z_ok E.2.2.2 q.2) ∧ (∀ v ∈ st', z_ok E.2.2.2 v) ∧ z_mok E.2.2.2 m' ∧
      ∀ (call : Nat → List Value → List xC → Option xR) (M : xM) (k : Nat → xL → List Value → List xC → Option xR), x_step E.1 E.2.1 call d M x pc (z_lv E.2.2.2 lv) (st.map (z_v E.2.2.2)) (z_u E.2.2.2 m) k = k pc' (z_lv E.2.2.2 lv') (st'.map (z_v E.2.2.2)) (z_u E.2.2.2 m'))
    (kk : X E d j pc' lv' st' m' Q) : X E d j pc lv st m Q := by
  intro h1 h2 h3
  obtain ⟨g1, g2, g3, g4⟩ := hok h1 h2 h3
  obtain ⟨c, r, m1, a1, a2, a3, a4⟩ := kk g1 g2 g3
  obtain ⟨M, hM, hx⟩ := z_I_inv hi
  refine ⟨c + 1, r, m1, fun n => ?_, a2, a3, a4⟩
  rw [← Nat.add_assoc, z_unf hM hx, z_cut_lv, hc, g4]
  exact a1 n
/-- what the frame keeps here -/
theorem X.cut {x : xI} (lv' : List (Nat × zV)) (hi : z_I E j pc = some x) (hc : z_cut x.2.2.2.2 lv = lv') (kk : X E d j pc lv' st m Q) : X E d j pc lv st m Q := by
  intro h1 h2 h3
  have h1' : ∀ q ∈ lv', z_ok E.2.2.2 q.2 := by
    intro q hq
    rw [← hc] at hq
    unfold z_cut at hq
    split at hq
    · exact h1 q hq
    · exact h1 q (List.mem_filter.mp hq).1
  obtain ⟨c, r, m1, a1, a2, a3, a4⟩ := kk h1' h2 h3
  obtain ⟨M, hM, hx⟩ := z_I_inv hi
  refine ⟨c + 1, r, m1, fun n => ?_, a2, a3, a4⟩
  have e1 := a1 (n + 1)
  rw [show n + 1 + c = (n + c) + 1 by omega, z_unf hM hx, z_cut_lv] at e1
  rw [← Nat.add_assoc, z_unf hM hx, z_cut_lv, hc, ← e1, ← hc]
  congr 2
  unfold z_cut
  split
  · rfl
  · rw [List.filter_filter]; simp
-- numbers
theorem X.num {ins : Instr} {n : Nat} {q : Nat × Nat × Nat × Nat} {c : Value} {ks : Option (List Nat)} {st' : List zV} (pc' : Nat) (hi : z_I E j pc = some (ins, n, q, c, ks)) (hc : z_cut ks lv = lv) (hp : pc + n = pc') (h0 : x_kind ins = 0)
    (kk : X E d j pc' lv st' m Q) (hok : (∀ v ∈ st, z_ok E.2.2.2 v) → (∀ v ∈ st', z_ok E.2.2.2 v) ∧ ∀ k : List Value → Option xR, x_pure ins n (st.map (z_v E.2.2.2)) k = k (st'.map (z_v E.2.2.2))) : X E d j pc lv st m Q := by
  subst hp
  refine X.go hi hc (fun h1 h2 h3 => ?_) kk
  obtain ⟨g1, g2⟩ := hok h2
  refine ⟨h1, g1, h3, fun call M k => ?_⟩
  unfold x_step
  rw [h0]
  dsimp only
  rw [g2]
  rfl
variable {q : Nat × Nat × Nat × Nat} {c : Value} {ks : Option (List Nat)}
theorem z_cons {L : zL} {v : zV} {st : List zV} (h : z_ok L v) (hs : ∀ w ∈ st, z_ok L w) : ∀ w ∈ v :: st, z_ok L w := by
  intro w hw
  rcases List.mem_cons.mp hw with rfl | hw
  · exact h
  · exact hs w hw
theorem z_tl {L : zL} {v : zV} {st : List zV} (hs : ∀ w ∈ v :: st, z_ok L w) : ∀ w ∈ st, z_ok L w := fun w hw => hs w (List.mem_cons_of_mem _ hw)
theorem z_hd {L : zL} {v : zV} {st : List zV} (hs : ∀ w ∈ v :: st, z_ok L w) : z_ok L v := hs v List.mem_cons_self
theorem X.iconst (pc' : Nat) {x : Int} (hi : z_I E j pc = some (.iconst x, 1, q, c, ks)) (hc : z_cut ks lv = lv) (hp : pc + 1 = pc') (hx : -2147483648 ≤ x ∧ x ≤ 2147483647) (kk : X E d j pc' lv (zi x :: st) m Q) : X E d j pc lv st m Q :=
  X.num pc' hi hc hp rfl kk (fun h => ⟨z_cons hx h, fun _ => rfl⟩)
theorem X.bipush (pc' : Nat) {x : Int} (hi : z_I E j pc = some (.bipush x, 2, q, c, ks)) (hc : z_cut ks lv = lv) (hp : pc + 2 = pc') (hx : -128 ≤ x ∧ x ≤ 127) (kk : X E d j pc' lv (zi x :: st) m Q) : X E d j pc lv st m Q :=
  X.num pc' hi hc hp rfl kk (fun h => ⟨z_cons (show -2147483648 ≤ x ∧ x ≤ 2147483647 by omega) h, fun _ => by
    show x_push 2 2 (.int (Int8.ofInt x).toInt32) _ _ = _
    rw [z_bip hx]; rfl⟩)
theorem X.sipush (pc' : Nat) {x : Int} (hi : z_I E j pc = some (.sipush x, 3, q, c, ks)) (hc : z_cut ks lv = lv) (hp : pc + 3 = pc') (hx : -32768 ≤ x ∧ x ≤ 32767) (kk : X E d j pc' lv (zi x :: st) m Q) : X E d j pc lv st m Q :=
  X.num pc' hi hc hp rfl kk (fun h => ⟨z_cons (show -2147483648 ≤ x ∧ x ≤ 2147483647 by omega) h, fun _ => by
    show x_push 3 3 (.int (Int16.ofInt x).toInt32) _ _ = _
    rw [z_sip hx]; rfl⟩)
theorem X.lconst (pc' : Nat) {x : Fin 2} {y : Int} (hi : z_I E j pc = some (.lconst x, 1, q, c, ks)) (hc : z_cut ks lv = lv) (hp : pc + 1 = pc') (hy : ((x : Nat) : Int) = y) (kk : X E d j pc' lv (zl y :: st) m Q) : X E d j pc lv st m Q :=
  X.num pc' hi hc hp rfl kk (fun h => ⟨z_cons (show -9223372036854775808 ≤ y ∧ y ≤ 9223372036854775807 by have := x.isLt; omega) h, fun _ => by
    show x_push 1 1 (.long (Int64.ofNat (x : Nat))) _ _ = _
    rw [← Int64.ofInt_eq_ofNat, hy]; rfl⟩)
theorem X.iadd (pc' : Nat) {x y : Int} (hi : z_I E j pc = some (.iadd, 1, q, c, ks)) (hc : z_cut ks lv = lv) (hp : pc + 1 = pc') (hx : -2147483648 ≤ x + y ∧ x + y ≤ 2147483647) (kk : X E d j pc' lv (zi (x + y) :: st) m Q) : X E d j pc lv (zi y :: zi x :: st) m Q :=
  X.num pc' hi hc hp rfl kk (fun h => ⟨z_cons hx (z_tl (z_tl h)), fun _ => by
    show x_ii (fun x y => x + y) 1 (.int (Int32.ofInt y) :: .int (Int32.ofInt x) :: _) _ = _
    simp only [x_ii, if_true, ← Int32.ofInt_add]; rfl⟩)
theorem X.isub (pc' : Nat) {x y : Int} (hi : z_I E j pc = some (.isub, 1, q, c, ks)) (hc : z_cut ks lv = lv) (hp : pc + 1 = pc') (hx : -2147483648 ≤ x - y ∧ x - y ≤ 2147483647) (kk : X E d j pc' lv (zi (x - y) :: st) m Q) : X E d j pc lv (zi y :: zi x :: st) m Q :=
  X.num pc' hi hc hp rfl kk (fun h => ⟨z_cons hx (z_tl (z_tl h)), fun _ => by
    show x_ii (fun x y => x - y) 1 (.int (Int32.ofInt y) :: .int (Int32.ofInt x) :: _) _ = _
    simp only [x_ii, if_true, ← Int32.ofInt_sub]; rfl⟩)
theorem X.imul (pc' : Nat) {x y : Int} (hi : z_I E j pc = some (.imul, 1, q, c, ks)) (hc : z_cut ks lv = lv) (hp : pc + 1 = pc') (hx : -2147483648 ≤ x * y ∧ x * y ≤ 2147483647) (kk : X E d j pc' lv (zi (x * y) :: st) m Q) : X E d j pc lv (zi y :: zi x :: st) m Q :=
  X.num pc' hi hc hp rfl kk (fun h => ⟨z_cons hx (z_tl (z_tl h)), fun _ => by
    show x_ii (fun x y => x * y) 1 (.int (Int32.ofInt y) :: .int (Int32.ofInt x) :: _) _ = _
    simp only [x_ii, if_true, ← Int32.ofInt_mul]; rfl⟩)
theorem X.ladd (pc' : Nat) {x y : Int} (hi : z_I E j pc = some (.ladd, 1, q, c, ks)) (hc : z_cut ks lv = lv) (hp : pc + 1 = pc') (hx : -9223372036854775808 ≤ x + y ∧ x + y ≤ 9223372036854775807) (kk : X E d j pc' lv (zl (x + y) :: st) m Q) : X E d j pc lv (zl y :: zl x :: st) m Q :=
  X.num pc' hi hc hp rfl kk (fun h => ⟨z_cons hx (z_tl (z_tl h)), fun _ => by
    show x_ll (fun x y => x + y) 1 (.long (Int64.ofInt y) :: .long (Int64.ofInt x) :: _) _ = _
    simp only [x_ll, if_true, ← Int64.ofInt_add]; rfl⟩)
theorem X.lsub (pc' : Nat) {x y : Int} (hi : z_I E j pc = some (.lsub, 1, q, c, ks)) (hc : z_cut ks lv = lv) (hp : pc + 1 = pc') (hx : -9223372036854775808 ≤ x - y ∧ x - y ≤ 9223372036854775807) (kk : X E d j pc' lv (zl (x - y) :: st) m Q) : X E d j pc lv (zl y :: zl x :: st) m Q :=
  X.num pc' hi hc hp rfl kk (fun h => ⟨z_cons hx (z_tl (z_tl h)), fun _ => by
    show x_ll (fun x y => x - y) 1 (.long (Int64.ofInt y) :: .long (Int64.ofInt x) :: _) _ = _
    simp only [x_ll, if_true, ← Int64.ofInt_sub]; rfl⟩)
theorem X.lmul (pc' : Nat) {x y : Int} (hi : z_I E j pc = some (.lmul, 1, q, c, ks)) (hc : z_cut ks lv = lv) (hp : pc + 1 = pc') (hx : -9223372036854775808 ≤ x * y ∧ x * y ≤ 9223372036854775807) (kk : X E d j pc' lv (zl (x * y) :: st) m Q) : X E d j pc lv (zl y :: zl x :: st) m Q :=
  X.num pc' hi hc hp rfl kk (fun h => ⟨z_cons hx (z_tl (z_tl h)), fun _ => by
    show x_ll (fun x y => x * y) 1 (.long (Int64.ofInt y) :: .long (Int64.ofInt x) :: _) _ = _
    simp only [x_ll, if_true, ← Int64.ofInt_mul]; rfl⟩)
theorem X.ineg (pc' : Nat) {x : Int} (hi : z_I E j pc = some (.ineg, 1, q, c, ks)) (hc : z_cut ks lv = lv) (hp : pc + 1 = pc') (hx : -2147483648 ≤ -x ∧ -x ≤ 2147483647) (kk : X E d j pc' lv (zi (-x) :: st) m Q) : X E d j pc lv (zi x :: st) m Q :=
  X.num pc' hi hc hp rfl kk (fun h => ⟨z_cons hx (z_tl h), fun _ => by
    show x_i1 (fun x => -x) 1 (.int (Int32.ofInt x) :: _) _ = _
    simp only [x_i1, if_true, ← Int32.ofInt_neg]; rfl⟩)
theorem X.lneg (pc' : Nat) {x : Int} (hi : z_I E j pc = some (.lneg, 1, q, c, ks)) (hc : z_cut ks lv = lv) (hp : pc + 1 = pc') (hx : -9223372036854775808 ≤ -x ∧ -x ≤ 9223372036854775807) (kk : X E d j pc' lv (zl (-x) :: st) m Q) : X E d j pc lv (zl x :: st) m Q :=
  X.num pc' hi hc hp rfl kk (fun h => ⟨z_cons hx (z_tl h), fun _ => by
    show x_l1 (fun x => -x) 1 (.long (Int64.ofInt x) :: _) _ = _
    simp only [x_l1, if_true, ← Int64.ofInt_neg]; rfl⟩)
theorem z_ne32 {y : Int} (h : -2147483648 ≤ y ∧ y ≤ 2147483647) (hy : y ≠ 0) : ¬ Int32.ofInt y = 0 := fun e => hy ((z_eq32 h (y := 0) (by omega)).mp e)
theorem z_ne64 {y : Int} (h : -9223372036854775808 ≤ y ∧ y ≤ 9223372036854775807) (hy : y ≠ 0) : ¬ Int64.ofInt y = 0 := fun e => hy ((z_eq64 h (y := 0) (by omega)).mp e)
theorem X.idiv (pc' : Nat) {x y : Int} (hi : z_I E j pc = some (.idiv, 1, q, c, ks)) (hc : z_cut ks lv = lv) (hp : pc + 1 = pc') (hy : 0 ≤ x ∧ 0 < y) (kk : X E d j pc' lv (zi (x / y) :: st) m Q) : X E d j pc lv (zi y :: zi x :: st) m Q :=
  X.num pc' hi hc hp rfl kk (fun h => by
    have hx1 : -2147483648 ≤ x ∧ x ≤ 2147483647 := z_hd (z_tl h)
    have hy1 : -2147483648 ≤ y ∧ y ≤ 2147483647 := z_hd h
    have h1 := (z_tdiv_le (x := x) hy.2).1 hy.1
    rw [Int.tdiv_eq_ediv_of_nonneg hy.1] at h1
    refine ⟨z_cons (show -2147483648 ≤ x / y ∧ x / y ≤ 2147483647 by omega) (z_tl (z_tl h)), fun _ => ?_⟩
    show x_id (fun x y => x / y) 1 (.int (Int32.ofInt y) :: .int (Int32.ofInt x) :: _) _ = _
    simp only [x_id, if_true, if_neg (z_ne32 hy1 (by omega)), z_div32 hx1 hy1, Int.tdiv_eq_ediv_of_nonneg hy.1]; rfl)
theorem X.irem (pc' : Nat) {x y : Int} (hi : z_I E j pc = some (.irem, 1, q, c, ks)) (hc : z_cut ks lv = lv) (hp : pc + 1 = pc') (hy : 0 ≤ x ∧ 0 < y) (kk : X E d j pc' lv (zi (x % y) :: st) m Q) : X E d j pc lv (zi y :: zi x :: st) m Q :=
  X.num pc' hi hc hp rfl kk (fun h => by
    have hx1 : -2147483648 ≤ x ∧ x ≤ 2147483647 := z_hd (z_tl h)
    have hy1 : -2147483648 ≤ y ∧ y ≤ 2147483647 := z_hd h
    have h1 := (z_tmod_le (x := x) hy.2).1 hy.1
    rw [Int.tmod_eq_emod_of_nonneg hy.1] at h1
    refine ⟨z_cons (show -2147483648 ≤ x % y ∧ x % y ≤ 2147483647 by omega) (z_tl (z_tl h)), fun _ => ?_⟩
    show x_id (fun x y => x - x / y * y) 1 (.int (Int32.ofInt y) :: .int (Int32.ofInt x) :: _) _ = _
    simp only [x_id, if_true, if_neg (z_ne32 hy1 (by omega)), z_rem32 hx1 hy1, Int.tmod_eq_emod_of_nonneg hy.1]; rfl)
theorem X.ldiv (pc' : Nat) {x y : Int} (hi : z_I E j pc = some (.ldiv, 1, q, c, ks)) (hc : z_cut ks lv = lv) (hp : pc + 1 = pc') (hy : 0 < y) (kk : X E d j pc' lv (zl (x.tdiv y) :: st) m Q) : X E d j pc lv (zl y :: zl x :: st) m Q :=
  X.num pc' hi hc hp rfl kk (fun h => by
    have hx1 : -9223372036854775808 ≤ x ∧ x ≤ 9223372036854775807 := z_hd (z_tl h)
    have hy1 : -9223372036854775808 ≤ y ∧ y ≤ 9223372036854775807 := z_hd h
    have h1 := z_tdiv_le (x := x) hy
    refine ⟨z_cons (show -9223372036854775808 ≤ x.tdiv y ∧ x.tdiv y ≤ 9223372036854775807 by rcases Int.le_total 0 x with h2 | h2 <;> omega) (z_tl (z_tl h)), fun _ => ?_⟩
    show x_ld (fun x y => x / y) 1 (.long (Int64.ofInt y) :: .long (Int64.ofInt x) :: _) _ = _
    simp only [x_ld, if_true, if_neg (z_ne64 hy1 (by omega)), z_div64 hx1 hy1]; rfl)
theorem X.ldivp (pc' : Nat) {x y : Int} (hi : z_I E j pc = some (.ldiv, 1, q, c, ks)) (hc : z_cut ks lv = lv) (hp : pc + 1 = pc') (hy : 0 ≤ x ∧ 0 < y) (kk : X E d j pc' lv (zl (x / y) :: st) m Q) : X E d j pc lv (zl y :: zl x :: st) m Q :=
  X.ldiv pc' hi hc hp hy.2 (by rw [Int.tdiv_eq_ediv_of_nonneg hy.1]; exact kk)
theorem X.lrem (pc' : Nat) {x y : Int} (hi : z_I E j pc = some (.lrem, 1, q, c, ks)) (hc : z_cut ks lv = lv) (hp : pc + 1 = pc') (hy : 0 < y) (kk : X E d j pc' lv (zl (x.tmod y) :: st) m Q) : X E d j pc lv (zl y :: zl x :: st) m Q :=
  X.num pc' hi hc hp rfl kk (fun h => by
    have hx1 : -9223372036854775808 ≤ x ∧ x ≤ 9223372036854775807 := z_hd (z_tl h)
    have hy1 : -9223372036854775808 ≤ y ∧ y ≤ 9223372036854775807 := z_hd h
    have h1 := z_tmod_le (x := x) hy
    refine ⟨z_cons (show -9223372036854775808 ≤ x.tmod y ∧ x.tmod y ≤ 9223372036854775807 by rcases Int.le_total 0 x with h2 | h2 <;> omega) (z_tl (z_tl h)), fun _ => ?_⟩
    show x_ld (fun x y => x - x / y * y) 1 (.long (Int64.ofInt y) :: .long (Int64.ofInt x) :: _) _ = _
    simp only [x_ld, if_true, if_neg (z_ne64 hy1 (by omega)), z_rem64 hx1 hy1]; rfl)
theorem X.lremp (pc' : Nat) {x y : Int} (hi : z_I E j pc = some (.lrem, 1, q, c, ks)) (hc : z_cut ks lv = lv) (hp : pc + 1 = pc') (hy : 0 ≤ x ∧ 0 < y) (kk : X E d j pc' lv (zl (x % y) :: st) m Q) : X E d j pc lv (zl y :: zl x :: st) m Q :=
  X.lrem pc' hi hc hp hy.2 (by rw [Int.tmod_eq_emod_of_nonneg hy.1]; exact kk)
theorem X.i2l (pc' : Nat) {x : Int} (hi : z_I E j pc = some (.i2l, 1, q, c, ks)) (hc : z_cut ks lv = lv) (hp : pc + 1 = pc') (kk : X E d j pc' lv (zl x :: st) m Q) : X E d j pc lv (zi x :: st) m Q :=
  X.num pc' hi hc hp rfl kk (fun h => by
    have hx1 : -2147483648 ≤ x ∧ x ≤ 2147483647 := z_hd h
    refine ⟨z_cons (show -9223372036854775808 ≤ x ∧ x ≤ 9223372036854775807 by omega) (z_tl h), fun _ => ?_⟩
    show x_i2 (fun x => x.toInt64) 1 (.int (Int32.ofInt x) :: _) _ = _
    simp only [x_i2, if_true, z_i2l hx1]; rfl)
theorem X.l2i (pc' : Nat) {x : Int} (hi : z_I E j pc = some (.l2i, 1, q, c, ks)) (hc : z_cut ks lv = lv) (hp : pc + 1 = pc') (hx : -2147483648 ≤ x ∧ x ≤ 2147483647) (kk : X E d j pc' lv (zi x :: st) m Q) : X E d j pc lv (zl x :: st) m Q :=
  X.num pc' hi hc hp rfl kk (fun h => by
    refine ⟨z_cons hx (z_tl h), fun _ => ?_⟩
    show x_l2 (fun x => x.toInt32) 1 (.long (Int64.ofInt x) :: _) _ = _
    simp only [x_l2, if_true, Int64.toInt32_ofInt]; rfl)
theorem z_vi_toInt (L : zL) (a : Int32) : z_v L (zi a.toInt) = .int a := by show Value.int (Int32.ofInt a.toInt) = _; rw [Int32.ofInt_toInt]
theorem z_vl_toInt (L : zL) (a : Int64) : z_v L (zl a.toInt) = .long a := by show Value.long (Int64.ofInt a.toInt) = _; rw [Int64.ofInt_toInt]
/-- any other number out of two, by its own name -/
theorem X.ii (pc' : Nat) (ins : Instr) (f : Int32 → Int32 → Int32) {x y : Int} (hi : z_I E j pc = some (ins, 1, q, c, ks)) (hc : z_cut ks lv = lv) (hp : pc + 1 = pc') (hk : x_kind ins = 0) (hf : ∀ (st : List Value) (k : List Value → Option xR), x_pure ins 1 st k = x_ii f 1 st k) (kk : X E d j pc' lv (zi (f (Int32.ofInt x) (Int32.ofInt y)).toInt :: st) m Q) : X E d j pc lv (zi y :: zi x :: st) m Q :=
  X.num pc' hi hc hp hk kk (fun h => by
    refine ⟨z_cons (z_r32 _) (z_tl (z_tl h)), fun _ => ?_⟩
    rw [hf]
    show x_ii f 1 (.int (Int32.ofInt y) :: .int (Int32.ofInt x) :: _) _ = _
    simp only [x_ii, if_true]
    rw [List.map_cons, z_vi_toInt])
theorem X.ll (pc' : Nat) (ins : Instr) (f : Int64 → Int64 → Int64) {x y : Int} (hi : z_I E j pc = some (ins, 1, q, c, ks)) (hc : z_cut ks lv = lv) (hp : pc + 1 = pc') (hk : x_kind ins = 0) (hf : ∀ (st : List Value) (k : List Value → Option xR), x_pure ins 1 st k = x_ll f 1 st k) (kk : X E d j pc' lv (zl (f (Int64.ofInt x) (Int64.ofInt y)).toInt :: st) m Q) : X E d j pc lv (zl y :: zl x :: st) m Q :=
  X.num pc' hi hc hp hk kk (fun h => by
    refine ⟨z_cons (z_r64 _) (z_tl (z_tl h)), fun _ => ?_⟩
    rw [hf]
    show x_ll f 1 (.long (Int64.ofInt y) :: .long (Int64.ofInt x) :: _) _ = _
    simp only [x_ll, if_true]
    rw [List.map_cons, z_vl_toInt])
theorem X.lshl (pc' : Nat) {x y : Int} (hi : z_I E j pc = some (.lshl, 1, q, c, ks)) (hc : z_cut ks lv = lv) (hp : pc + 1 = pc') (kk : X E d j pc' lv (zl (Int64.ofInt x <<< ((Int32.ofInt y).toInt64 &&& 63)).toInt :: st) m Q) : X E d j pc lv (zi y :: zl x :: st) m Q :=
  X.num pc' hi hc hp rfl kk (fun h => by
    refine ⟨z_cons (z_r64 _) (z_tl (z_tl h)), fun _ => ?_⟩
    show x_li (fun x y => x <<< (y.toInt64 &&& 63)) 1 (.int (Int32.ofInt y) :: .long (Int64.ofInt x) :: _) _ = _
    simp only [x_li, if_true]
    rw [List.map_cons, z_vl_toInt])
theorem X.i2b (pc' : Nat) {x : Int} (hi : z_I E j pc = some (.i2b, 1, q, c, ks)) (hc : z_cut ks lv = lv) (hp : pc + 1 = pc') (kk : X E d j pc' lv (zi (Int32.ofInt x).toInt8.toInt :: st) m Q) : X E d j pc lv (zi x :: st) m Q :=
  X.num pc' hi hc hp rfl kk (fun h => by
    have h8 : -2147483648 ≤ (Int32.ofInt x).toInt8.toInt ∧ (Int32.ofInt x).toInt8.toInt ≤ 2147483647 := by
      have h1 := (Int32.ofInt x).toInt8.toInt_lt
      have h2 := (Int32.ofInt x).toInt8.le_toInt
      omega
    refine ⟨z_cons h8 (z_tl h), fun _ => ?_⟩
    show x_i1 (fun x => x.toInt8.toInt32) 1 (.int (Int32.ofInt x) :: _) _ = _
    simp only [x_i1, if_true]
    rfl)
theorem X.lcmp (pc' : Nat) {x y : Int} (hi : z_I E j pc = some (.lcmp, 1, q, c, ks)) (hc : z_cut ks lv = lv) (hp : pc + 1 = pc') (kk : ∀ z : Int, (x < y ∧ z = -1) ∨ (x = y ∧ z = 0) ∨ (y < x ∧ z = 1) → X E d j pc' lv (zi z :: st) m Q) : X E d j pc lv (zl y :: zl x :: st) m Q := by
  intro g1 g2 g3
  have hx1 : -9223372036854775808 ≤ x ∧ x ≤ 9223372036854775807 := z_hd (z_tl g2)
  have hy1 : -9223372036854775808 ≤ y ∧ y ≤ 9223372036854775807 := z_hd g2
  have hz : ∃ z : Int, ((x < y ∧ z = -1) ∨ (x = y ∧ z = 0) ∨ (y < x ∧ z = 1)) ∧ lg_cmp (Int64.ofInt x) (Int64.ofInt y) = Int32.ofInt z := by
    have e1 : (Int64.ofInt x > Int64.ofInt y) ↔ y < x := z_lt64 hy1 hx1
    have e2 := z_eq64 hx1 hy1
    unfold lg_cmp
    rcases Int.lt_trichotomy x y with h | h | h
    · exact ⟨-1, .inl ⟨h, rfl⟩, by rw [if_neg (fun e => by have := e1.mp e; omega), if_neg (fun e => by have := e2.mp e; omega)]; rfl⟩
    · exact ⟨0, .inr (.inl ⟨h, rfl⟩), by rw [if_neg (fun e => by have := e1.mp e; omega), if_pos (e2.mpr h)]; rfl⟩
    · exact ⟨1, .inr (.inr ⟨h, rfl⟩), by rw [if_pos (e1.mpr h)]; rfl⟩
  obtain ⟨z, hz1, hz2⟩ := hz
  refine X.num pc' hi hc hp rfl (kk z hz1) (fun h => ⟨z_cons (show -2147483648 ≤ z ∧ z ≤ 2147483647 by omega) (z_tl (z_tl h)), fun _ => ?_⟩) g1 g2 g3
  show x_lli lg_cmp 1 (.long (Int64.ofInt y) :: .long (Int64.ofInt x) :: _) _ = _
  simp only [x_lli, if_true, hz2]; rfl
theorem X.dup (pc' : Nat) {v : zV} (hi : z_I E j pc = some (.dup, 1, q, c, ks)) (hc : z_cut ks lv = lv) (hp : pc + 1 = pc') (hv : z_is2 v = false) (kk : X E d j pc' lv (v :: v :: st) m Q) : X E d j pc lv (v :: st) m Q :=
  X.num pc' hi hc hp rfl kk (fun h => ⟨z_cons (z_hd h) h, fun _ => by
    show x_s1' 1 1 _ (z_v _ v :: _) _ = _
    simp only [x_s1', z_v_cat, hv]
    simp
    try rfl⟩)
theorem X.pop (pc' : Nat) {v : zV} (hi : z_I E j pc = some (.pop, 1, q, c, ks)) (hc : z_cut ks lv = lv) (hp : pc + 1 = pc') (hv : z_is2 v = false) (kk : X E d j pc' lv st m Q) : X E d j pc lv (v :: st) m Q :=
  X.num pc' hi hc hp rfl kk (fun h => ⟨z_tl h, fun _ => by
    show x_s1' 1 1 (fun _ r => r) (z_v _ v :: _) _ = _
    simp only [x_s1', z_v_cat, hv]
    simp
    try rfl⟩)
/-- of a place in a row: the row, the index -/
theorem X.dup2 (pc' : Nat) {x : Int} {g k : Nat} (hi : z_I E j pc = some (.dup2, 1, q, c, ks)) (hc : z_cut ks lv = lv) (hp : pc + 1 = pc') (kk : X E d j pc' lv (zi x :: zr g k :: zi x :: zr g k :: st) m Q) : X E d j pc lv (zi x :: zr g k :: st) m Q :=
  X.num pc' hi hc hp rfl kk (fun h => ⟨z_cons (z_hd h) (z_cons (z_hd (z_tl h)) h), fun _ => rfl⟩)
end
end
section
section
variable {E : zE} {d j pc : Nat} {lv : List (Nat × zV)} {st : List zV} {m : zM} {Q : Option zV → zM → Prop} {q : Nat × Nat × Nat × Nat} {c : Value} {ks : Option (List Nat)}
-- the frame's own
theorem X.loc {ins : Instr} {n : Nat} {lv' : List (Nat × zV)} {st' : List zV} (pc' : Nat) (hi : z_I E j pc = some (ins, n, q, c, ks)) (hc : z_cut ks lv = lv) (hp : pc + n = pc') (h0 : x_kind ins = 1) (kk : X E d j pc' lv' st' m Q)
    (hok : (∀ q ∈ lv, z_ok E.2.2.2 q.2) → (∀ v ∈ st, z_ok E.2.2.2 v) → (∀ q ∈ lv', z_ok E.2.2.2 q.2) ∧ (∀ v ∈ st', z_ok E.2.2.2 v) ∧ ∀ k : xL → List Value → Option xR, x_loc ins n (z_lv E.2.2.2 lv) (st.map (z_v E.2.2.2)) k = k (z_lv E.2.2.2 lv') (st'.map (z_v E.2.2.2))) : X E d j pc lv st m Q := by
  subst hp
  refine X.go hi hc (fun h1 h2 h3 => ?_) kk
  obtain ⟨g0, g1, g2⟩ := hok h1 h2
  refine ⟨g0, g1, h3, fun call M k => ?_⟩
  unfold x_step
  rw [h0]
  dsimp only
  rw [g2]
  rfl
theorem z_get_ok {L : zL} {i : Nat} {v : zV} (h : z_get lv i = some v) (hl : ∀ q ∈ lv, z_ok L q.2) : z_ok L v := by
  obtain ⟨q, h1, rfl⟩ := z_get_mem h
  exact hl q h1
theorem X.iload (pc' : Nat) {i : Nat} {x : Int} (hi : z_I E j pc = some (.iload i, 2, q, c, ks)) (hc : z_cut ks lv = lv) (hp : pc + 2 = pc') (hg : z_get lv i = some (zi x)) (kk : X E d j pc' lv (zi x :: st) m Q) : X E d j pc lv st m Q :=
  X.loc pc' hi hc hp rfl kk (fun h1 h2 => ⟨h1, z_cons (z_get_ok hg h1) h2, fun k => by
    show x_ldi i 2 2 _ _ _ = _
    unfold x_ldi
    rw [z_get_lv, hg]
    rfl⟩)
theorem X.iload_n (pc' : Nat) {i : Fin 4} {x : Int} (hi : z_I E j pc = some (.iload_n i, 1, q, c, ks)) (hc : z_cut ks lv = lv) (hp : pc + 1 = pc') (hg : z_get lv (i : Nat) = some (zi x)) (kk : X E d j pc' lv (zi x :: st) m Q) : X E d j pc lv st m Q :=
  X.loc pc' hi hc hp rfl kk (fun h1 h2 => ⟨h1, z_cons (z_get_ok hg h1) h2, fun k => by
    show x_ldi (i : Nat) 1 1 _ _ _ = _
    unfold x_ldi
    rw [z_get_lv, hg]
    rfl⟩)
theorem X.lload (pc' : Nat) {i : Nat} {x : Int} (hi : z_I E j pc = some (.lload i, 2, q, c, ks)) (hc : z_cut ks lv = lv) (hp : pc + 2 = pc') (hg : z_get lv i = some (zl x)) (kk : X E d j pc' lv (zl x :: st) m Q) : X E d j pc lv st m Q :=
  X.loc pc' hi hc hp rfl kk (fun h1 h2 => ⟨h1, z_cons (z_get_ok hg h1) h2, fun k => by
    show x_ldl i 2 2 _ _ _ = _
    unfold x_ldl
    rw [z_get_lv, hg]
    rfl⟩)
theorem X.lload_n (pc' : Nat) {i : Fin 4} {x : Int} (hi : z_I E j pc = some (.lload_n i, 1, q, c, ks)) (hc : z_cut ks lv = lv) (hp : pc + 1 = pc') (hg : z_get lv (i : Nat) = some (zl x)) (kk : X E d j pc' lv (zl x :: st) m Q) : X E d j pc lv st m Q :=
  X.loc pc' hi hc hp rfl kk (fun h1 h2 => ⟨h1, z_cons (z_get_ok hg h1) h2, fun k => by
    show x_ldl (i : Nat) 1 1 _ _ _ = _
    unfold x_ldl
    rw [z_get_lv, hg]
    rfl⟩)
theorem X.aload (pc' : Nat) {i g k : Nat} (hi : z_I E j pc = some (.aload i, 2, q, c, ks)) (hc : z_cut ks lv = lv) (hp : pc + 2 = pc') (hg : z_get lv i = some (zr g k)) (kk : X E d j pc' lv (zr g k :: st) m Q) : X E d j pc lv st m Q :=
  X.loc pc' hi hc hp rfl kk (fun h1 h2 => ⟨h1, z_cons (z_get_ok hg h1) h2, fun k => by
    show x_lda i 2 2 _ _ _ = _
    unfold x_lda
    rw [z_get_lv, hg]
    rfl⟩)
theorem X.aload_n (pc' : Nat) {i : Fin 4} {g k : Nat} (hi : z_I E j pc = some (.aload_n i, 1, q, c, ks)) (hc : z_cut ks lv = lv) (hp : pc + 1 = pc') (hg : z_get lv (i : Nat) = some (zr g k)) (kk : X E d j pc' lv (zr g k :: st) m Q) : X E d j pc lv st m Q :=
  X.loc pc' hi hc hp rfl kk (fun h1 h2 => ⟨h1, z_cons (z_get_ok hg h1) h2, fun k => by
    show x_lda (i : Nat) 1 1 _ _ _ = _
    unfold x_lda
    rw [z_get_lv, hg]
    rfl⟩)
theorem z_s1_ok {L : zL} {i : Nat} {v : zV} (hl : ∀ q ∈ lv, z_ok L q.2) (hv : z_ok L v) : ∀ q ∈ z_s1 lv i v, z_ok L q.2 := by
  intro q hq
  rcases z_ins_mem hq with rfl | hq
  · exact hv
  · exact hl q (List.mem_filter.mp hq).1
theorem z_s2_ok {L : zL} {i : Nat} {v : zV} (hl : ∀ q ∈ lv, z_ok L q.2) (hv : z_ok L v) : ∀ q ∈ z_s2 lv i v, z_ok L q.2 := by
  intro q hq
  rcases z_ins_mem hq with rfl | hq
  · exact hv
  · exact hl q (List.mem_filter.mp hq).1
theorem X.istore (pc' : Nat) (lv' : List (Nat × zV)) {i : Nat} {x : Int} (hi : z_I E j pc = some (.istore i, 2, q, c, ks)) (hc : z_cut ks lv = lv) (hp : pc + 2 = pc') (hl : z_s1 lv i (zi x) = lv') (kk : X E d j pc' lv' st m Q) : X E d j pc lv (zi x :: st) m Q := by
  subst hl
  exact X.loc pc' hi hc hp rfl kk (fun h1 h2 => ⟨z_s1_ok h1 (z_hd h2), z_tl h2, fun k => by
    show k (x_s1 (z_lv E.2.2.2 lv) i (z_v E.2.2.2 (zi x))) _ = _
    rw [z_s1_lv]⟩)
theorem X.istore_n (pc' : Nat) (lv' : List (Nat × zV)) {i : Fin 4} {x : Int} (hi : z_I E j pc = some (.istore_n i, 1, q, c, ks)) (hc : z_cut ks lv = lv) (hp : pc + 1 = pc') (hl : z_s1 lv (i : Nat) (zi x) = lv') (kk : X E d j pc' lv' st m Q) : X E d j pc lv (zi x :: st) m Q := by
  subst hl
  exact X.loc pc' hi hc hp rfl kk (fun h1 h2 => ⟨z_s1_ok h1 (z_hd h2), z_tl h2, fun k => by
    show k (x_s1 (z_lv E.2.2.2 lv) (i : Nat) (z_v E.2.2.2 (zi x))) _ = _
    rw [z_s1_lv]⟩)
theorem X.astore (pc' : Nat) (lv' : List (Nat × zV)) {i g k : Nat} (hi : z_I E j pc = some (.astore i, 2, q, c, ks)) (hc : z_cut ks lv = lv) (hp : pc + 2 = pc') (hl : z_s1 lv i (zr g k) = lv') (kk : X E d j pc' lv' st m Q) : X E d j pc lv (zr g k :: st) m Q := by
  subst hl
  exact X.loc pc' hi hc hp rfl kk (fun h1 h2 => ⟨z_s1_ok h1 (z_hd h2), z_tl h2, fun k2 => by
    show k2 (x_s1 (z_lv E.2.2.2 lv) i (z_v E.2.2.2 (zr g k))) _ = _
    rw [z_s1_lv]⟩)
theorem X.astore_n (pc' : Nat) (lv' : List (Nat × zV)) {i : Fin 4} {g k : Nat} (hi : z_I E j pc = some (.astore_n i, 1, q, c, ks)) (hc : z_cut ks lv = lv) (hp : pc + 1 = pc') (hl : z_s1 lv (i : Nat) (zr g k) = lv') (kk : X E d j pc' lv' st m Q) : X E d j pc lv (zr g k :: st) m Q := by
  subst hl
  exact X.loc pc' hi hc hp rfl kk (fun h1 h2 => ⟨z_s1_ok h1 (z_hd h2), z_tl h2, fun k2 => by
    show k2 (x_s1 (z_lv E.2.2.2 lv) (i : Nat) (z_v E.2.2.2 (zr g k))) _ = _
    rw [z_s1_lv]⟩)
theorem X.lstore (pc' : Nat) (lv' : List (Nat × zV)) {i : Nat} {x : Int} (hi : z_I E j pc = some (.lstore i, 2, q, c, ks)) (hc : z_cut ks lv = lv) (hp : pc + 2 = pc') (hl : z_s2 lv i (zl x) = lv') (kk : X E d j pc' lv' st m Q) : X E d j pc lv (zl x :: st) m Q := by
  subst hl
  exact X.loc pc' hi hc hp rfl kk (fun h1 h2 => ⟨z_s2_ok h1 (z_hd h2), z_tl h2, fun k => by
    show k (x_s2 (z_lv E.2.2.2 lv) i (z_v E.2.2.2 (zl x))) _ = _
    rw [z_s2_lv]⟩)
theorem X.lstore_n (pc' : Nat) (lv' : List (Nat × zV)) {i : Fin 4} {x : Int} (hi : z_I E j pc = some (.lstore_n i, 1, q, c, ks)) (hc : z_cut ks lv = lv) (hp : pc + 1 = pc') (hl : z_s2 lv (i : Nat) (zl x) = lv') (kk : X E d j pc' lv' st m Q) : X E d j pc lv (zl x :: st) m Q := by
  subst hl
  exact X.loc pc' hi hc hp rfl kk (fun h1 h2 => ⟨z_s2_ok h1 (z_hd h2), z_tl h2, fun k => by
    show k (x_s2 (z_lv E.2.2.2 lv) (i : Nat) (z_v E.2.2.2 (zl x))) _ = _
    rw [z_s2_lv]⟩)
theorem X.iinc (pc' : Nat) (lv' : List (Nat × zV)) {i : Nat} {n x : Int} (hi : z_I E j pc = some (.iinc i n, 3, q, c, ks)) (hc : z_cut ks lv = lv) (hp : pc + 3 = pc') (hg : z_get lv i = some (zi x)) (hx : -2147483648 ≤ x + n ∧ x + n ≤ 2147483647) (hl : z_s1 lv i (zi (x + n)) = lv') (kk : X E d j pc' lv' st m Q) : X E d j pc lv st m Q := by
  subst hl
  exact X.loc pc' hi hc hp rfl kk (fun h1 h2 => ⟨z_s1_ok h1 hx, h2, fun k => by
    show x_inc i n 3 _ _ _ = _
    unfold x_inc
    rw [z_get_lv, hg]
    show k (x_s1 _ i (.int (Int32.ofInt x + Int32.ofInt n))) _ = _
    rw [← Int32.ofInt_add]
    show k (x_s1 (z_lv E.2.2.2 lv) i (z_v E.2.2.2 (zi (x + n)))) _ = _
    rw [z_s1_lv]⟩)
-- where to
theorem X.br {ins : Instr} {n : Nat} {st' : List zV} (pc' : Nat) (hi : z_I E j pc = some (ins, n, q, c, ks)) (hc : z_cut ks lv = lv) (h0 : x_kind ins = 2) (kk : X E d j pc' lv st' m Q)
    (hok : (∀ v ∈ st, z_ok E.2.2.2 v) → (∀ v ∈ st', z_ok E.2.2.2 v) ∧ ∀ k : Nat → List Value → Option xR, x_br ins n pc (st.map (z_v E.2.2.2)) k = k pc' (st'.map (z_v E.2.2.2))) : X E d j pc lv st m Q := by
  refine X.go hi hc (fun h1 h2 h3 => ?_) kk
  obtain ⟨g1, g2⟩ := hok h2
  refine ⟨h1, g1, h3, fun call M k => ?_⟩
  unfold x_step
  rw [h0]
  dsimp only
  rw [g2]
  rfl
theorem z_to {ρ : Type} {pc tgt : Nat} {off : Int} (h : (pc : Int) + off = tgt) (k : Nat → Option ρ) : x_to pc off k = k tgt := by
  unfold x_to
  rw [h, if_neg (by omega)]
  rfl
theorem X.goto (tgt : Nat) {off : Int} (hi : z_I E j pc = some (.goto off, 3, q, c, ks)) (hc : z_cut ks lv = lv) (ht : (pc : Int) + off = tgt) (kk : X E d j tgt lv st m Q) : X E d j pc lv st m Q :=
  X.br tgt hi hc rfl kk (fun h => ⟨h, fun k => by
    show x_to pc off (fun t => k t _) = _
    rw [z_to ht]⟩)
theorem X.if0 (tgt pc' : Nat) {b : Jvm.ClassFile.Cond} {off x : Int} {C : Prop} [Decidable C] (hi : z_I E j pc = some (.ifCond b off, 3, q, c, ks)) (hc : z_cut ks lv = lv) (ht : (pc : Int) + off = tgt) (hp : pc + 3 = pc')
    (hC : (-2147483648 ≤ x ∧ x ≤ 2147483647) → ∀ (a1 a2 : Option xR), x_c0 b (Int32.ofInt x) a1 a2 = if C then a1 else a2)
    (k1 : C → X E d j tgt lv st m Q) (k2 : ¬ C → X E d j pc' lv st m Q) : X E d j pc lv (zi x :: st) m Q := by
  intro g1 g2 g3
  have hx := hC (z_hd g2)
  subst hp
  by_cases h : C
  · refine X.br tgt hi hc rfl (k1 h) (fun h9 => ⟨z_tl h9, fun k => ?_⟩) g1 g2 g3
    show x_to pc off (fun t => x_c0 b (Int32.ofInt x) (k t _) (k (pc + 3) _)) = _
    rw [z_to ht, hx, if_pos h]
  · refine X.br (pc + 3) hi hc rfl (k2 h) (fun h9 => ⟨z_tl h9, fun k => ?_⟩) g1 g2 g3
    show x_to pc off (fun t => x_c0 b (Int32.ofInt x) (k t _) (k (pc + 3) _)) = _
    rw [z_to ht, hx, if_neg h]
theorem X.ifeq (tgt pc' : Nat) {off x : Int} (hi : z_I E j pc = some (.ifCond .eq off, 3, q, c, ks)) (hc : z_cut ks lv = lv) (ht : (pc : Int) + off = tgt) (hp : pc + 3 = pc') (k1 : x = 0 → X E d j tgt lv st m Q) (k2 : ¬ x = 0 → X E d j pc' lv st m Q) : X E d j pc lv (zi x :: st) m Q :=
  X.if0 tgt pc' hi hc ht hp (fun hx a1 a2 => by
    show (if Int32.ofInt x = 0 then a1 else a2) = _
    simp only [show (Int32.ofInt x = 0 ↔ x = 0) from z_eq32 hx (y := 0) (by omega)]) k1 k2
theorem X.ifne (tgt pc' : Nat) {off x : Int} (hi : z_I E j pc = some (.ifCond .ne off, 3, q, c, ks)) (hc : z_cut ks lv = lv) (ht : (pc : Int) + off = tgt) (hp : pc + 3 = pc') (k1 : ¬ x = 0 → X E d j tgt lv st m Q) (k2 : x = 0 → X E d j pc' lv st m Q) : X E d j pc lv (zi x :: st) m Q :=
  X.if0 (C := ¬ x = 0) tgt pc' hi hc ht hp (fun hx a1 a2 => by
    show (if Int32.ofInt x = 0 then a2 else a1) = _
    simp only [show (Int32.ofInt x = 0 ↔ x = 0) from z_eq32 hx (y := 0) (by omega)]
    by_cases h : x = 0 <;> simp [h]) k1 (fun h => k2 (Decidable.not_not.mp h))
theorem X.iflt (tgt pc' : Nat) {off x : Int} (hi : z_I E j pc = some (.ifCond .lt off, 3, q, c, ks)) (hc : z_cut ks lv = lv) (ht : (pc : Int) + off = tgt) (hp : pc + 3 = pc') (k1 : x < 0 → X E d j tgt lv st m Q) (k2 : ¬ x < 0 → X E d j pc' lv st m Q) : X E d j pc lv (zi x :: st) m Q :=
  X.if0 tgt pc' hi hc ht hp (fun hx a1 a2 => by
    show (if Int32.ofInt x < 0 then a1 else a2) = _
    simp only [show (Int32.ofInt x < 0 ↔ x < 0) from z_lt32 hx (y := 0) (by omega)]) k1 k2
theorem X.ifge (tgt pc' : Nat) {off x : Int} (hi : z_I E j pc = some (.ifCond .ge off, 3, q, c, ks)) (hc : z_cut ks lv = lv) (ht : (pc : Int) + off = tgt) (hp : pc + 3 = pc') (k1 : 0 ≤ x → X E d j tgt lv st m Q) (k2 : ¬ 0 ≤ x → X E d j pc' lv st m Q) : X E d j pc lv (zi x :: st) m Q :=
  X.if0 tgt pc' hi hc ht hp (fun hx a1 a2 => by
    show (if 0 ≤ Int32.ofInt x then a1 else a2) = _
    simp only [show (0 ≤ Int32.ofInt x ↔ 0 ≤ x) from z_le32 (x := 0) (by omega) hx]) k1 k2
theorem X.ifgt (tgt pc' : Nat) {off x : Int} (hi : z_I E j pc = some (.ifCond .gt off, 3, q, c, ks)) (hc : z_cut ks lv = lv) (ht : (pc : Int) + off = tgt) (hp : pc + 3 = pc') (k1 : 0 < x → X E d j tgt lv st m Q) (k2 : ¬ 0 < x → X E d j pc' lv st m Q) : X E d j pc lv (zi x :: st) m Q :=
  X.if0 tgt pc' hi hc ht hp (fun hx a1 a2 => by
    show (if 0 < Int32.ofInt x then a1 else a2) = _
    simp only [show (0 < Int32.ofInt x ↔ 0 < x) from z_lt32 (x := 0) (by omega) hx]) k1 k2
theorem X.ifle (tgt pc' : Nat) {off x : Int} (hi : z_I E j pc = some (.ifCond .le off, 3, q, c, ks)) (hc : z_cut ks lv = lv) (ht : (pc : Int) + off = tgt) (hp : pc + 3 = pc') (k1 : x ≤ 0 → X E d j tgt lv st m Q) (k2 : ¬ x ≤ 0 → X E d j pc' lv st m Q) : X E d j pc lv (zi x :: st) m Q :=
  X.if0 tgt pc' hi hc ht hp (fun hx a1 a2 => by
    show (if Int32.ofInt x ≤ 0 then a1 else a2) = _
    simp only [show (Int32.ofInt x ≤ 0 ↔ x ≤ 0) from z_le32 hx (y := 0) (by omega)]) k1 k2
theorem X.if2 (tgt pc' : Nat) {b : Jvm.ClassFile.Cond} {off x y : Int} {C : Prop} [Decidable C] (hi : z_I E j pc = some (.if_icmp b off, 3, q, c, ks)) (hc : z_cut ks lv = lv) (ht : (pc : Int) + off = tgt) (hp : pc + 3 = pc')
    (hC : (-2147483648 ≤ x ∧ x ≤ 2147483647) → (-2147483648 ≤ y ∧ y ≤ 2147483647) → ∀ (a1 a2 : Option xR), x_c2 b (Int32.ofInt x) (Int32.ofInt y) a1 a2 = if C then a1 else a2)
    (k1 : C → X E d j tgt lv st m Q) (k2 : ¬ C → X E d j pc' lv st m Q) : X E d j pc lv (zi y :: zi x :: st) m Q := by
  intro g1 g2 g3
  have hx := hC (z_hd (z_tl g2)) (z_hd g2)
  subst hp
  by_cases h : C
  · refine X.br tgt hi hc rfl (k1 h) (fun h9 => ⟨z_tl (z_tl h9), fun k => ?_⟩) g1 g2 g3
    show x_to pc off (fun t => x_c2 b (Int32.ofInt x) (Int32.ofInt y) (k t _) (k (pc + 3) _)) = _
    rw [z_to ht, hx, if_pos h]
  · refine X.br (pc + 3) hi hc rfl (k2 h) (fun h9 => ⟨z_tl (z_tl h9), fun k => ?_⟩) g1 g2 g3
    show x_to pc off (fun t => x_c2 b (Int32.ofInt x) (Int32.ofInt y) (k t _) (k (pc + 3) _)) = _
    rw [z_to ht, hx, if_neg h]
theorem X.icmpeq (tgt pc' : Nat) {off x y : Int} (hi : z_I E j pc = some (.if_icmp .eq off, 3, q, c, ks)) (hc : z_cut ks lv = lv) (ht : (pc : Int) + off = tgt) (hp : pc + 3 = pc') (k1 : x = y → X E d j tgt lv st m Q) (k2 : ¬ x = y → X E d j pc' lv st m Q) : X E d j pc lv (zi y :: zi x :: st) m Q :=
  X.if2 tgt pc' hi hc ht hp (fun hx hy a1 a2 => by
    show (if Int32.ofInt x = Int32.ofInt y then a1 else a2) = _
    simp only [z_eq32 hx hy]) k1 k2
theorem X.icmpne (tgt pc' : Nat) {off x y : Int} (hi : z_I E j pc = some (.if_icmp .ne off, 3, q, c, ks)) (hc : z_cut ks lv = lv) (ht : (pc : Int) + off = tgt) (hp : pc + 3 = pc') (k1 : ¬ x = y → X E d j tgt lv st m Q) (k2 : x = y → X E d j pc' lv st m Q) : X E d j pc lv (zi y :: zi x :: st) m Q :=
  X.if2 (C := ¬ x = y) tgt pc' hi hc ht hp (fun hx hy a1 a2 => by
    show (if Int32.ofInt x = Int32.ofInt y then a2 else a1) = _
    simp only [z_eq32 hx hy]
    by_cases h : x = y <;> simp [h]) k1 (fun h => k2 (Decidable.not_not.mp h))
theorem X.icmplt (tgt pc' : Nat) {off x y : Int} (hi : z_I E j pc = some (.if_icmp .lt off, 3, q, c, ks)) (hc : z_cut ks lv = lv) (ht : (pc : Int) + off = tgt) (hp : pc + 3 = pc') (k1 : x < y → X E d j tgt lv st m Q) (k2 : ¬ x < y → X E d j pc' lv st m Q) : X E d j pc lv (zi y :: zi x :: st) m Q :=
  X.if2 tgt pc' hi hc ht hp (fun hx hy a1 a2 => by
    show (if Int32.ofInt x < Int32.ofInt y then a1 else a2) = _
    simp only [z_lt32 hx hy]) k1 k2
theorem X.icmpge (tgt pc' : Nat) {off x y : Int} (hi : z_I E j pc = some (.if_icmp .ge off, 3, q, c, ks)) (hc : z_cut ks lv = lv) (ht : (pc : Int) + off = tgt) (hp : pc + 3 = pc') (k1 : y ≤ x → X E d j tgt lv st m Q) (k2 : ¬ y ≤ x → X E d j pc' lv st m Q) : X E d j pc lv (zi y :: zi x :: st) m Q :=
  X.if2 tgt pc' hi hc ht hp (fun hx hy a1 a2 => by
    show (if Int32.ofInt y ≤ Int32.ofInt x then a1 else a2) = _
    simp only [z_le32 hy hx]) k1 k2
theorem X.icmpgt (tgt pc' : Nat) {off x y : Int} (hi : z_I E j pc = some (.if_icmp .gt off, 3, q, c, ks)) (hc : z_cut ks lv = lv) (ht : (pc : Int) + off = tgt) (hp : pc + 3 = pc') (k1 : y < x → X E d j tgt lv st m Q) (k2 : ¬ y < x → X E d j pc' lv st m Q) : X E d j pc lv (zi y :: zi x :: st) m Q :=
  X.if2 tgt pc' hi hc ht hp (fun hx hy a1 a2 => by
    show (if Int32.ofInt y < Int32.ofInt x then a1 else a2) = _
    simp only [z_lt32 hy hx]) k1 k2
theorem X.icmple (tgt pc' : Nat) {off x y : Int} (hi : z_I E j pc = some (.if_icmp .le off, 3, q, c, ks)) (hc : z_cut ks lv = lv) (ht : (pc : Int) + off = tgt) (hp : pc + 3 = pc') (k1 : x ≤ y → X E d j tgt lv st m Q) (k2 : ¬ x ≤ y → X E d j pc' lv st m Q) : X E d j pc lv (zi y :: zi x :: st) m Q :=
  X.if2 tgt pc' hi hc ht hp (fun hx hy a1 a2 => by
    show (if Int32.ofInt x ≤ Int32.ofInt y then a1 else a2) = _
    simp only [z_le32 hx hy]) k1 k2
theorem X.tsIn (tgt i : Nat) {dflt lo hi0 off x : Int} {offs : Array Int} {n : Nat} (hi : z_I E j pc = some (.tableswitch dflt lo hi0 offs, n, q, c, ks)) (hc : z_cut ks lv = lv) (hx : x = lo + i ∧ x ≤ hi0) (ho : offs[i]? = some off) (ht : (pc : Int) + off = tgt) (kk : X E d j tgt lv st m Q) : X E d j pc lv (zi x :: st) m Q :=
  X.br tgt hi hc rfl kk (fun h => ⟨z_tl h, fun k => by
    have hx1 : -2147483648 ≤ x ∧ x ≤ 2147483647 := z_hd h
    show x_br (.tableswitch dflt lo hi0 offs) n pc (.int (Int32.ofInt x) :: _) k = _
    simp only [x_br, z_32 hx1]
    rw [if_neg (by omega), show (x - lo).toNat = i by omega, ho]
    dsimp only
    rw [z_to ht]⟩)
theorem X.tsOut (tgt : Nat) {dflt lo hi0 x : Int} {offs : Array Int} {n : Nat} (hi : z_I E j pc = some (.tableswitch dflt lo hi0 offs, n, q, c, ks)) (hc : z_cut ks lv = lv) (hx : x < lo ∨ hi0 < x) (ht : (pc : Int) + dflt = tgt) (kk : X E d j tgt lv st m Q) : X E d j pc lv (zi x :: st) m Q :=
  X.br tgt hi hc rfl kk (fun h => ⟨z_tl h, fun k => by
    have hx1 : -2147483648 ≤ x ∧ x ≤ 2147483647 := z_hd h
    show x_br (.tableswitch dflt lo hi0 offs) n pc (.int (Int32.ofInt x) :: _) k = _
    simp only [x_br, z_32 hx1]
    rw [if_pos hx, z_to ht]⟩)
end
end
section
section
variable {E : zE} {d j pc : Nat} {lv : List (Nat × zV)} {st : List zV} {m : zM} {Q : Option zV → zM → Prop} {q : Nat × Nat × Nat × Nat} {c : Value} {ks : Option (List Nat)}
theorem X.hp {ins : Instr} {n : Nat} {st' : List zV} {m' : zM} (pc' : Nat) (hi : z_I E j pc = some (ins, n, q, c, ks)) (hc : z_cut ks lv = lv) (h0 : x_kind ins = 3) (kk : X E d j pc' lv st' m' Q)
    (hok : (∀ v ∈ st, z_ok E.2.2.2 v) → z_mok E.2.2.2 m → (∀ v ∈ st', z_ok E.2.2.2 v) ∧ z_mok E.2.2.2 m' ∧ ∀ k : Nat → List Value → List xC → Option xR, x_heap E.1 E.2.1 (ins, n, q, c, ks) pc (st.map (z_v E.2.2.2)) (z_u E.2.2.2 m) k = k pc' (st'.map (z_v E.2.2.2)) (z_u E.2.2.2 m')) : X E d j pc lv st m Q := by
  refine X.go hi hc (fun h1 h2 h3 => ?_) kk
  obtain ⟨g1, g3, g2⟩ := hok h2 h3
  refine ⟨h1, g1, g3, fun call M k => ?_⟩
  unfold x_step
  rw [h0]
  dsimp only
  rw [g2]
  rfl
/-- the cell that a reference names -/
theorem z_refok {L : zL} {g k : Nat} (h : z_ok L (zr g k)) (hg : g ≠ 99) : z_val L g k := by
  rcases h with h | h
  · exact absurd h.1 hg
  · exact h
theorem z_kind_ne {L : zL} {g k : Nat} (h : z_ok L (zr g k)) (h8 : ¬ k < 8) : z_val L g k := by
  rcases h with h | h
  · exact absurd h.2 h8
  · exact h
/-- cells have numbers from 8 on, so that they are no old things -/
theorem z_gf {L : zL} {g k ci : Nat} {fs : List zF} {m : zM} (hv : z_val L g k) (hk : L.1 k = some (.inl (ci, fs))) : (z_u L m)[L.2.1 g k]? = some (.inr (ci, z_fs L (m g k) g 0 fs)) := by
  rw [z_u_at hv]
  unfold z_c
  rw [hk]
theorem z_ga {L : zL} {g k t N : Nat} {m : zM} (hv : z_val L g k) (hk : L.1 k = some (.inr (t, N))) : (z_u L m)[L.2.1 g k]? = some (.inl (z_arr t N (m g k))) := by
  rw [z_u_at hv]
  unfold z_c
  rw [hk]
theorem X.getf (pc' : Nat) {idx ci fj tg hh g k : Nat} {fs : List zF} {df : zF} {v : zV} (hi : z_I E j pc = some (.getfield idx, 3, (ci, fj, tg, hh), c, ks)) (hc : z_cut ks lv = lv) (hp : pc + 3 = pc') (h8 : ¬ k < 8) (hk : E.2.2.2.1 k = some (.inl (ci, fs))) (hf : fs[fj]? = some df) (hv : z_fv df g (m g k fj) = v) (kk : X E d j pc' lv (v :: st) m Q) : X E d j pc lv (zr g k :: st) m Q := by
  subst hp
  subst hv
  refine X.hp (pc + 3) hi hc rfl kk (fun h1 h2 => ?_)
  have hv := z_kind_ne (z_hd h1) h8
  have hm := h2 g k hv
  unfold z_ck at hm
  rw [hk] at hm
  refine ⟨z_cons (hm fj df hf).1 (z_tl h1), h2, fun k2 => ?_⟩
  rw [List.map_cons, z_v_ref hv]
  show x_gf (ci, fj, tg, hh) 3 (.ref (E.2.2.2.2.1 g k + 8) :: st.map (z_v E.2.2.2)) (z_u E.2.2.2 m) (fun s2 => k2 (pc + 3) s2 (z_u E.2.2.2 m)) = _
  unfold x_gf
  dsimp only
  rw [z_gf hv hk]
  dsimp only
  rw [if_pos ⟨rfl, rfl⟩, z_fs_get, hf]
  simp only [Option.map_some, Nat.zero_add]
  rfl
theorem X.getI (pc' : Nat) (fz : Int) {idx ci fj tg hh g k : Nat} {fs : List zF} (hi : z_I E j pc = some (.getfield idx, 3, (ci, fj, tg, hh), c, ks)) (hc : z_cut ks lv = lv) (hp : pc + 3 = pc') (h8 : ¬ k < 8) (hk : E.2.2.2.1 k = some (.inl (ci, fs))) (hf : fs[fj]? = some (.inl 0)) (hz : (fj : Int) = fz) (kk : X E d j pc' lv (zi (m g k fz) :: st) m Q) : X E d j pc lv (zr g k :: st) m Q :=
  X.getf pc' hi hc hp h8 hk hf (v := zi (m g k fz)) (by rw [hz]; rfl) kk
theorem X.getZ (pc' : Nat) (fz : Int) {idx ci fj tg hh g k : Nat} {fs : List zF} (hi : z_I E j pc = some (.getfield idx, 3, (ci, fj, tg, hh), c, ks)) (hc : z_cut ks lv = lv) (hp : pc + 3 = pc') (h8 : ¬ k < 8) (hk : E.2.2.2.1 k = some (.inl (ci, fs))) (hf : fs[fj]? = some (.inl 2)) (hz : (fj : Int) = fz) (kk : (m g k fz = 0 ∨ m g k fz = 1) → X E d j pc' lv (zi (m g k fz) :: st) m Q) : X E d j pc lv (zr g k :: st) m Q := by
  intro g1 g2 g3
  have hv := z_kind_ne (z_hd g2) h8
  have hm := g3 g k hv
  unfold z_ck at hm
  rw [hk] at hm
  have hb := (hm fj _ hf).2 rfl
  rw [hz] at hb
  exact X.getf pc' hi hc hp h8 hk hf (v := zi (m g k fz)) (by rw [hz]; rfl) (kk hb) g1 g2 g3
theorem X.getL (pc' : Nat) (fz : Int) {idx ci fj tg hh g k : Nat} {fs : List zF} (hi : z_I E j pc = some (.getfield idx, 3, (ci, fj, tg, hh), c, ks)) (hc : z_cut ks lv = lv) (hp : pc + 3 = pc') (h8 : ¬ k < 8) (hk : E.2.2.2.1 k = some (.inl (ci, fs))) (hf : fs[fj]? = some (.inl 1)) (hz : (fj : Int) = fz) (kk : X E d j pc' lv (zl (m g k fz) :: st) m Q) : X E d j pc lv (zr g k :: st) m Q :=
  X.getf pc' hi hc hp h8 hk hf (v := zl (m g k fz)) (by rw [hz]; rfl) kk
theorem X.getR (pc' : Nat) {idx ci fj tg hh g k k' : Nat} {fs : List zF} (hi : z_I E j pc = some (.getfield idx, 3, (ci, fj, tg, hh), c, ks)) (hc : z_cut ks lv = lv) (hp : pc + 3 = pc') (h8 : ¬ k < 8) (hk : E.2.2.2.1 k = some (.inl (ci, fs))) (hf : fs[fj]? = some (.inr (.inl k'))) (kk : X E d j pc' lv (zr g k' :: st) m Q) : X E d j pc lv (zr g k :: st) m Q :=
  X.getf pc' hi hc hp h8 hk hf (v := zr g k') rfl kk
theorem X.getF (pc' : Nat) {idx ci fj tg hh g k g' k' : Nat} {fs : List zF} (hi : z_I E j pc = some (.getfield idx, 3, (ci, fj, tg, hh), c, ks)) (hc : z_cut ks lv = lv) (hp : pc + 3 = pc') (h8 : ¬ k < 8) (hk : E.2.2.2.1 k = some (.inl (ci, fs))) (hf : fs[fj]? = some (.inr (.inr (g', k')))) (kk : X E d j pc' lv (zr g' k' :: st) m Q) : X E d j pc lv (zr g k :: st) m Q :=
  X.getf pc' hi hc hp h8 hk hf (v := zr g' k') rfl kk
theorem z_upd_same (m : zM) (g k : Nat) (i x : Int) : z_upd m g k i x g k i = x := by unfold z_upd; rw [if_pos ⟨rfl, rfl, rfl⟩]
theorem z_upd_i (m : zM) (g k : Nat) {i i' : Int} (x : Int) (h : i' ≠ i) : z_upd m g k i x g k i' = m g k i' := by unfold z_upd; rw [if_neg (fun e => h e.2.2)]
theorem z_upd_k (m : zM) {g k g' k' : Nat} (i x : Int) (h : (g', k') ≠ (g, k)) : z_upd m g k i x g' k' = m g' k' := by
  funext i'
  unfold z_upd
  rw [if_neg (fun e => h (by rw [e.1, e.2.1]))]
theorem X.putf (pc' : Nat) {idx ci fj tg hh g k : Nat} {fs : List zF} {t : Nat} {x : Int} (fz : Int) (v : zV) (hi : z_I E j pc = some (.putfield idx, 3, (ci, fj, tg, hh), c, ks)) (hc : z_cut ks lv = lv) (hp : pc + 3 = pc') (h8 : ¬ k < 8) (hk : E.2.2.2.1 k = some (.inl (ci, fs))) (hf : fs[fj]? = some (.inl t)) (hz : (fj : Int) = fz) (hv : z_fv (.inl t) g x = v) (hb : t = 2 → x = 0 ∨ x = 1)
    (hfit : ∀ (a : Option xR), x_fit tg (z_v E.2.2.2 v) a = a) (kk : X E d j pc' lv st (z_upd m g k fz x) Q) : X E d j pc lv (v :: zr g k :: st) m Q := by
  subst hp
  subst hz
  refine X.hp (pc + 3) hi hc rfl kk (fun h1 h2 => ?_)
  have hvv := z_kind_ne (z_hd (z_tl h1)) h8
  refine ⟨z_tl (z_tl h1), ?_, fun k2 => ?_⟩
  · intro g' k' hv'
    by_cases he : (g', k') = (g, k)
    · obtain ⟨rfl, rfl⟩ := Prod.mk.inj he
      have hm := h2 g' k' hv'
      unfold z_ck at hm ⊢
      rw [hk] at hm ⊢
      intro j' d' hd'
      by_cases hj : j' = fj
      · subst hj
        have hdd : d' = .inl t := Option.some.inj (hd'.symm.trans hf)
        subst hdd
        rw [z_upd_same]
        refine ⟨by rw [hv]; exact z_hd h1, fun e => hb ?_⟩
        cases e
        rfl
      · have hm2 := hm j' d' hd'
        rw [z_upd_i _ _ _ _ (by omega)]
        exact hm2
    · rw [z_upd_k _ _ _ he]
      exact h2 g' k' hv'
  · rw [List.map_cons, List.map_cons, z_v_ref hvv]
    show x_pf (ci, fj, tg, hh) 3 (z_v E.2.2.2 v :: .ref (E.2.2.2.2.1 g k + 8) :: st.map (z_v E.2.2.2)) (z_u E.2.2.2 m) (fun s2 u2 => k2 (pc + 3) s2 u2) = _
    unfold x_pf
    dsimp only
    rw [z_gf hvv hk]
    dsimp only
    rw [if_pos ⟨rfl, rfl, by rw [z_fs_len]; exact (List.getElem?_eq_some_iff.mp hf).1⟩, hfit]
    congr 1
    refine z_u_set hvv ?_ (fun g' k' he => z_upd_k _ _ _ he)
    unfold z_c
    rw [hk]
    dsimp only
    rw [z_fs_set (f' := z_upd m g k fj x g k) fs fj _ (.inl t) hf (by rw [z_upd_same, hv]) (fun i hi2 => z_upd_i _ _ _ _ (by omega))]
theorem X.putI (pc' : Nat) (fz : Int) {idx ci fj hh g k : Nat} {fs : List zF} {x : Int} (hi : z_I E j pc = some (.putfield idx, 3, (ci, fj, 0, hh), c, ks)) (hc : z_cut ks lv = lv) (hp : pc + 3 = pc') (h8 : ¬ k < 8) (hk : E.2.2.2.1 k = some (.inl (ci, fs))) (hf : fs[fj]? = some (.inl 0)) (hz : (fj : Int) = fz) (kk : X E d j pc' lv st (z_upd m g k fz x) Q) : X E d j pc lv (zi x :: zr g k :: st) m Q :=
  X.putf pc' fz (zi x) hi hc hp h8 hk hf hz rfl (fun e => absurd e (by decide)) (fun a => rfl) kk
theorem X.putL (pc' : Nat) (fz : Int) {idx ci fj hh g k : Nat} {fs : List zF} {x : Int} (hi : z_I E j pc = some (.putfield idx, 3, (ci, fj, 1, hh), c, ks)) (hc : z_cut ks lv = lv) (hp : pc + 3 = pc') (h8 : ¬ k < 8) (hk : E.2.2.2.1 k = some (.inl (ci, fs))) (hf : fs[fj]? = some (.inl 1)) (hz : (fj : Int) = fz) (kk : X E d j pc' lv st (z_upd m g k fz x) Q) : X E d j pc lv (zl x :: zr g k :: st) m Q :=
  X.putf pc' fz (zl x) hi hc hp h8 hk hf hz rfl (fun e => absurd e (by decide)) (fun a => rfl) kk
theorem X.putZ (pc' : Nat) (fz : Int) {idx ci fj hh g k : Nat} {fs : List zF} {x : Int} (hi : z_I E j pc = some (.putfield idx, 3, (ci, fj, 2, hh), c, ks)) (hc : z_cut ks lv = lv) (hp : pc + 3 = pc') (h8 : ¬ k < 8) (hk : E.2.2.2.1 k = some (.inl (ci, fs))) (hf : fs[fj]? = some (.inl 2)) (hz : (fj : Int) = fz) (hx : x = 0 ∨ x = 1) (kk : X E d j pc' lv st (z_upd m g k fz x) Q) : X E d j pc lv (zi x :: zr g k :: st) m Q :=
  X.putf pc' fz (zi x) hi hc hp h8 hk hf hz rfl (fun _ => hx) (fun a => by
    rcases hx with rfl | rfl <;> rfl) kk
-- rows
theorem z_arr_len (t N : Nat) (f : Int → Int) : (z_arr t N f).2.1 = N := by
  unfold z_arr
  split
  · rfl
  · split
    · rfl
    · split <;> rfl
theorem z_rgi {L : zL} {g k t N : Nat} {m : zM} (h2 : z_mok L m) (hv : z_val L g k) (hk : L.1 k = some (.inr (t, N))) {i : Int} (h0 : 0 ≤ i) (hN : i < N) : z_rg t (m g k i) := by
  have hm := h2 g k hv
  unfold z_ck at hm
  rw [hk] at hm
  exact hm.1 i h0 hN
theorem z_nat {i : Int} (h : 0 ≤ i) : ((i.toNat : Nat) : Int) = i := by omega
theorem X.iald (pc' : Nat) {g k N : Nat} {i : Int} (hi : z_I E j pc = some (.iaload, 1, q, c, ks)) (hc : z_cut ks lv = lv) (hp : pc + 1 = pc') (h8 : ¬ k < 8) (hk : E.2.2.2.1 k = some (.inr (0, N))) (hx : 0 ≤ i ∧ i < N) (kk : X E d j pc' lv (zi (m g k i) :: st) m Q) : X E d j pc lv (zi i :: zr g k :: st) m Q := by
  subst hp
  refine X.hp (pc + 1) hi hc rfl kk (fun h1 h2 => ?_)
  have hv := z_kind_ne (z_hd (z_tl h1)) h8
  have hr : -2147483648 ≤ i ∧ i ≤ 2147483647 := z_hd h1
  refine ⟨z_cons (z_rgi h2 hv hk hx.1 hx.2) (z_tl (z_tl h1)), h2, fun k2 => ?_⟩
  rw [List.map_cons, List.map_cons, z_v_ref hv]
  show x_ial E.1 1 (.int (Int32.ofInt i) :: .ref (E.2.2.2.2.1 g k + 8) :: st.map (z_v E.2.2.2)) (z_u E.2.2.2 m) (fun s2 => k2 (pc + 1) s2 (z_u E.2.2.2 m)) = _
  unfold x_ial
  dsimp only
  rw [z_ga hv hk]
  show x_in (Int32.ofInt i) N _ = _
  unfold x_in
  rw [if_neg (z_in hr hx.1 hx.2), z_cl hr]
  dsimp only
  rw [z_nat hx.1]
  rfl
theorem X.lald (pc' : Nat) {g k N : Nat} {i : Int} (hi : z_I E j pc = some (.laload, 1, q, c, ks)) (hc : z_cut ks lv = lv) (hp : pc + 1 = pc') (h8 : ¬ k < 8) (hk : E.2.2.2.1 k = some (.inr (1, N))) (hx : 0 ≤ i ∧ i < N) (kk : X E d j pc' lv (zl (m g k i) :: st) m Q) : X E d j pc lv (zi i :: zr g k :: st) m Q := by
  subst hp
  refine X.hp (pc + 1) hi hc rfl kk (fun h1 h2 => ?_)
  have hv := z_kind_ne (z_hd (z_tl h1)) h8
  have hr : -2147483648 ≤ i ∧ i ≤ 2147483647 := z_hd h1
  refine ⟨z_cons (z_rgi h2 hv hk hx.1 hx.2) (z_tl (z_tl h1)), h2, fun k2 => ?_⟩
  rw [List.map_cons, List.map_cons, z_v_ref hv]
  show x_lal 1 (.int (Int32.ofInt i) :: .ref (E.2.2.2.2.1 g k + 8) :: st.map (z_v E.2.2.2)) (z_u E.2.2.2 m) (fun s2 => k2 (pc + 1) s2 (z_u E.2.2.2 m)) = _
  unfold x_lal
  dsimp only
  rw [z_ga hv hk]
  show x_in (Int32.ofInt i) N _ = _
  unfold x_in
  rw [if_neg (z_in hr hx.1 hx.2), z_cl hr]
  dsimp only
  rw [z_nat hx.1]
  rfl
theorem X.bald (pc' : Nat) {g k N : Nat} {i : Int} (hi : z_I E j pc = some (.baload, 1, q, c, ks)) (hc : z_cut ks lv = lv) (hp : pc + 1 = pc') (h8 : ¬ k < 8) (hk : E.2.2.2.1 k = some (.inr (2, N))) (hx : 0 ≤ i ∧ i < N) (kk : (-128 ≤ m g k i ∧ m g k i ≤ 127) → X E d j pc' lv (zi (m g k i) :: st) m Q) : X E d j pc lv (zi i :: zr g k :: st) m Q := by
  intro g1 g2 g3
  have hv := z_kind_ne (z_hd (z_tl g2)) h8
  have hz : -128 ≤ m g k i ∧ m g k i ≤ 127 := z_rgi g3 hv hk hx.1 hx.2
  subst hp
  refine X.hp (pc + 1) hi hc rfl (kk hz) (fun h1 h2 => ?_) g1 g2 g3
  have hr : -2147483648 ≤ i ∧ i ≤ 2147483647 := z_hd h1
  refine ⟨z_cons (show -2147483648 ≤ m g k i ∧ m g k i ≤ 2147483647 by omega) (z_tl (z_tl h1)), h2, fun k2 => ?_⟩
  rw [List.map_cons, List.map_cons, z_v_ref hv]
  show x_bal 1 (.int (Int32.ofInt i) :: .ref (E.2.2.2.2.1 g k + 8) :: st.map (z_v E.2.2.2)) (z_u E.2.2.2 m) (fun s2 => k2 (pc + 1) s2 (z_u E.2.2.2 m)) = _
  unfold x_bal
  dsimp only
  rw [z_ga hv hk]
  show x_in (Int32.ofInt i) N _ = _
  unfold x_in
  rw [if_neg (z_in hr hx.1 hx.2), z_cl hr]
  dsimp only
  rw [z_nat hx.1]
  rfl
theorem X.zald (pc' : Nat) {g k N : Nat} {i : Int} (hi : z_I E j pc = some (.baload, 1, q, c, ks)) (hc : z_cut ks lv = lv) (hp : pc + 1 = pc') (h8 : ¬ k < 8) (hk : E.2.2.2.1 k = some (.inr (3, N))) (hx : 0 ≤ i ∧ i < N) (kk : (0 ≤ m g k i ∧ m g k i ≤ 1) → X E d j pc' lv (zi (m g k i) :: st) m Q) : X E d j pc lv (zi i :: zr g k :: st) m Q := by
  intro g1 g2 g3
  have hv := z_kind_ne (z_hd (z_tl g2)) h8
  have hz : 0 ≤ m g k i ∧ m g k i ≤ 1 := z_rgi g3 hv hk hx.1 hx.2
  subst hp
  refine X.hp (pc + 1) hi hc rfl (kk hz) (fun h1 h2 => ?_) g1 g2 g3
  have hr : -2147483648 ≤ i ∧ i ≤ 2147483647 := z_hd h1
  refine ⟨z_cons (show -2147483648 ≤ m g k i ∧ m g k i ≤ 2147483647 by omega) (z_tl (z_tl h1)), h2, fun k2 => ?_⟩
  rw [List.map_cons, List.map_cons, z_v_ref hv]
  show x_bal 1 (.int (Int32.ofInt i) :: .ref (E.2.2.2.2.1 g k + 8) :: st.map (z_v E.2.2.2)) (z_u E.2.2.2 m) (fun s2 => k2 (pc + 1) s2 (z_u E.2.2.2 m)) = _
  unfold x_bal
  dsimp only
  rw [z_ga hv hk]
  show x_in (Int32.ofInt i) N _ = _
  unfold x_in
  rw [if_neg (z_in hr hx.1 hx.2), z_cl hr]
  dsimp only
  rw [z_nat hx.1]
  rfl
/-- an old row of ints -/
def z_ro (E : zE) (p : Nat) (i : Int) : Int := ((E.1.1 p).2 i.toNat).toInt
theorem X.rald (pc' : Nat) {p : Nat} {i : Int} (hi : z_I E j pc = some (.iaload, 1, q, c, ks)) (hc : z_cut ks lv = lv) (hp : pc + 1 = pc') (h4 : p < 4) (hx : 0 ≤ i ∧ i < (E.1.1 p).1) (kk : (-2147483648 ≤ z_ro E p i ∧ z_ro E p i ≤ 2147483647) → X E d j pc' lv (zi (z_ro E p i) :: st) m Q) : X E d j pc lv (zi i :: zr 99 p :: st) m Q := by
  subst hp
  refine X.hp (pc + 1) hi hc rfl (kk (z_r32 _)) (fun h1 h2 => ?_)
  have hr : -2147483648 ≤ i ∧ i ≤ 2147483647 := z_hd h1
  refine ⟨z_cons (z_r32 _) (z_tl (z_tl h1)), h2, fun k2 => ?_⟩
  rw [List.map_cons, List.map_cons, z_v_old]
  show x_ial E.1 1 (.int (Int32.ofInt i) :: .ref p :: st.map (z_v E.2.2.2)) (z_u E.2.2.2 m) (fun s2 => k2 (pc + 1) s2 (z_u E.2.2.2 m)) = _
  have key : ∀ (a : Int32) (r : List Value) (u : List xC) (k : List Value → Option xR), x_ial E.1 1 (.int a :: .ref p :: r) u k = x_in a (E.1.1 p).1 (k (.int ((E.1.1 p).2 a.toNatClampNeg) :: r)) := by
    intro a r u k
    rcases (show p = 0 ∨ p = 1 ∨ p = 2 ∨ p = 3 by omega) with rfl | rfl | rfl | rfl <;> rfl
  rw [key]
  unfold x_in
  rw [if_neg (z_in hr hx.1 hx.2), z_cl hr]
  rw [List.map_cons, show z_v E.2.2.2 (zi (z_ro E p i)) = .int ((E.1.1 p).2 i.toNat) from z_vi_toInt _ _]
theorem X.alen (pc' : Nat) {g k t N : Nat} (hi : z_I E j pc = some (.arraylength, 1, q, c, ks)) (hc : z_cut ks lv = lv) (hp : pc + 1 = pc') (h8 : ¬ k < 8) (hk : E.2.2.2.1 k = some (.inr (t, N))) (kk : X E d j pc' lv (zi N :: st) m Q) : X E d j pc lv (zr g k :: st) m Q := by
  subst hp
  refine X.hp (pc + 1) hi hc rfl kk (fun h1 h2 => ?_)
  have hv := z_kind_ne (z_hd h1) h8
  have hN : N < 2147483648 := by
    have hm := h2 g k hv
    unfold z_ck at hm
    rw [hk] at hm
    exact hm.2
  refine ⟨z_cons (show -2147483648 ≤ (N : Int) ∧ (N : Int) ≤ 2147483647 by omega) (z_tl h1), h2, fun k2 => ?_⟩
  rw [List.map_cons, z_v_ref hv]
  show x_alen E.1 1 (.ref (E.2.2.2.2.1 g k + 8) :: st.map (z_v E.2.2.2)) (z_u E.2.2.2 m) (fun s2 => k2 (pc + 1) s2 (z_u E.2.2.2 m)) = _
  unfold x_alen
  dsimp only
  rw [z_ga hv hk]
  dsimp only
  rw [if_pos rfl, show (z_arr t N (m g k)).2.1 = N from z_arr_len t N _]
  rw [List.map_cons, show z_v E.2.2.2 (zi (N : Int)) = .int (Int32.ofNat N) from congrArg Value.int Int32.ofInt_eq_ofNat]
theorem X.rlen (pc' : Nat) {p : Nat} (hi : z_I E j pc = some (.arraylength, 1, q, c, ks)) (hc : z_cut ks lv = lv) (hp : pc + 1 = pc') (h4 : p < 4) (hN : (E.1.1 p).1 < 2147483648) (kk : X E d j pc' lv (zi (E.1.1 p).1 :: st) m Q) : X E d j pc lv (zr 99 p :: st) m Q := by
  subst hp
  refine X.hp (pc + 1) hi hc rfl kk (fun h1 h2 => ?_)
  refine ⟨z_cons (show -2147483648 ≤ ((E.1.1 p).1 : Int) ∧ ((E.1.1 p).1 : Int) ≤ 2147483647 by omega) (z_tl h1), h2, fun k2 => ?_⟩
  rw [List.map_cons, z_v_old]
  show x_alen E.1 1 (.ref p :: st.map (z_v E.2.2.2)) (z_u E.2.2.2 m) (fun s2 => k2 (pc + 1) s2 (z_u E.2.2.2 m)) = _
  have key : ∀ (r : List Value) (u : List xC) (k : List Value → Option xR), x_alen E.1 1 (.ref p :: r) u k = k (.int (Int32.ofNat (E.1.1 p).1) :: r) := by
    intro r u k
    rcases (show p = 0 ∨ p = 1 ∨ p = 2 ∨ p = 3 by omega) with rfl | rfl | rfl | rfl <;> rfl
  rw [key]
  rw [List.map_cons, show z_v E.2.2.2 (zi ((E.1.1 p).1 : Int)) = .int (Int32.ofNat (E.1.1 p).1) from congrArg Value.int Int32.ofInt_eq_ofNat]
theorem z_mok_row {L : zL} {g k t N : Nat} {m m' : zM} (hm : z_mok L m) (hk : L.1 k = some (.inr (t, N))) (hr : z_val L g k → ∀ i : Int, 0 ≤ i → i < N → z_rg t (m' g k i)) (he : ∀ g' k', (g', k') ≠ (g, k) → m' g' k' = m g' k') : z_mok L m' := by
  intro g' k' hv
  by_cases h : (g', k') = (g, k)
  · obtain ⟨rfl, rfl⟩ := Prod.mk.inj h
    have h1 := hm g' k' hv
    unfold z_ck at h1 ⊢
    rw [hk] at h1 ⊢
    exact ⟨hr hv, h1.2⟩
  · rw [he _ _ h]
    exact hm g' k' hv
theorem z_updf {m : zM} {g k : Nat} {i x : Int} (h : 0 ≤ i) {α : Type} (f : Int → α) : (fun n : Nat => f (z_upd m g k i x g k (n : Int))) = fun n => if n = i.toNat then f x else f (m g k n) := by
  funext n
  by_cases h9 : n = i.toNat
  · subst h9
    rw [if_pos rfl, z_nat h, z_upd_same]
  · rw [if_neg h9, z_upd_i _ _ _ _ (by omega)]
theorem X.iast (pc' : Nat) {g k N : Nat} {i x : Int} (hi : z_I E j pc = some (.iastore, 1, q, c, ks)) (hc : z_cut ks lv = lv) (hp : pc + 1 = pc') (h8 : ¬ k < 8) (hk : E.2.2.2.1 k = some (.inr (0, N))) (hx : 0 ≤ i ∧ i < N) (kk : X E d j pc' lv st (z_upd m g k i x) Q) : X E d j pc lv (zi x :: zi i :: zr g k :: st) m Q := by
  subst hp
  refine X.hp (pc + 1) hi hc rfl kk (fun h1 h2 => ?_)
  have hv := z_kind_ne (z_hd (z_tl (z_tl h1))) h8
  have hr : -2147483648 ≤ i ∧ i ≤ 2147483647 := z_hd (z_tl h1)
  have hxr : -2147483648 ≤ x ∧ x ≤ 2147483647 := z_hd h1
  refine ⟨z_tl (z_tl (z_tl h1)), z_mok_row h2 hk (fun hv i' h0 hN => ?_) (fun g' k' he => z_upd_k _ _ _ he), fun k2 => ?_⟩
  · by_cases he : i' = i
    · subst he; rw [z_upd_same]; exact hxr
    · rw [z_upd_i _ _ _ _ he]; exact z_rgi h2 hv hk h0 hN
  · rw [List.map_cons, List.map_cons, List.map_cons, z_v_ref hv]
    show x_ias 1 (.int (Int32.ofInt x) :: .int (Int32.ofInt i) :: .ref (E.2.2.2.2.1 g k + 8) :: _) _ _ = _
    unfold x_ias
    dsimp only
    rw [z_ga hv hk]
    show x_in (Int32.ofInt i) N _ = _
    unfold x_in
    rw [if_neg (z_in hr hx.1 hx.2), z_cl hr]
    congr 1
    refine z_u_set hv ?_ (fun g' k' he => z_upd_k _ _ _ he)
    unfold z_c
    rw [hk]
    show _ = Sum.inl (FieldType.int, N, Sum.inl fun n : Nat => Int32.ofInt (z_upd m g k i x g k (n : Int)))
    rw [z_updf hx.1 (fun y => Int32.ofInt y)]
    rfl
theorem X.last (pc' : Nat) {g k N : Nat} {i x : Int} (hi : z_I E j pc = some (.lastore, 1, q, c, ks)) (hc : z_cut ks lv = lv) (hp : pc + 1 = pc') (h8 : ¬ k < 8) (hk : E.2.2.2.1 k = some (.inr (1, N))) (hx : 0 ≤ i ∧ i < N) (kk : X E d j pc' lv st (z_upd m g k i x) Q) : X E d j pc lv (zl x :: zi i :: zr g k :: st) m Q := by
  subst hp
  refine X.hp (pc + 1) hi hc rfl kk (fun h1 h2 => ?_)
  have hv := z_kind_ne (z_hd (z_tl (z_tl h1))) h8
  have hr : -2147483648 ≤ i ∧ i ≤ 2147483647 := z_hd (z_tl h1)
  have hxr : -9223372036854775808 ≤ x ∧ x ≤ 9223372036854775807 := z_hd h1
  refine ⟨z_tl (z_tl (z_tl h1)), z_mok_row h2 hk (fun hv i' h0 hN => ?_) (fun g' k' he => z_upd_k _ _ _ he), fun k2 => ?_⟩
  · by_cases he : i' = i
    · subst he; rw [z_upd_same]; exact hxr
    · rw [z_upd_i _ _ _ _ he]; exact z_rgi h2 hv hk h0 hN
  · rw [List.map_cons, List.map_cons, List.map_cons, z_v_ref hv]
    show x_las 1 (.long (Int64.ofInt x) :: .int (Int32.ofInt i) :: .ref (E.2.2.2.2.1 g k + 8) :: _) _ _ = _
    unfold x_las
    dsimp only
    rw [z_ga hv hk]
    show x_in (Int32.ofInt i) N _ = _
    unfold x_in
    rw [if_neg (z_in hr hx.1 hx.2), z_cl hr]
    congr 1
    refine z_u_set hv ?_ (fun g' k' he => z_upd_k _ _ _ he)
    unfold z_c
    rw [hk]
    show _ = Sum.inl (FieldType.long, N, Sum.inr (Sum.inl fun n : Nat => Int64.ofInt (z_upd m g k i x g k (n : Int))))
    rw [z_updf hx.1 (fun y => Int64.ofInt y)]
    rfl
theorem X.bast (pc' : Nat) {g k N : Nat} {i x : Int} (hi : z_I E j pc = some (.bastore, 1, q, c, ks)) (hc : z_cut ks lv = lv) (hp : pc + 1 = pc') (h8 : ¬ k < 8) (hk : E.2.2.2.1 k = some (.inr (2, N))) (hx : 0 ≤ i ∧ i < N) (hxr : -128 ≤ x ∧ x ≤ 127) (kk : X E d j pc' lv st (z_upd m g k i x) Q) : X E d j pc lv (zi x :: zi i :: zr g k :: st) m Q := by
  subst hp
  refine X.hp (pc + 1) hi hc rfl kk (fun h1 h2 => ?_)
  have hv := z_kind_ne (z_hd (z_tl (z_tl h1))) h8
  have hr : -2147483648 ≤ i ∧ i ≤ 2147483647 := z_hd (z_tl h1)
  refine ⟨z_tl (z_tl (z_tl h1)), z_mok_row h2 hk (fun hv i' h0 hN => ?_) (fun g' k' he => z_upd_k _ _ _ he), fun k2 => ?_⟩
  · by_cases he : i' = i
    · subst he; rw [z_upd_same]; exact hxr
    · rw [z_upd_i _ _ _ _ he]; exact z_rgi h2 hv hk h0 hN
  · rw [List.map_cons, List.map_cons, List.map_cons, z_v_ref hv]
    show x_bas 1 (.int (Int32.ofInt x) :: .int (Int32.ofInt i) :: .ref (E.2.2.2.2.1 g k + 8) :: _) _ _ = _
    unfold x_bas
    dsimp only
    rw [z_ga hv hk]
    show x_in (Int32.ofInt i) N _ = _
    unfold x_in
    rw [if_neg (z_in hr hx.1 hx.2), z_cl hr, vp_nar_byte, show (Int32.ofInt x).toInt8.toInt32 = Int32.ofInt x by
      rw [← Int32.toInt_inj, Int8.toInt_toInt32, Int32.toInt_toInt8, z_32 (by omega), Int.bmod_eq_of_le (by omega) (by omega)]]
    congr 1
    refine z_u_set hv ?_ (fun g' k' he => z_upd_k _ _ _ he)
    unfold z_c
    rw [hk]
    show _ = Sum.inl (FieldType.byte, N, Sum.inl fun n : Nat => Int32.ofInt (z_upd m g k i x g k (n : Int)))
    rw [z_updf hx.1 (fun y => Int32.ofInt y)]
    rfl
theorem X.zast (pc' : Nat) {g k N : Nat} {i x : Int} (hi : z_I E j pc = some (.bastore, 1, q, c, ks)) (hc : z_cut ks lv = lv) (hp : pc + 1 = pc') (h8 : ¬ k < 8) (hk : E.2.2.2.1 k = some (.inr (3, N))) (hx : 0 ≤ i ∧ i < N) (hxr : x = 0 ∨ x = 1) (kk : X E d j pc' lv st (z_upd m g k i x) Q) : X E d j pc lv (zi x :: zi i :: zr g k :: st) m Q := by
  subst hp
  refine X.hp (pc + 1) hi hc rfl kk (fun h1 h2 => ?_)
  have hv := z_kind_ne (z_hd (z_tl (z_tl h1))) h8
  have hr : -2147483648 ≤ i ∧ i ≤ 2147483647 := z_hd (z_tl h1)
  refine ⟨z_tl (z_tl (z_tl h1)), z_mok_row h2 hk (fun hv i' h0 hN => ?_) (fun g' k' he => z_upd_k _ _ _ he), fun k2 => ?_⟩
  · by_cases he : i' = i
    · subst he; rw [z_upd_same]; show 0 ≤ x ∧ x ≤ 1; omega
    · rw [z_upd_i _ _ _ _ he]; exact z_rgi h2 hv hk h0 hN
  · rw [List.map_cons, List.map_cons, List.map_cons, z_v_ref hv]
    show x_bas 1 (.int (Int32.ofInt x) :: .int (Int32.ofInt i) :: .ref (E.2.2.2.2.1 g k + 8) :: _) _ _ = _
    unfold x_bas
    dsimp only
    rw [z_ga hv hk]
    show x_in (Int32.ofInt i) N _ = _
    unfold x_in
    rw [if_neg (z_in hr hx.1 hx.2), z_cl hr, show vp_nar .boolean (Int32.ofInt x) = Int32.ofInt x by rcases hxr with rfl | rfl <;> rfl]
    congr 1
    refine z_u_set hv ?_ (fun g' k' he => z_upd_k _ _ _ he)
    unfold z_c
    rw [hk]
    show _ = Sum.inl (FieldType.boolean, N, Sum.inl fun n : Nat => Int32.ofInt (z_upd m g k i x g k (n : Int)))
    rw [z_updf hx.1 (fun y => Int32.ofInt y)]
    rfl
-- constants
theorem X.ldc (pc' : Nat) {idx : Nat} {x : Int} (hi : z_I E j pc = some (.ldc idx, 2, q, .int (Int32.ofInt x), ks)) (hc : z_cut ks lv = lv) (hp : pc + 2 = pc') (hx : -2147483648 ≤ x ∧ x ≤ 2147483647) (kk : X E d j pc' lv (zi x :: st) m Q) : X E d j pc lv st m Q := by
  subst hp
  exact X.hp (pc + 2) hi hc rfl kk (fun h1 h2 => ⟨z_cons hx h1, h2, fun k2 => rfl⟩)
theorem X.ldcw (pc' : Nat) {idx : Nat} {x : Int} (hi : z_I E j pc = some (.ldc_w idx, 3, q, .int (Int32.ofInt x), ks)) (hc : z_cut ks lv = lv) (hp : pc + 3 = pc') (hx : -2147483648 ≤ x ∧ x ≤ 2147483647) (kk : X E d j pc' lv (zi x :: st) m Q) : X E d j pc lv st m Q := by
  subst hp
  exact X.hp (pc + 3) hi hc rfl kk (fun h1 h2 => ⟨z_cons hx h1, h2, fun k2 => rfl⟩)
theorem X.ldcS (pc' : Nat) {idx p : Nat} (hi : z_I E j pc = some (.ldc idx, 2, q, .ref p, ks)) (hc : z_cut ks lv = lv) (hp : pc + 2 = pc') (h8 : p < 8) (kk : X E d j pc' lv (zr 99 p :: st) m Q) : X E d j pc lv st m Q := by
  subst hp
  exact X.hp (pc + 2) hi hc rfl kk (fun h1 h2 => ⟨z_cons (.inl ⟨rfl, h8⟩) h1, h2, fun k2 => rfl⟩)
theorem X.ldc2 (pc' : Nat) {idx : Nat} {x : Int} (hi : z_I E j pc = some (.ldc2_w idx, 3, q, .long (Int64.ofInt x), ks)) (hc : z_cut ks lv = lv) (hp : pc + 3 = pc') (hx : -9223372036854775808 ≤ x ∧ x ≤ 9223372036854775807) (kk : X E d j pc' lv (zl x :: st) m Q) : X E d j pc lv st m Q := by
  subst hp
  exact X.hp (pc + 3) hi hc rfl kk (fun h1 h2 => ⟨z_cons hx h1, h2, fun k2 => rfl⟩)
theorem X.gets (pc' : Nat) {idx p a1 a2 a3 : Nat} (hi : z_I E j pc = some (.getstatic idx, 3, (p, a1, a2, a3), c, ks)) (hc : z_cut ks lv = lv) (hp : pc + 3 = pc') (h4 : p < 4) (kk : X E d j pc' lv (zr 99 p :: st) m Q) : X E d j pc lv st m Q := by
  subst hp
  exact X.hp (pc + 3) hi hc rfl kk (fun h1 h2 => ⟨z_cons (.inl ⟨rfl, show p < 8 by omega⟩) h1, h2, fun k2 => by
    show (if (3 : Nat) = 3 ∧ p < 4 then _ else none) = _
    rw [if_pos ⟨rfl, h4⟩]
    rfl⟩)
end
end
section
section
variable {E : zE} {d j pc : Nat} {lv : List (Nat × zV)} {st : List zV} {m : zM} {Q : Option zV → zM → Prop} {q : Nat × Nat × Nat × Nat} {c : Value} {ks : Option (List Nat)}
-- calls of what is no method of ours
theorem X.bi {ins : Instr} {st' : List zV} {m' : zM} (pc' : Nat) (hi : z_I E j pc = some (ins, 3, q, c, ks)) (hc : z_cut ks lv = lv) (hp : pc + 3 = pc') (h0 : x_kind ins = 4) (kk : X E d j pc' lv st' m' Q)
    (hok : (∀ v ∈ st, z_ok E.2.2.2 v) → z_mok E.2.2.2 m → (∀ v ∈ st', z_ok E.2.2.2 v) ∧ z_mok E.2.2.2 m' ∧ ∀ (call : Nat → List Value → List xC → Option xR) (k : Nat → List Value → List xC → Option xR), x_inv E.1 call d q 3 pc (st.map (z_v E.2.2.2)) (z_u E.2.2.2 m) k = k pc' (st'.map (z_v E.2.2.2)) (z_u E.2.2.2 m')) : X E d j pc lv st m Q := by
  refine X.go hi hc (fun h1 h2 h3 => ?_) kk
  obtain ⟨g1, g3, g2⟩ := hok h2 h3
  refine ⟨h1, g1, g3, fun call M k => ?_⟩
  unfold x_step
  rw [h0]
  dsimp only
  rw [g2]
  rfl
theorem z_low {ρ : Type} {L : zL} {r : List zV} (h : z_wd r ≤ 8) (a : Option ρ) : x_low (r.map (z_v L)) a = a := by
  unfold x_low
  rw [if_pos]
  rw [show ((r.map (z_v L)).map fun v => v.category).sum = z_wd r from z_cats L r]
  exact h
theorem z_biq {call : Nat → List Value → List xC → Option xR} {scr : xZ} {k : Nat → List Value → List xC → Option xR} {j' na kd ci : Nat} {s : List Value} {u : List xC} (hd : 12 ≤ d) (h7 : 10 ≤ kd) : x_inv scr call d (j', na, kd, ci) 3 pc s u k = x_ma kd s fun s => x_low (s.drop 1) (k (pc + 3) s u) := by
  unfold x_inv
  rw [if_pos rfl, if_pos (show 7 ≤ kd by omega), if_neg (show ¬ d < 12 by omega), if_neg (show ¬ kd = 7 by omega), if_neg (show ¬ kd ≤ 9 by omega)]
theorem X.maxI (pc' : Nat) {idx j' na ci : Nat} {x y : Int} (hi : z_I E j pc = some (.invokestatic idx, 3, (j', na, 10, ci), c, ks)) (hc : z_cut ks lv = lv) (hp : pc + 3 = pc') (hd : 12 ≤ d) (hw : z_wd st ≤ 8) (kk : X E d j pc' lv (zi (max x y) :: st) m Q) : X E d j pc lv (zi y :: zi x :: st) m Q := by
  subst hp
  refine X.bi (pc + 3) hi hc rfl rfl kk (fun h1 h2 => ?_)
  have hx : -2147483648 ≤ x ∧ x ≤ 2147483647 := z_hd (z_tl h1)
  have hy : -2147483648 ≤ y ∧ y ≤ 2147483647 := z_hd h1
  refine ⟨z_cons (show -2147483648 ≤ max x y ∧ max x y ≤ 2147483647 by omega) (z_tl (z_tl h1)), h2, fun call k => ?_⟩
  rw [z_biq hd (by decide)]
  show x_low (st.map (z_v E.2.2.2)) (k (pc + 3) (.int (if Int32.ofInt x < Int32.ofInt y then Int32.ofInt y else Int32.ofInt x) :: _) _) = _
  rw [z_low hw]
  simp only [z_lt32 hx hy]
  rw [show (if x < y then Int32.ofInt y else Int32.ofInt x) = Int32.ofInt (max x y) by by_cases h : x < y <;> simp only [h, if_true, if_false] <;> congr 1 <;> omega]
  rfl
theorem X.minI (pc' : Nat) {idx j' na ci : Nat} {x y : Int} (hi : z_I E j pc = some (.invokestatic idx, 3, (j', na, 11, ci), c, ks)) (hc : z_cut ks lv = lv) (hp : pc + 3 = pc') (hd : 12 ≤ d) (hw : z_wd st ≤ 8) (kk : X E d j pc' lv (zi (min x y) :: st) m Q) : X E d j pc lv (zi y :: zi x :: st) m Q := by
  subst hp
  refine X.bi (pc + 3) hi hc rfl rfl kk (fun h1 h2 => ?_)
  have hx : -2147483648 ≤ x ∧ x ≤ 2147483647 := z_hd (z_tl h1)
  have hy : -2147483648 ≤ y ∧ y ≤ 2147483647 := z_hd h1
  refine ⟨z_cons (show -2147483648 ≤ min x y ∧ min x y ≤ 2147483647 by omega) (z_tl (z_tl h1)), h2, fun call k => ?_⟩
  rw [z_biq hd (by decide)]
  show x_low (st.map (z_v E.2.2.2)) (k (pc + 3) (.int (if Int32.ofInt y < Int32.ofInt x then Int32.ofInt y else Int32.ofInt x) :: _) _) = _
  rw [z_low hw]
  simp only [z_lt32 hy hx]
  rw [show (if y < x then Int32.ofInt y else Int32.ofInt x) = Int32.ofInt (min x y) by by_cases h : y < x <;> simp only [h, if_true, if_false] <;> congr 1 <;> omega]
  rfl
theorem X.maxL (pc' : Nat) {idx j' na ci : Nat} {x y : Int} (hi : z_I E j pc = some (.invokestatic idx, 3, (j', na, 12, ci), c, ks)) (hc : z_cut ks lv = lv) (hp : pc + 3 = pc') (hd : 12 ≤ d) (hw : z_wd st ≤ 8) (kk : X E d j pc' lv (zl (max x y) :: st) m Q) : X E d j pc lv (zl y :: zl x :: st) m Q := by
  subst hp
  refine X.bi (pc + 3) hi hc rfl rfl kk (fun h1 h2 => ?_)
  have hx : -9223372036854775808 ≤ x ∧ x ≤ 9223372036854775807 := z_hd (z_tl h1)
  have hy : -9223372036854775808 ≤ y ∧ y ≤ 9223372036854775807 := z_hd h1
  refine ⟨z_cons (show -9223372036854775808 ≤ max x y ∧ max x y ≤ 9223372036854775807 by omega) (z_tl (z_tl h1)), h2, fun call k => ?_⟩
  rw [z_biq hd (by decide)]
  show x_low (st.map (z_v E.2.2.2)) (k (pc + 3) (.long (if Int64.ofInt y < Int64.ofInt x then Int64.ofInt x else Int64.ofInt y) :: _) _) = _
  rw [z_low hw]
  simp only [z_lt64 hy hx]
  rw [show (if y < x then Int64.ofInt x else Int64.ofInt y) = Int64.ofInt (max x y) by by_cases h : y < x <;> simp only [h, if_true, if_false] <;> congr 1 <;> omega]
  rfl
theorem X.minL (pc' : Nat) {idx j' na ci : Nat} {x y : Int} (hi : z_I E j pc = some (.invokestatic idx, 3, (j', na, 13, ci), c, ks)) (hc : z_cut ks lv = lv) (hp : pc + 3 = pc') (hd : 12 ≤ d) (hw : z_wd st ≤ 8) (kk : X E d j pc' lv (zl (min x y) :: st) m Q) : X E d j pc lv (zl y :: zl x :: st) m Q := by
  subst hp
  refine X.bi (pc + 3) hi hc rfl rfl kk (fun h1 h2 => ?_)
  have hx : -9223372036854775808 ≤ x ∧ x ≤ 9223372036854775807 := z_hd (z_tl h1)
  have hy : -9223372036854775808 ≤ y ∧ y ≤ 9223372036854775807 := z_hd h1
  refine ⟨z_cons (show -9223372036854775808 ≤ min x y ∧ min x y ≤ 9223372036854775807 by omega) (z_tl (z_tl h1)), h2, fun call k => ?_⟩
  rw [z_biq hd (by decide)]
  show x_low (st.map (z_v E.2.2.2)) (k (pc + 3) (.long (if Int64.ofInt y < Int64.ofInt x then Int64.ofInt y else Int64.ofInt x) :: _) _) = _
  rw [z_low hw]
  simp only [z_lt64 hy hx]
  rw [show (if y < x then Int64.ofInt y else Int64.ofInt x) = Int64.ofInt (min x y) by by_cases h : y < x <;> simp only [h, if_true, if_false] <;> congr 1 <;> omega]
  rfl
theorem X.absL (pc' : Nat) {idx j' na ci : Nat} {x : Int} (hi : z_I E j pc = some (.invokestatic idx, 3, (j', na, 14, ci), c, ks)) (hc : z_cut ks lv = lv) (hp : pc + 3 = pc') (hd : 12 ≤ d) (hw : z_wd st ≤ 8) (hr : -9223372036854775807 ≤ x) (kk : X E d j pc' lv (zl (max x (-x)) :: st) m Q) : X E d j pc lv (zl x :: st) m Q := by
  subst hp
  refine X.bi (pc + 3) hi hc rfl rfl kk (fun h1 h2 => ?_)
  have hx : -9223372036854775808 ≤ x ∧ x ≤ 9223372036854775807 := z_hd h1
  refine ⟨z_cons (show -9223372036854775808 ≤ max x (-x) ∧ max x (-x) ≤ 9223372036854775807 by omega) (z_tl h1), h2, fun call k => ?_⟩
  rw [z_biq hd (by decide)]
  show x_low (st.map (z_v E.2.2.2)) (k (pc + 3) (.long (if 0 < Int64.ofInt x then Int64.ofInt x else -Int64.ofInt x) :: _) _) = _
  rw [z_low hw]
  simp only [show (0 < Int64.ofInt x ↔ 0 < x) from z_lt64 (x := 0) (by omega) hx, ← Int64.ofInt_neg]
  rw [show (if 0 < x then Int64.ofInt x else Int64.ofInt (-x)) = Int64.ofInt (max x (-x)) by by_cases h : 0 < x <;> simp only [h, if_true, if_false] <;> congr 1 <;> omega]
  rfl
theorem X.slen (pc' : Nat) {idx j' na ci p : Nat} (hi : z_I E j pc = some (.invokevirtual idx, 3, (j', na, 8, ci), c, ks)) (hc : z_cut ks lv = lv) (hp : pc + 3 = pc') (hd : 12 ≤ d) (hw : z_wd st ≤ 8) (hl : 4 ≤ p ∧ p < 8) (hN : (E.1.2 p).length < 2147483648) (kk : X E d j pc' lv (zi (E.1.2 p).length :: st) m Q) : X E d j pc lv (zr 99 p :: st) m Q := by
  subst hp
  refine X.bi (pc + 3) hi hc rfl rfl kk (fun h1 h2 => ?_)
  refine ⟨z_cons (show -2147483648 ≤ ((E.1.2 p).length : Int) ∧ ((E.1.2 p).length : Int) ≤ 2147483647 by omega) (z_tl h1), h2, fun call k => ?_⟩
  unfold x_inv
  dsimp only
  rw [if_pos rfl, if_pos (by decide), if_neg (show ¬ d < 12 by omega), if_neg (by decide), if_pos (by decide)]
  unfold x_tx
  rw [if_pos rfl]
  show (if 4 ≤ p ∧ p < 8 then _ else none) = _
  rw [if_pos hl]
  show x_low (st.map (z_v E.2.2.2)) _ = _
  rw [z_low hw, List.map_cons, show z_v E.2.2.2 (zi ((E.1.2 p).length : Int)) = .int (Int32.ofNat (E.1.2 p).length) from congrArg Value.int Int32.ofInt_eq_ofNat]
  rfl
theorem X.schar (pc' : Nat) {idx j' na ci p : Nat} {i : Int} (hi : z_I E j pc = some (.invokevirtual idx, 3, (j', na, 9, ci), c, ks)) (hc : z_cut ks lv = lv) (hp : pc + 3 = pc') (hd : 12 ≤ d) (hw : z_wd st ≤ 8) (hl : 4 ≤ p ∧ p < 8) (hx : 0 ≤ i ∧ i < (E.1.2 p).length) (kk : X E d j pc' lv (zi ((E.1.2 p).getD i.toNat 0).toInt :: st) m Q) : X E d j pc lv (zi i :: zr 99 p :: st) m Q := by
  subst hp
  refine X.bi (pc + 3) hi hc rfl rfl kk (fun h1 h2 => ?_)
  have hr : -2147483648 ≤ i ∧ i ≤ 2147483647 := z_hd h1
  refine ⟨z_cons (z_r32 _) (z_tl (z_tl h1)), h2, fun call k => ?_⟩
  unfold x_inv
  dsimp only
  rw [if_pos rfl, if_pos (by decide), if_neg (show ¬ d < 12 by omega), if_neg (by decide), if_pos (by decide)]
  unfold x_tx
  rw [if_neg (by decide)]
  show (if 4 ≤ p ∧ p < 8 then x_in (Int32.ofInt i) (E.1.2 p).length (x_low (st.map (z_v E.2.2.2)) (k (pc + 3) (.int ((E.1.2 p).getD (Int32.ofInt i).toNatClampNeg 0) :: st.map (z_v E.2.2.2)) (z_u E.2.2.2 m))) else none) = _
  rw [if_pos hl]
  unfold x_in
  rw [if_neg (z_in hr hx.1 hx.2), z_cl hr, z_low hw, List.map_cons, z_vi_toInt]
theorem z_cpyf {m : zM} {g1 k1 g0 k0 : Nat} {sp dp n : Int} (h1 : 0 ≤ sp) (h2 : 0 ≤ dp) (h3 : 0 ≤ n) {α : Type} (f : Int → α) : va_cpy (fun i : Nat => f (m g0 k0 i)) (fun i : Nat => f (m g1 k1 i)) sp.toNat dp.toNat n.toNat = fun i : Nat => f (z_cpy m g1 k1 g0 k0 sp dp n g1 k1 i) := by
  funext i
  unfold va_cpy z_cpy
  by_cases h : dp ≤ (i : Int) ∧ (i : Int) < dp + n
  · rw [if_pos (show dp.toNat ≤ i ∧ i < dp.toNat + n.toNat by omega), if_pos (show g1 = g1 ∧ k1 = k1 ∧ dp ≤ (i : Int) ∧ (i : Int) < dp + n from ⟨rfl, rfl, h.1, h.2⟩)]
    dsimp only
    rw [show (((sp.toNat + (i - dp.toNat) : Nat)) : Int) = (i : Int) - dp + sp by omega]
  · rw [if_neg (show ¬ (dp.toNat ≤ i ∧ i < dp.toNat + n.toNat) by omega), if_neg (show ¬ (g1 = g1 ∧ k1 = k1 ∧ dp ≤ (i : Int) ∧ (i : Int) < dp + n) from fun e => h ⟨e.2.2.1, e.2.2.2⟩)]
theorem z_cpy_k {m : zM} {g1 k1 g0 k0 : Nat} {sp dp n : Int} {g' k' : Nat} (h : (g', k') ≠ (g1, k1)) : z_cpy m g1 k1 g0 k0 sp dp n g' k' = m g' k' := by
  funext i
  unfold z_cpy
  rw [if_neg (fun e => h (by rw [e.1, e.2.1]))]
theorem z_cpi {ρ : Type} {n sp dp : Int} {N0 N1 : Nat} (hn : -2147483648 ≤ n ∧ n ≤ 2147483647) (hs : -2147483648 ≤ sp ∧ sp ≤ 2147483647) (hd : -2147483648 ≤ dp ∧ dp ≤ 2147483647) (h : 0 ≤ n ∧ 0 ≤ sp ∧ 0 ≤ dp ∧ sp + n ≤ N0 ∧ dp + n ≤ N1) (a : Option ρ) : x_cpi (Int32.ofInt n) (Int32.ofInt sp) (Int32.ofInt dp) N0 N1 a = a := by
  unfold x_cpi
  have e : ∀ x : Int, (-2147483648 ≤ x ∧ x ≤ 2147483647) → (Int32.ofInt x < 0 ↔ x < 0) := fun x hx => z_lt32 hx (y := 0) (by omega)
  rw [if_neg (by rw [e n hn, e sp hs, e dp hd]; omega), if_pos (by rw [z_cl hn, z_cl hs, z_cl hd]; omega)]
theorem X.cpI (pc' : Nat) {idx j' na ci g1 k1 g0 k0 N1 N0 : Nat} {n dp sp : Int} (hi : z_I E j pc = some (.invokestatic idx, 3, (j', na, 7, ci), c, ks)) (hc : z_cut ks lv = lv) (hp : pc + 3 = pc') (hd : 12 ≤ d) (hw : z_wd st ≤ 8) (h1 : ¬ k1 < 8) (h0 : ¬ k0 < 8) (hk1 : E.2.2.2.1 k1 = some (.inr (0, N1))) (hk0 : E.2.2.2.1 k0 = some (.inr (0, N0))) (hr : 0 ≤ n ∧ 0 ≤ sp ∧ 0 ≤ dp ∧ sp + n ≤ N0 ∧ dp + n ≤ N1)
    (kk : X E d j pc' lv st (z_cpy m g1 k1 g0 k0 sp dp n) Q) : X E d j pc lv (zi n :: zi dp :: zr g1 k1 :: zi sp :: zr g0 k0 :: st) m Q := by
  subst hp
  refine X.bi (pc + 3) hi hc rfl rfl kk (fun e1 e2 => ?_)
  have hn : -2147483648 ≤ n ∧ n ≤ 2147483647 := z_hd e1
  have hdp : -2147483648 ≤ dp ∧ dp ≤ 2147483647 := z_hd (z_tl e1)
  have hv1 := z_kind_ne (z_hd (z_tl (z_tl e1))) h1
  have hsp : -2147483648 ≤ sp ∧ sp ≤ 2147483647 := z_hd (z_tl (z_tl (z_tl e1)))
  have hv0 := z_kind_ne (z_hd (z_tl (z_tl (z_tl (z_tl e1))))) h0
  refine ⟨z_tl (z_tl (z_tl (z_tl (z_tl e1)))), z_mok_row e2 hk1 (fun hv i a1 a2 => ?_) (fun g' k' he => z_cpy_k he), fun call k => ?_⟩
  · unfold z_cpy
    split
    · exact z_rgi e2 hv0 hk0 (by omega) (by omega)
    · exact z_rgi e2 hv hk1 a1 a2
  · unfold x_inv
    dsimp only
    rw [if_pos rfl, if_pos (by decide), if_neg (show ¬ d < 12 by omega), if_pos rfl]
    simp only [List.map_cons, z_v_ref hv1, z_v_ref hv0]
    show x_cp E.1 (.int (Int32.ofInt n) :: .int (Int32.ofInt dp) :: .ref (E.2.2.2.2.1 g1 k1 + 8) :: .int (Int32.ofInt sp) :: .ref (E.2.2.2.2.1 g0 k0 + 8) :: st.map (z_v E.2.2.2)) (z_u E.2.2.2 m) (fun r h => x_low r (k (pc + 3) r h)) = _
    unfold x_cp
    dsimp only
    rw [z_ga hv1 hk1]
    show x_src E.1 (z_u E.2.2.2 m) (E.2.2.2.2.1 g0 k0 + 8) _ = _
    unfold x_src
    dsimp only
    rw [z_ga hv0 hk0]
    show x_cpi (Int32.ofInt n) (Int32.ofInt sp) (Int32.ofInt dp) N0 N1 _ = _
    rw [z_cpi hn hsp hdp hr, z_low hw, z_cl hn, z_cl hsp, z_cl hdp]
    congr 1
    refine z_u_set hv1 ?_ (fun g' k' he => z_cpy_k he)
    unfold z_c
    rw [hk1]
    show _ = Sum.inl (FieldType.int, N1, Sum.inl fun i : Nat => Int32.ofInt (z_cpy m g1 k1 g0 k0 sp dp n g1 k1 (i : Int)))
    rw [← z_cpyf (g1 := g1) (k1 := k1) (g0 := g0) (k0 := k0) hr.2.1 hr.2.2.1 hr.1 (fun y => Int32.ofInt y)]
theorem X.cpL (pc' : Nat) {idx j' na ci g1 k1 g0 k0 N1 N0 : Nat} {n dp sp : Int} (hi : z_I E j pc = some (.invokestatic idx, 3, (j', na, 7, ci), c, ks)) (hc : z_cut ks lv = lv) (hp : pc + 3 = pc') (hd : 12 ≤ d) (hw : z_wd st ≤ 8) (h1 : ¬ k1 < 8) (h0 : ¬ k0 < 8) (hk1 : E.2.2.2.1 k1 = some (.inr (1, N1))) (hk0 : E.2.2.2.1 k0 = some (.inr (1, N0))) (hr : 0 ≤ n ∧ 0 ≤ sp ∧ 0 ≤ dp ∧ sp + n ≤ N0 ∧ dp + n ≤ N1)
    (kk : X E d j pc' lv st (z_cpy m g1 k1 g0 k0 sp dp n) Q) : X E d j pc lv (zi n :: zi dp :: zr g1 k1 :: zi sp :: zr g0 k0 :: st) m Q := by
  subst hp
  refine X.bi (pc + 3) hi hc rfl rfl kk (fun e1 e2 => ?_)
  have hn : -2147483648 ≤ n ∧ n ≤ 2147483647 := z_hd e1
  have hdp : -2147483648 ≤ dp ∧ dp ≤ 2147483647 := z_hd (z_tl e1)
  have hv1 := z_kind_ne (z_hd (z_tl (z_tl e1))) h1
  have hsp : -2147483648 ≤ sp ∧ sp ≤ 2147483647 := z_hd (z_tl (z_tl (z_tl e1)))
  have hv0 := z_kind_ne (z_hd (z_tl (z_tl (z_tl (z_tl e1))))) h0
  refine ⟨z_tl (z_tl (z_tl (z_tl (z_tl e1)))), z_mok_row e2 hk1 (fun hv i a1 a2 => ?_) (fun g' k' he => z_cpy_k he), fun call k => ?_⟩
  · unfold z_cpy
    split
    · exact z_rgi e2 hv0 hk0 (by omega) (by omega)
    · exact z_rgi e2 hv hk1 a1 a2
  · unfold x_inv
    dsimp only
    rw [if_pos rfl, if_pos (by decide), if_neg (show ¬ d < 12 by omega), if_pos rfl]
    simp only [List.map_cons, z_v_ref hv1, z_v_ref hv0]
    show x_cp E.1 (.int (Int32.ofInt n) :: .int (Int32.ofInt dp) :: .ref (E.2.2.2.2.1 g1 k1 + 8) :: .int (Int32.ofInt sp) :: .ref (E.2.2.2.2.1 g0 k0 + 8) :: st.map (z_v E.2.2.2)) (z_u E.2.2.2 m) (fun r h => x_low r (k (pc + 3) r h)) = _
    unfold x_cp
    dsimp only
    rw [z_ga hv1 hk1]
    show x_srcl (z_u E.2.2.2 m) (E.2.2.2.2.1 g0 k0 + 8) _ = _
    unfold x_srcl
    dsimp only
    rw [z_ga hv0 hk0]
    show x_cpi (Int32.ofInt n) (Int32.ofInt sp) (Int32.ofInt dp) N0 N1 _ = _
    rw [z_cpi hn hsp hdp hr, z_low hw, z_cl hn, z_cl hsp, z_cl hdp]
    congr 1
    refine z_u_set hv1 ?_ (fun g' k' he => z_cpy_k he)
    unfold z_c
    rw [hk1]
    show _ = Sum.inl (FieldType.long, N1, Sum.inr (Sum.inl fun i : Nat => Int64.ofInt (z_cpy m g1 k1 g0 k0 sp dp n g1 k1 (i : Int))))
    rw [← z_cpyf (g1 := g1) (k1 := k1) (g0 := g0) (k0 := k0) hr.2.1 hr.2.2.1 hr.1 (fun y => Int64.ofInt y)]
-- calls
theorem X.in {ins : Instr} {j' na kd ci : Nat} (pc' : Nat) (As' rest : List zV) (lv0 : List (Nat × zV)) {rt : Option FieldType} {nL : Nat} (hi : z_I E j pc = some (ins, 3, (j', na, kd, ci), c, ks)) (hc : z_cut ks lv = lv) (hp : pc + 3 = pc') (h4 : x_kind ins = 4) (hd : 1 ≤ d) (hT : z_T E j' = some (rt, nL)) (hw : z_wd As' ≤ nL) (hwr : z_wd rest ≤ 8) (ha : z_args 0 As' = lv0) (hs : ∀ v ∈ As', v ∈ st) (hs2 : ∀ v ∈ rest, v ∈ st)
    (hinv : (∀ v ∈ st, z_ok E.2.2.2 v) → ∀ (call : Nat → List Value → List xC → Option xR) (k : Nat → List Value → List xC → Option xR), x_inv E.1 call d (j', na, kd, ci) 3 pc (st.map (z_v E.2.2.2)) (z_u E.2.2.2 m) k = x_low (rest.map (z_v E.2.2.2)) ((call j' (As'.map (z_v E.2.2.2)) (z_u E.2.2.2 m)).bind fun z => k (pc + 3) (z.1.toList ++ rest.map (z_v E.2.2.2)) z.2))
    (kk : X E (d - 1) j' 0 lv0 [] m (fun r m' => X E d j pc' lv (z_push r rest) m' Q)) : X E d j pc lv st m Q := by
  intro g1 g2 g3
  subst hp
  obtain ⟨c1, r1, m1, a1, a2, a3, a4⟩ := kk (fun q hq => g2 _ (hs _ (z_args_mem (by rw [ha]; exact hq)))) (fun v hv => by cases hv) g3
  obtain ⟨c2, r2, m2, b1, b2, b3, b4⟩ := a4 g1 (by
    intro v hv
    cases r1 with
    | none => exact g2 v (hs2 v hv)
    | some w =>
      rcases List.mem_cons.mp hv with rfl | hv
      · exact a2 _ rfl
      · exact g2 v (hs2 v hv)) a3
  obtain ⟨M, hM, hx⟩ := z_I_inv hi
  refine ⟨c1 + c2 + 1, r2, m2, fun n => ?_, b2, b3, b4⟩
  rw [show n + (c1 + c2 + 1) = (n + c1 + c2) + 1 by omega, z_unf hM hx, z_cut_lv]
  dsimp only
  rw [hc]
  unfold x_step
  rw [h4]
  dsimp only
  rw [hinv g2, z_low hwr]
  obtain ⟨d', rfl⟩ : ∃ d', d = d' + 1 := ⟨d - 1, by omega⟩
  unfold z_T at hT
  obtain ⟨M', hM', hTT⟩ := Option.map_eq_some_iff.mp hT
  dsimp only
  rw [hM']
  dsimp only
  have hnL : M'.2.2.1 = nL := congrArg Prod.snd hTT
  rw [if_pos (by rw [z_cats, hnL]; exact hw), z_args_lv, ha]
  have e1 := a1 (n + c2)
  rw [show n + c2 + c1 = n + c1 + c2 by omega] at e1
  simp only [Nat.add_sub_cancel, List.map_nil] at e1
  rw [e1]
  have e2 := b1 (n + c1)
  show x_exec _ _ _ _ _ _ _ _ ((Option.map (z_v E.2.2.2) r1).toList ++ rest.map (z_v E.2.2.2)) _ = _
  rw [show (Option.map (z_v E.2.2.2) r1).toList ++ rest.map (z_v E.2.2.2) = (z_push r1 rest).map (z_v E.2.2.2) by cases r1 <;> rfl]
  exact e2
theorem z_argv {L : zL} (As rest : List zV) : x_args As.length ((As.reverse ++ rest).map (z_v L)) = some (As.map (z_v L), rest.map (z_v L)) := by
  unfold x_args
  rw [if_pos (by simp)]
  congr 2
  · rw [List.map_append, List.take_left' (by simp), ← List.map_reverse, List.reverse_reverse]
  · rw [List.map_append, List.drop_left' (by simp)]
theorem X.calls (pc' : Nat) (As rest : List zV) (lv0 : List (Nat × zV)) {idx j' na kd ci : Nat} {rt : Option FieldType} {nL : Nat} (hi : z_I E j pc = some (.invokestatic idx, 3, (j', na, kd, ci), c, ks)) (hk : kd = 3 ∨ kd = 6) (hc : z_cut ks lv = lv) (hp : pc + 3 = pc') (hd : 1 ≤ d) (hst : As.reverse ++ rest = st) (hna : As.length = na) (hT : z_T E j' = some (rt, nL)) (hw : z_wd As ≤ nL) (hwr : z_wd rest ≤ 8) (ha : z_args 0 As = lv0)
    (kk : X E (d - 1) j' 0 lv0 [] m (fun r m' => X E d j pc' lv (z_push r rest) m' Q)) : X E d j pc lv st m Q := by
  subst hst
  subst hna
  refine X.in pc' As rest lv0 hi hc hp rfl hd hT hw hwr ha (fun v hv => List.mem_append.mpr (.inl (List.mem_reverse.mpr hv))) (fun v hv => List.mem_append.mpr (.inr hv)) (fun _ call k => ?_) kk
  unfold x_inv
  dsimp only
  rw [if_pos rfl, if_neg (by omega), if_neg (by omega), if_pos hk, z_argv]
theorem X.callv (pc' : Nat) (As rest : List zV) (lv0 : List (Nat × zV)) {ins : Instr} {j' na kd ci g k : Nat} {fs : List zF} {rt : Option FieldType} {nL : Nat} (hi : z_I E j pc = some (ins, 3, (j', na, kd, ci), c, ks)) (hin : x_kind ins = 4) (hk : kd = 1 ∨ kd = 2 ∨ kd = 4 ∨ kd = 5) (hc : z_cut ks lv = lv) (hp : pc + 3 = pc') (hd : 1 ≤ d) (hst : As.reverse ++ zr g k :: rest = st) (hna : As.length = na) (h8 : ¬ k < 8) (hkk : E.2.2.2.1 k = some (.inl (ci, fs))) (hT : z_T E j' = some (rt, nL)) (hw : z_wd (zr g k :: As) ≤ nL) (hwr : z_wd rest ≤ 8) (ha : z_args 0 (zr g k :: As) = lv0)
    (kk : X E (d - 1) j' 0 lv0 [] m (fun r m' => X E d j pc' lv (z_push r rest) m' Q)) : X E d j pc lv st m Q := by
  subst hst
  subst hna
  refine X.in pc' (zr g k :: As) rest lv0 hi hc hp hin hd hT hw hwr ha (fun v hv => ?_) (fun v hv => List.mem_append.mpr (.inr (List.mem_cons_of_mem _ hv))) (fun g2 call k2 => ?_) kk
  · rcases List.mem_cons.mp hv with rfl | hv
    · exact List.mem_append.mpr (.inr List.mem_cons_self)
    · exact List.mem_append.mpr (.inl (List.mem_reverse.mpr hv))
  · have hv := z_kind_ne (g2 (zr g k) (List.mem_append.mpr (.inr List.mem_cons_self))) h8
    unfold x_inv
    dsimp only
    rw [if_pos rfl, if_neg (by omega), if_neg (by omega), if_neg (by omega), z_argv]
    rw [List.map_cons, z_v_ref hv]
    dsimp only
    rw [z_gf hv hkk]
    dsimp only
    rw [if_pos rfl, List.map_cons, z_v_ref hv]
-- ends
theorem X.end' {ins : Instr} {n : Nat} {rt : Option FieldType} {nL : Nat} (r : Option zV) (hi : z_I E j pc = some (ins, n, q, c, ks)) (hc : z_cut ks lv = lv) (h5 : x_kind ins = 5) (hT : z_T E j = some (rt, nL)) (hr : ∀ u, x_ret ins n rt (st.map (z_v E.2.2.2)) u = some (r.map (z_v E.2.2.2), u)) (hs : ∀ v, r = some v → v ∈ st) (hq : Q r m) : X E d j pc lv st m Q := by
  intro g1 g2 g3
  obtain ⟨M, hM, hx⟩ := z_I_inv hi
  unfold z_T at hT
  obtain ⟨M', hM', hTT⟩ := Option.map_eq_some_iff.mp hT
  have hMM : M' = M := Option.some.inj (hM'.symm.trans hM)
  subst hMM
  have hrt : M'.2.2.2.1 = rt := congrArg Prod.fst hTT
  refine ⟨1, r, m, fun n => ?_, fun v hv => g2 v (hs v hv), g3, hq⟩
  rw [z_unf hM hx]
  unfold x_step
  rw [h5]
  dsimp only
  rw [hrt]
  exact hr _
theorem X.reti {x : Int} {nL : Nat} (hi : z_I E j pc = some (.ireturn, 1, q, c, ks)) (hc : z_cut ks lv = lv) (hT : z_T E j = some (some .int, nL)) (hq : Q (some (zi x)) m) : X E d j pc lv [zi x] m Q :=
  X.end' (some (zi x)) hi hc rfl hT (fun u => rfl) (fun v hv => by cases hv; exact List.mem_cons_self) hq
theorem X.retz {x : Int} {nL : Nat} (hi : z_I E j pc = some (.ireturn, 1, q, c, ks)) (hc : z_cut ks lv = lv) (hT : z_T E j = some (some .boolean, nL)) (hx : x = 0 ∨ x = 1) (hq : Q (some (zi x)) m) : X E d j pc lv [zi x] m Q :=
  X.end' (some (zi x)) hi hc rfl hT (fun u => by rcases hx with rfl | rfl <;> rfl) (fun v hv => by cases hv; exact List.mem_cons_self) hq
theorem X.retl {x : Int} {nL : Nat} (hi : z_I E j pc = some (.lreturn, 1, q, c, ks)) (hc : z_cut ks lv = lv) (hT : z_T E j = some (some .long, nL)) (hq : Q (some (zl x)) m) : X E d j pc lv [zl x] m Q :=
  X.end' (some (zl x)) hi hc rfl hT (fun u => rfl) (fun v hv => by cases hv; exact List.mem_cons_self) hq
theorem X.retv {nL : Nat} (hi : z_I E j pc = some (.return_, 1, q, c, ks)) (hc : z_cut ks lv = lv) (hT : z_T E j = some (none, nL)) (hq : Q none m) : X E d j pc lv [] m Q :=
  X.end' none hi hc rfl hT (fun u => rfl) (fun v hv => by cases hv) hq
end
end
