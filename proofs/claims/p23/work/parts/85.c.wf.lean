/-! Cells as they lie behind the constructors: they are the cells of a memory of numbers. -/
def kVal (o : Option Value) : Int := match o with
  | some (.int v) => v.toInt
  | some (.long v) => v.toInt
  | _ => 0
def kRd (o : Option xC) (i : Int) : Int := match o with
  | some (.inl (_, _, .inl f)) => (f i.toNat).toInt
  | some (.inl (_, _, .inr (.inl f))) => (f i.toNat).toInt
  | some (.inr (_, fs)) => kVal fs[i.toNat]?
  | _ => 0
def kEx (g k : Nat) : Bool := decide (g = 4) && (decide (k = 46) || decide (k = 47))
def mIni (u : List xC) : zM := fun g k i => if kEx g k = true ∧ 0 ≤ i ∧ i < 1619 then kRd u[lPos g k]? i else max (jl k i) (min (jh 0 k i) (kRd u[lPos g k]? i))
def kFlag (u : List xC) : Bool := decide (mIni u 4 44 3 ≠ 1)
def kArr (ex : Bool) (k N : Nat) (v : Nat → Int) : Bool := (jb k).all fun q => decide (0 ≤ q.1) && (decide (q.2.1 < N) && (ex || (List.range ((q.2.1 - q.1).toNat + 1)).all fun d => decide (q.2.2.1 ≤ v (q.1.toNat + d)) && decide (v (q.1.toNat + d) ≤ (if q.2.2.2 = -7 then 0 else q.2.2.2))))
def kB (k j : Nat) (x : Int) : Bool := decide (jl k j ≤ x) && decide (x ≤ jh 0 k j)
def kF (v : Value) (d : zF) (g k j : Nat) : Bool := match d with
  | .inl t => match v with
    | .int x => kB k j x.toInt && (decide (t = 0) || (decide (t = 2) && (decide (x.toInt = 0) || decide (x.toInt = 1))))
    | .long x => kB k j x.toInt && decide (t = 1)
    | _ => false
  | .inr (.inl k') => match v with
    | .ref p => decide (p = lPos g k' + 8) && decide (g ≠ 99)
    | _ => false
  | .inr (.inr q) => match v with
    | .ref p => decide (p = lPos q.1 q.2 + 8) && decide (q.1 ≠ 99)
    | _ => false
def kFs : List Value → List zF → Nat → Nat → Nat → Bool
  | [], [], _, _, _ => true
  | v :: vs, d :: ds, g, k, j => kF v d g k j && kFs vs ds g k (j + 1)
  | _, _, _, _, _ => false
def kCell (c : xC) (g k : Nat) : Bool := match lL.1 k with
  | some (.inl q) => match c with
    | .inr (ci, fs) => !kEx g k && (decide (ci = q.1) && kFs fs q.2 g k 0)
    | _ => false
  | some (.inr q) => match c with
    | .inl (.int, N, .inl f) => !kEx g k && (decide (q.1 = 0) && (decide (N = q.2) && (decide (N < 2147483648) && kArr false k N (fun i => (f i).toInt))))
    | .inl (.long, N, .inr (.inl f)) => decide (q.1 = 1) && (decide (N = q.2) && (decide (N < 2147483648) && (kArr (kEx g k) k N (fun i => (f i).toInt) && (!kEx g k || decide (N = 1619)))))
    | .inl (.byte, N, .inl f) => !kEx g k && (decide (q.1 = 2) && (decide (N = q.2) && (decide (N < 2147483648) && (kArr false k N (fun i => (f i).toInt) && (List.range N).all fun i => decide (-128 ≤ (f i).toInt ∧ (f i).toInt ≤ 127)))))
    | .inl (.boolean, N, .inl f) => !kEx g k && (decide (q.1 = 3) && (decide (N = q.2) && (decide (N < 2147483648) && (kArr false k N (fun i => (f i).toInt) && (List.range N).all fun i => decide (0 ≤ (f i).toInt ∧ (f i).toInt ≤ 1)))))
    | _ => false
  | none => false
def kOne (u : List xC) (i : Nat) : Bool := match u[i]? with
  | some c => kCell c (lL.2.2.1 i).1 (lL.2.2.1 i).2 && decide (lPos (lL.2.2.1 i).1 (lL.2.2.1 i).2 = i)
  | none => false
def kAll (u : List xC) : Bool := decide (u.length = 115) && (List.range 115).all (kOne u)
theorem jf_mem {i : Int} {p : Int × Int} : ∀ l : List (Int × Int × Int × Int), jf l i = some p → ∃ q ∈ l, q.1 ≤ i ∧ i ≤ q.2.1 ∧ q.2.2 = p
  | [], h => by cases h
  | z :: r, h => by
    unfold jf at h
    split at h
    · rename_i h1
      exact ⟨z, List.mem_cons_self, h1.1, h1.2, by injection h⟩
    · obtain ⟨q, h1, h2⟩ := jf_mem r h
      exact ⟨q, List.mem_cons_of_mem _ h1, h2⟩
theorem jb_ok (k : Nat) : ((jb k).all fun q => decide (q.2.2.1 ≤ (if q.2.2.2 = -7 then 0 else q.2.2.2))) = true := by
  unfold jb
  split <;> rfl
theorem j_le (k : Nat) (i : Int) : jl k i ≤ jh 0 k i := by
  unfold jl jh
  cases h : jf (jb k) i with
  | none => show (-9223372036854775808 : Int) ≤ 9223372036854775807; decide
  | some p =>
    obtain ⟨q, h1, -, -, rfl⟩ := jf_mem _ h
    have h2 := of_decide_eq_true (List.all_eq_true.mp (jb_ok k) q h1)
    exact h2
theorem kArr_ok {k N : Nat} {v : Nat → Int} (h : kArr false k N v = true) (hv : ∀ i, -9223372036854775808 ≤ v i ∧ v i ≤ 9223372036854775807) (i : Nat) : max (jl k i) (min (jh 0 k i) (v i)) = v i := by
  unfold jl jh
  have h0 := hv i
  cases hj : jf (jb k) i with
  | none =>
    show max (-9223372036854775808 : Int) (min 9223372036854775807 (v i)) = v i
    omega
  | some p =>
    obtain ⟨q, h1, h2, h3, rfl⟩ := jf_mem _ hj
    have h4 := List.all_eq_true.mp h q h1
    simp only [Bool.and_eq_true, Bool.false_or, decide_eq_true_eq] at h4
    have h5 := List.all_eq_true.mp h4.2.2 (i - q.1.toNat) (List.mem_range.mpr (by omega))
    rw [show q.1.toNat + (i - q.1.toNat) = i by omega] at h5
    simp only [Bool.and_eq_true, decide_eq_true_eq] at h5
    show max q.2.2.1 (min (if q.2.2.2 = -7 then 0 else q.2.2.2) (v i)) = v i
    omega
theorem kArr_ex {ex : Bool} {k N : Nat} {v : Nat → Int} (h : kArr ex k N v = true) (hv : ∀ i, -9223372036854775808 ≤ v i ∧ v i ≤ 9223372036854775807) (i : Nat) (hi : N ≤ i) : max (jl k i) (min (jh 0 k i) (v i)) = v i := by
  unfold jl jh
  have h0 := hv i
  cases hj : jf (jb k) i with
  | none =>
    show max (-9223372036854775808 : Int) (min 9223372036854775807 (v i)) = v i
    omega
  | some p =>
    exfalso
    obtain ⟨q, h1, h2, h3, rfl⟩ := jf_mem _ hj
    have h4 := List.all_eq_true.mp h q h1
    simp only [Bool.and_eq_true, decide_eq_true_eq] at h4
    omega
theorem mIni_JB {u : List xC} (hf : kFlag u = true) : JB 0 (mIni u) := fun g k i hq => by
  have h := j_le k i
  by_cases he : kEx g k = true ∧ 0 ≤ i ∧ i < 1619
  · exfalso
    unfold kFlag at hf
    simp only [decide_eq_true_eq] at hf
    obtain ⟨e1, e2, e3⟩ := he
    unfold kEx at e1
    simp only [Bool.and_eq_true, Bool.or_eq_true, decide_eq_true_eq] at e1
    have h9 := hq e1.1 e2 e3
    rcases e1.2 with e | e
    · exact h9.1 e
    · rcases h9.2 e with h8 | h8
      · exact h8
      · exact hf h8
  · unfold mIni
    rw [if_neg he]
    omega
def zNum (d : zF) (P : Prop) : Prop := match d with
  | .inl _ => P
  | .inr _ => True
theorem kB_ok {k j : Nat} {x : Int} (h : kB k j x = true) : max (jl k j) (min (jh 0 k j) x) = x := by
  unfold kB at h
  simp only [Bool.and_eq_true, decide_eq_true_eq] at h
  omega
/-- one field -/
theorem kF_ok {v : Value} {d : zF} {g k j : Nat} (h : kF v d g k j = true) : z_v lL (z_fv d g (max (jl k j) (min (jh 0 k j) (kVal (some v))))) = v ∧
    zNum d (z_ok lL (z_fv d g (max (jl k j) (min (jh 0 k j) (kVal (some v)))))) ∧ (d = .inl 2 → max (jl k j) (min (jh 0 k j) (kVal (some v))) = 0 ∨ max (jl k j) (min (jh 0 k j) (kVal (some v))) = 1) := by
  rcases d with t | k' | q
  · cases v with
    | int x =>
      have h : (kB k j x.toInt && (decide (t = 0) || (decide (t = 2) && (decide (x.toInt = 0) || decide (x.toInt = 1))))) = true := h
      simp only [Bool.and_eq_true, Bool.or_eq_true, decide_eq_true_eq] at h
      have e : max (jl k j) (min (jh 0 k j) (kVal (some (Value.int x)))) = x.toInt := kB_ok h.1
      rw [e]
      have ht : t ≠ 1 := by omega
      have e2 : z_fv (.inl t) g x.toInt = zi x.toInt := if_neg ht
      rw [e2]
      refine ⟨congrArg Value.int (Int32.ofInt_toInt x), z_r32 x, fun h9 => ?_⟩
      have h9 : t = 2 := by injection h9
      omega
    | long x =>
      have h : (kB k j x.toInt && decide (t = 1)) = true := h
      simp only [Bool.and_eq_true, decide_eq_true_eq] at h
      have e : max (jl k j) (min (jh 0 k j) (kVal (some (Value.long x)))) = x.toInt := kB_ok h.1
      rw [e]
      obtain rfl := h.2
      refine ⟨congrArg Value.long (Int64.ofInt_toInt x), z_r64 x, fun h9 => ?_⟩
      have h9 : (1 : Nat) = 2 := by injection h9
      omega
    | _ => exact absurd (show false = true from h) (by decide)
  · cases v with
    | ref p =>
      have h : (decide (p = lPos g k' + 8) && decide (g ≠ 99)) = true := h
      simp only [Bool.and_eq_true, decide_eq_true_eq] at h
      refine ⟨?_, trivial, fun h9 => by cases h9⟩
      rw [h.1]
      show Value.ref (if g = 99 then _ else _) = _
      rw [if_neg h.2]
      rfl
    | _ => exact absurd (show false = true from h) (by decide)
  · cases v with
    | ref p =>
      have h : (decide (p = lPos q.1 q.2 + 8) && decide (q.1 ≠ 99)) = true := h
      simp only [Bool.and_eq_true, decide_eq_true_eq] at h
      refine ⟨?_, trivial, fun h9 => by cases h9⟩
      rw [h.1]
      show Value.ref (if q.1 = 99 then _ else _) = _
      rw [if_neg h.2]
      rfl
    | _ => exact absurd (show false = true from h) (by decide)
theorem kFs_ok {f : Int → Int} {g k : Nat} : ∀ (vs : List Value) (ds : List zF) (j : Nat), kFs vs ds g k j = true → (∀ (n : Nat) (v : Value), vs[n]? = some v → f ((j + n : Nat) : Int) = max (jl k ((j + n : Nat) : Int)) (min (jh 0 k ((j + n : Nat) : Int)) (kVal (some v)))) → z_fs lL f g j ds = vs ∧
    ∀ (n : Nat) (d : zF), ds[n]? = some d → zNum d (z_ok lL (z_fv d g (f ((j + n : Nat) : Int)))) ∧ (d = .inl 2 → f ((j + n : Nat) : Int) = 0 ∨ f ((j + n : Nat) : Int) = 1)
  | [], [], _, _, _ => ⟨rfl, fun n d h => by simp at h⟩
  | [], _ :: _, _, h, _ => by cases h
  | _ :: _, [], _, h, _ => by cases h
  | v :: vs, d :: ds, j, h, hf => by
    simp only [kFs, Bool.and_eq_true] at h
    obtain ⟨i1, i2⟩ := kFs_ok vs ds (j + 1) h.2 (fun n v' hv => by
      have := hf (n + 1) v' (by simpa using hv)
      rwa [show j + 1 + n = j + (n + 1) by omega])
    have h0 := hf 0 v rfl
    have h1 := kF_ok h.1
    have h0 : f ((j : Nat) : Int) = max (jl k j) (min (jh 0 k j) (kVal (some v))) := h0
    rw [← h0] at h1
    refine ⟨?_, fun n d' hd => ?_⟩
    · show z_v lL (z_fv d g (f j)) :: z_fs lL f g (j + 1) ds = _
      rw [i1, h1.1]
    · cases n with
      | zero =>
        have e : d = d' := by simpa using hd
        subst e
        exact h1.2
      | succ n =>
        have := i2 n d' (by simpa using hd)
        rwa [show j + 1 + n = j + (n + 1) by omega] at this
theorem lL_val (i : Nat) (hi : i < 115) : z_val lL (lL.2.2.1 i).1 (lL.2.2.1 i).2 := by
  have key : ((List.range 115).all fun i => decide (lL.2.1 (lL.2.2.1 i).1 (lL.2.2.1 i).2 = i) && decide ((lL.2.2.1 i).1 ≠ 99)) = true := by decide +kernel
  have h1 := List.all_eq_true.mp key i (List.mem_range.mpr hi)
  simp only [Bool.and_eq_true, decide_eq_true_eq] at h1
  refine ⟨by rw [h1.1]; exact hi, by rw [h1.1], h1.2, fun i' hi' e => ?_⟩
  have h2 := List.all_eq_true.mp key i' (List.mem_range.mpr hi')
  simp only [Bool.and_eq_true, decide_eq_true_eq] at h2
  have h3 := h2.1
  rw [e] at h3
  exact h3.symm
/-- every field that is a reference leads to a cell -/
theorem lK_refs : ((List.range 115).all fun i => match lL.1 (lL.2.2.1 i).2 with
    | some (.inl q) => q.2.all fun d => match d with
      | .inl t => decide (t = 0 ∨ t = 1 ∨ t = 2)
      | .inr (.inl k) => (List.range 115).any fun j => decide (lL.2.2.1 j = ((lL.2.2.1 i).1, k))
      | .inr (.inr q) => (List.range 115).any fun j => decide (lL.2.2.1 j = q)
    | _ => true) = true := by decide +kernel
theorem kCell_ok {u : List xC} {i : Nat} (hi : i < 115) (h : kOne u i = true) : u[i]? = some (z_at lL (mIni u) i) ∧ z_ck lL (mIni u (lL.2.2.1 i).1 (lL.2.2.1 i).2) (lL.2.2.1 i).1 (lL.2.2.1 i).2 := by
  unfold kOne at h
  split at h
  case h_2 => cases h
  rename_i c hc
  simp only [Bool.and_eq_true, decide_eq_true_eq] at h
  obtain ⟨h, hp⟩ := h
  rw [hc]
  have href := List.all_eq_true.mp lK_refs i (List.mem_range.mpr hi)
  unfold z_at
  generalize (lL.2.2.1 i).1 = g at *
  generalize (lL.2.2.1 i).2 = k at *
  have hm : kEx g k = false → ∀ x : Int, mIni u g k x = max (jl k x) (min (jh 0 k x) (kRd (some c) x)) := fun hx x => by
    unfold mIni
    rw [hp, hc, if_neg (fun e => by rw [hx] at e; cases e.1)]
  unfold kCell at h
  unfold z_c z_ck
  split at h
  · rename_i q hk
    rw [hk] at href ⊢
    split at h
    case h_2 => cases h
    rename_i ci fs
    simp only [Bool.and_eq_true, Bool.not_eq_true', decide_eq_true_eq] at h
    obtain ⟨hx, rfl, h⟩ := h
    replace hm := hm hx
    obtain ⟨e1, e2⟩ := kFs_ok (f := mIni u g k) fs q.2 0 h (fun n v hv => by
      rw [hm]
      show max _ (min _ (kVal fs[((0 + n : Nat) : Int).toNat]?)) = _
      rw [show ((0 + n : Nat) : Int).toNat = n by omega, hv])
    refine ⟨by show some (Sum.inr (q.1, fs)) = some (Sum.inr (q.1, z_fs lL (mIni u g k) g 0 q.2)); rw [e1], fun j d hd => ?_⟩
    have h9 := e2 j d hd
    rw [Nat.zero_add] at h9
    refine ⟨?_, h9.2⟩
    have hr := List.all_eq_true.mp href d (List.mem_of_getElem? hd)
    match d, hr, h9.1 with
    | .inl t, _, h8 => exact h8
    | .inr (.inl k'), hr, _ =>
      obtain ⟨j', hj, e⟩ := List.any_eq_true.mp hr
      have e := of_decide_eq_true e
      have h7 := lL_val j' (List.mem_range.mp hj)
      rw [e] at h7
      exact .inr h7
    | .inr (.inr q'), hr, _ =>
      obtain ⟨j', hj, e⟩ := List.any_eq_true.mp hr
      have e := of_decide_eq_true e
      have h7 := lL_val j' (List.mem_range.mp hj)
      rw [e] at h7
      exact .inr h7
  · rename_i q hk
    rw [hk]
    obtain ⟨t, N⟩ := q
    split at h
    · rename_i N' f
      simp only [Bool.and_eq_true, Bool.not_eq_true', decide_eq_true_eq] at h
      obtain ⟨hx9, rfl, rfl, h3, h⟩ := h
      replace hm := hm hx9
      have e : ∀ n : Nat, mIni u g k n = (f n).toInt := fun n => by
        rw [hm]
        exact kArr_ok h (fun i => by have := z_r32 (f i); omega) n
      refine ⟨?_, fun x hx hy => ?_, h3⟩
      · show some (Sum.inl (FieldType.int, N', Sum.inl f)) = some (Sum.inl (FieldType.int, N', Sum.inl fun i : Nat => Int32.ofInt (mIni u g k i)))
        rw [show (fun i : Nat => Int32.ofInt (mIni u g k i)) = f from funext fun n => by rw [e n, Int32.ofInt_toInt]]
      · obtain ⟨n, rfl⟩ : ∃ n : Nat, x = n := ⟨x.toNat, by omega⟩
        rw [e n]
        exact z_r32 _
    · rename_i N' f
      simp only [Bool.and_eq_true, Bool.or_eq_true, Bool.not_eq_true', decide_eq_true_eq] at h
      obtain ⟨rfl, rfl, h3, h, h6⟩ := h
      have e : ∀ n : Nat, mIni u g k n = (f n).toInt := fun n => by
        rcases h6 with h6 | h6
        · rw [hm h6]
          rw [h6] at h
          exact kArr_ok h (fun i => z_r64 (f i)) n
        · by_cases hn : n < 1619
          · by_cases hx9 : kEx g k = true
            · unfold mIni
              rw [hp, hc, if_pos ⟨hx9, by omega, by omega⟩]
              rfl
            · have hx9 : kEx g k = false := by simpa using hx9
              rw [hm hx9]
              rw [hx9] at h
              exact kArr_ok h (fun i => z_r64 (f i)) n
          · unfold mIni
            rw [hp, hc, if_neg (fun e => by have := e.2.2; omega)]
            exact kArr_ex h (fun i => z_r64 (f i)) n (by omega)
      refine ⟨?_, fun x hx hy => ?_, h3⟩
      · show some (Sum.inl (FieldType.long, N', Sum.inr (Sum.inl f))) = some (Sum.inl (FieldType.long, N', Sum.inr (Sum.inl fun i : Nat => Int64.ofInt (mIni u g k i))))
        rw [show (fun i : Nat => Int64.ofInt (mIni u g k i)) = f from funext fun n => by rw [e n, Int64.ofInt_toInt]]
      · obtain ⟨n, rfl⟩ : ∃ n : Nat, x = n := ⟨x.toNat, by omega⟩
        rw [e n]
        exact z_r64 _
    · rename_i N' f
      simp only [Bool.and_eq_true, Bool.not_eq_true', decide_eq_true_eq] at h
      obtain ⟨hx9, rfl, rfl, h3, h, h5⟩ := h
      replace hm := hm hx9
      have e : ∀ n : Nat, mIni u g k n = (f n).toInt := fun n => by
        rw [hm]
        exact kArr_ok h (fun i => by have := z_r32 (f i); omega) n
      refine ⟨?_, fun x hx hy => ?_, h3⟩
      · show some (Sum.inl (FieldType.byte, N', Sum.inl f)) = some (Sum.inl (FieldType.byte, N', Sum.inl fun i : Nat => Int32.ofInt (mIni u g k i)))
        rw [show (fun i : Nat => Int32.ofInt (mIni u g k i)) = f from funext fun n => by rw [e n, Int32.ofInt_toInt]]
      · obtain ⟨n, rfl⟩ : ∃ n : Nat, x = n := ⟨x.toNat, by omega⟩
        rw [e n]
        have h8 := List.all_eq_true.mp h5 n (List.mem_range.mpr (by omega))
        simp only [decide_eq_true_eq] at h8
        exact h8
    · rename_i N' f
      simp only [Bool.and_eq_true, Bool.not_eq_true', decide_eq_true_eq] at h
      obtain ⟨hx9, rfl, rfl, h3, h, h5⟩ := h
      replace hm := hm hx9
      have e : ∀ n : Nat, mIni u g k n = (f n).toInt := fun n => by
        rw [hm]
        exact kArr_ok h (fun i => by have := z_r32 (f i); omega) n
      refine ⟨?_, fun x hx hy => ?_, h3⟩
      · show some (Sum.inl (FieldType.boolean, N', Sum.inl f)) = some (Sum.inl (FieldType.boolean, N', Sum.inl fun i : Nat => Int32.ofInt (mIni u g k i)))
        rw [show (fun i : Nat => Int32.ofInt (mIni u g k i)) = f from funext fun n => by rw [e n, Int32.ofInt_toInt]]
      · obtain ⟨n, rfl⟩ : ∃ n : Nat, x = n := ⟨x.toNat, by omega⟩
        rw [e n]
        have h8 := List.all_eq_true.mp h5 n (List.mem_range.mpr (by omega))
        simp only [decide_eq_true_eq] at h8
        exact h8
    · cases h
  · cases h
theorem kAll_ok {u : List xC} (h : kAll u = true) : z_u lL (mIni u) = u ∧ z_mok lL (mIni u) := by
  unfold kAll at h
  simp only [Bool.and_eq_true, decide_eq_true_eq] at h
  have h1 : ∀ i, i < 115 → kOne u i = true := fun i hi => List.all_eq_true.mp h.2 i (List.mem_range.mpr hi)
  refine ⟨List.ext_getElem? fun i => ?_, fun g k hv => ?_⟩
  · unfold z_u
    rw [List.getElem?_map]
    by_cases hi : i < 115
    · rw [show (List.range lL.2.2.2)[i]? = some i from List.getElem?_range hi, (kCell_ok hi (h1 i hi)).1]
      rfl
    · rw [show (List.range lL.2.2.2)[i]? = none from List.getElem?_eq_none (by rw [List.length_range]; exact Nat.not_lt.mp hi), List.getElem?_eq_none (by omega)]
      rfl
  · have h2 := (kCell_ok hv.1 (h1 _ hv.1)).2
    rw [hv.2.1] at h2
    exact h2
