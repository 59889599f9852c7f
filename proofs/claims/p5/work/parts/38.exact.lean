/-! Rows that say exactly what a number is; the words in which the methods' functions are written. -/
def zs {α : Type} (p : zM) (f : zM → α) : α := f p
def zn {α : Type} (p : Int) (f : Int → α) : α := f p
def zb {α : Type} (p : Int × zM) (f : Int → zM → α) : α := f p.1 p.2
theorem zs_eq {α : Type} {p m1 : zM} {f : zM → α} (h : m1 = p) : zs p f = f m1 := by subst h; rfl
theorem zn_eq {α : Type} {p z : Int} {f : Int → α} (h : z = p) : zn p f = f z := by subst h; rfl
theorem zb_eq {α : Type} {p : Int × zM} {v : Int} {m1 : zM} {f : Int → zM → α} (h : p = (v, m1)) : zb p f = f v m1 := by subst h; rfl
/-- a number that nothing unfolds -/
noncomputable def zfu (n : Nat) : Nat := Classical.choose (⟨n, rfl⟩ : ∃ k, k = n)
theorem zfu_eq (n : Nat) : zfu n = n := Classical.choose_spec (⟨n, rfl⟩ : ∃ k, k = n)
def w8 (x : Int) : Int := (Int32.ofInt x).toInt8.toInt
def w32 (x : Int) : Int := (Int32.ofInt x).toInt
def w64 (x : Int) : Int := (Int64.ofInt x).toInt
theorem w32_id {x : Int} (h : -2147483648 ≤ x ∧ x ≤ 2147483647) : w32 x = x := z_32 h
theorem w64_id {x : Int} (h : -9223372036854775808 ≤ x ∧ x ≤ 9223372036854775807) : w64 x = x := z_64 h
def zand (x y : Int) : Int := (Int32.ofInt x &&& Int32.ofInt y).toInt
def zor (x y : Int) : Int := (Int32.ofInt x ||| Int32.ofInt y).toInt
def zxor (x y : Int) : Int := (Int32.ofInt x ^^^ Int32.ofInt y).toInt
def zshl (x y : Int) : Int := (Int32.ofInt x <<< (Int32.ofInt y &&& 31)).toInt
def zshr (x y : Int) : Int := (Int32.ofInt x >>> (Int32.ofInt y &&& 31)).toInt
def zushr (x y : Int) : Int := ((Int32.ofInt x).toUInt32 >>> ((Int32.ofInt y).toUInt32 &&& Int32.toUInt32 31)).toInt32.toInt
def zandL (x y : Int) : Int := (Int64.ofInt x &&& Int64.ofInt y).toInt
def zorL (x y : Int) : Int := (Int64.ofInt x ||| Int64.ofInt y).toInt
def zxorL (x y : Int) : Int := (Int64.ofInt x ^^^ Int64.ofInt y).toInt
def zshlL (x y : Int) : Int := (Int64.ofInt x <<< ((Int32.ofInt y).toInt64 &&& 63)).toInt
/-- the rows of told bounds, the four words -/
def zro (p : Nat) (i : Int) : Int := ((match p with
  | 1 => sA1
  | 2 => sA2
  | _ => sA3).getD i.toNat 0).toInt
def zch (p : Nat) (i : Int) : Int := ((match p with
  | 4 => sW4
  | 5 => sW5
  | 6 => sW6
  | _ => sW7).getD i.toNat 0).toInt
theorem z_sqr {e x : Int} (h : -e ≤ x ∧ x ≤ e) : 0 ≤ x * x ∧ x * x ≤ e * e := by
  have h1 := z_mulr (a := -e) (b := e) (c := -e) (e := e) (x := x) (y := x) h h
  have h2 : -e * -e = e * e := by rw [Int.neg_mul_neg]
  have h3 : -e * e = -(e * e) := by rw [Int.neg_mul]
  have h4 : e * -e = -(e * e) := by rw [Int.mul_neg]
  have h0 := Int.mul_nonneg (show 0 ≤ e by omega) (show 0 ≤ e by omega)
  rw [h2, h3, h4] at h1
  refine ⟨?_, by omega⟩
  rcases Int.le_total 0 x with h5 | h5
  · exact Int.mul_nonneg h5 h5
  · have h6 := Int.mul_nonneg (show 0 ≤ -x by omega) (show 0 ≤ -x by omega)
    rwa [Int.neg_mul_neg] at h6
theorem z_kp {x y : Int} (hx : 0 ≤ x ∧ x ≤ 47) (hy : 1 ≤ y ∧ y ≤ 3) : 0 ≤ x % y ∧ x % y ≤ 2 ∧ 0 ≤ x / y ∧ 16 * (x % y) + x / y ≤ 47 := by
  rcases (show y = 1 ∨ y = 2 ∨ y = 3 by omega) with h | h | h <;> subst h <;> omega
section
variable {E : zE} {d j pc : Nat} {lv : List (Nat × zV)} {st : List zV} {m : zM} {Q : Option zV → zM → Prop} {q : Nat × Nat × Nat × Nat} {c : Value} {ks : Option (List Nat)}
theorem X.iiE (pc' : Nat) (ins : Instr) (f : Int32 → Int32 → Int32) {x y : Int} (hi : z_I E j pc = some (ins, 1, q, c, ks)) (hc : z_cut ks lv = lv) (hp : pc + 1 = pc') (hk : x_kind ins = 0) (hf : ∀ (st : List Value) (k : List Value → Option xR), x_pure ins 1 st k = x_ii f 1 st k) (kk : ∀ z, z = (f (Int32.ofInt x) (Int32.ofInt y)).toInt → (-2147483648 ≤ z ∧ z ≤ 2147483647) → X E d j pc' lv (zi z :: st) m Q) : X E d j pc lv (zi y :: zi x :: st) m Q :=
  X.ii pc' ins f hi hc hp hk hf (kk _ rfl (z_r32 _))
theorem X.llE (pc' : Nat) (ins : Instr) (f : Int64 → Int64 → Int64) {x y : Int} (hi : z_I E j pc = some (ins, 1, q, c, ks)) (hc : z_cut ks lv = lv) (hp : pc + 1 = pc') (hk : x_kind ins = 0) (hf : ∀ (st : List Value) (k : List Value → Option xR), x_pure ins 1 st k = x_ll f 1 st k) (kk : ∀ z, z = (f (Int64.ofInt x) (Int64.ofInt y)).toInt → (-9223372036854775808 ≤ z ∧ z ≤ 9223372036854775807) → X E d j pc' lv (zl z :: st) m Q) : X E d j pc lv (zl y :: zl x :: st) m Q :=
  X.ll pc' ins f hi hc hp hk hf (kk _ rfl (z_r64 _))
theorem X.andE (pc' : Nat) (n : Int) {x y : Int} (hi : z_I E j pc = some (.iand, 1, q, c, ks)) (hc : z_cut ks lv = lv) (hp : pc + 1 = pc') (hn : 0 ≤ n ∧ n ≤ 2147483647) (hxy : y = n ∨ x = n) (kk : ∀ z, z = zand x y → (0 ≤ z ∧ z ≤ n) → X E d j pc' lv (zi z :: st) m Q) : X E d j pc lv (zi y :: zi x :: st) m Q := by
  refine X.ii pc' .iand (fun x y => x &&& y) hi hc hp rfl (fun _ _ => rfl) (kk _ rfl ?_)
  have e := z_32 (x := n) (by omega)
  rcases hxy with rfl | rfl
  · have h := z_and_le (Int32.ofInt x) (Int32.ofInt y) (by rw [e]; omega)
    rw [e] at h
    exact h
  · have h := z_and_le (Int32.ofInt y) (Int32.ofInt x) (by rw [e]; omega)
    rw [e, Int32.and_comm] at h
    exact h
theorem X.iaddW (pc' : Nat) {x y : Int} (hi : z_I E j pc = some (.iadd, 1, q, c, ks)) (hc : z_cut ks lv = lv) (hp : pc + 1 = pc') (kk : ∀ z, z = w32 (x + y) → (-2147483648 ≤ z ∧ z ≤ 2147483647) → X E d j pc' lv (zi z :: st) m Q) : X E d j pc lv (zi y :: zi x :: st) m Q :=
  X.ii pc' .iadd (fun x y => x + y) hi hc hp rfl (fun _ _ => rfl) (kk _ (by unfold w32; rw [Int32.ofInt_add]) (z_r32 _))
theorem X.isubW (pc' : Nat) {x y : Int} (hi : z_I E j pc = some (.isub, 1, q, c, ks)) (hc : z_cut ks lv = lv) (hp : pc + 1 = pc') (kk : ∀ z, z = w32 (x - y) → (-2147483648 ≤ z ∧ z ≤ 2147483647) → X E d j pc' lv (zi z :: st) m Q) : X E d j pc lv (zi y :: zi x :: st) m Q :=
  X.ii pc' .isub (fun x y => x - y) hi hc hp rfl (fun _ _ => rfl) (kk _ (by unfold w32; rw [Int32.ofInt_sub]) (z_r32 _))
theorem X.laddW (pc' : Nat) {x y : Int} (hi : z_I E j pc = some (.ladd, 1, q, c, ks)) (hc : z_cut ks lv = lv) (hp : pc + 1 = pc') (kk : ∀ z, z = w64 (x + y) → (-9223372036854775808 ≤ z ∧ z ≤ 9223372036854775807) → X E d j pc' lv (zl z :: st) m Q) : X E d j pc lv (zl y :: zl x :: st) m Q :=
  X.ll pc' .ladd (fun x y => x + y) hi hc hp rfl (fun _ _ => rfl) (kk _ (by unfold w64; rw [Int64.ofInt_add]) (z_r64 _))
theorem X.lsubW (pc' : Nat) {x y : Int} (hi : z_I E j pc = some (.lsub, 1, q, c, ks)) (hc : z_cut ks lv = lv) (hp : pc + 1 = pc') (kk : ∀ z, z = w64 (x - y) → (-9223372036854775808 ≤ z ∧ z ≤ 9223372036854775807) → X E d j pc' lv (zl z :: st) m Q) : X E d j pc lv (zl y :: zl x :: st) m Q :=
  X.ll pc' .lsub (fun x y => x - y) hi hc hp rfl (fun _ _ => rfl) (kk _ (by unfold w64; rw [Int64.ofInt_sub]) (z_r64 _))
theorem X.lmulW (pc' : Nat) {x y : Int} (hi : z_I E j pc = some (.lmul, 1, q, c, ks)) (hc : z_cut ks lv = lv) (hp : pc + 1 = pc') (kk : ∀ z, z = w64 (x * y) → (-9223372036854775808 ≤ z ∧ z ≤ 9223372036854775807) → X E d j pc' lv (zl z :: st) m Q) : X E d j pc lv (zl y :: zl x :: st) m Q :=
  X.ll pc' .lmul (fun x y => x * y) hi hc hp rfl (fun _ _ => rfl) (kk _ (by unfold w64; rw [Int64.ofInt_mul]) (z_r64 _))
theorem X.lnegW (pc' : Nat) {x : Int} (hi : z_I E j pc = some (.lneg, 1, q, c, ks)) (hc : z_cut ks lv = lv) (hp : pc + 1 = pc') (kk : ∀ z, z = w64 (-x) → (-9223372036854775808 ≤ z ∧ z ≤ 9223372036854775807) → X E d j pc' lv (zl z :: st) m Q) : X E d j pc lv (zl x :: st) m Q :=
  X.num pc' hi hc hp rfl (kk (-Int64.ofInt x).toInt (by unfold w64; rw [Int64.ofInt_neg]) (z_r64 _)) (fun h => ⟨z_cons (z_r64 _) (z_tl h), fun _ => by
    show x_l1 (fun x => -x) 1 (.long (Int64.ofInt x) :: _) _ = _
    simp only [x_l1, if_true]
    rw [List.map_cons, z_vl_toInt]⟩)
theorem X.l2iW (pc' : Nat) {x : Int} (hi : z_I E j pc = some (.l2i, 1, q, c, ks)) (hc : z_cut ks lv = lv) (hp : pc + 1 = pc') (kk : ∀ z, z = w32 x → (-2147483648 ≤ z ∧ z ≤ 2147483647) → X E d j pc' lv (zi z :: st) m Q) : X E d j pc lv (zl x :: st) m Q :=
  X.num pc' hi hc hp rfl (kk (Int64.ofInt x).toInt32.toInt (by unfold w32; rw [Int64.toInt32_ofInt]) (z_r32 _)) (fun h => ⟨z_cons (z_r32 _) (z_tl h), fun _ => by
    show x_l2 (fun x => x.toInt32) 1 (.long (Int64.ofInt x) :: _) _ = _
    simp only [x_l2, if_true]
    rw [List.map_cons, z_vi_toInt]⟩)
theorem X.lshlE (pc' : Nat) {x y : Int} (hi : z_I E j pc = some (.lshl, 1, q, c, ks)) (hc : z_cut ks lv = lv) (hp : pc + 1 = pc') (kk : ∀ z, z = zshlL x y → (-9223372036854775808 ≤ z ∧ z ≤ 9223372036854775807) → X E d j pc' lv (zl z :: st) m Q) : X E d j pc lv (zi y :: zl x :: st) m Q :=
  X.lshl pc' hi hc hp (kk _ rfl (z_r64 _))
theorem X.i2bE (pc' : Nat) {x : Int} (hi : z_I E j pc = some (.i2b, 1, q, c, ks)) (hc : z_cut ks lv = lv) (hp : pc + 1 = pc') (kk : ∀ z, z = w8 x → (-128 ≤ z ∧ z ≤ 127) → X E d j pc' lv (zi z :: st) m Q) : X E d j pc lv (zi x :: st) m Q :=
  X.i2b pc' hi hc hp (kk _ rfl (by
    have h1 := (Int32.ofInt x).toInt8.toInt_lt
    have h2 := (Int32.ofInt x).toInt8.le_toInt
    omega))
theorem z_div64w {x y : Int} (hx : -9223372036854775808 ≤ x ∧ x ≤ 9223372036854775807) (hy : -9223372036854775808 ≤ y ∧ y ≤ 9223372036854775807) : (Int64.ofInt x / Int64.ofInt y).toInt = w64 (x.tdiv y) := by
  unfold w64
  rw [z_div64 hx hy]
theorem X.ldivW (pc' : Nat) {x y : Int} (hi : z_I E j pc = some (.ldiv, 1, q, c, ks)) (hc : z_cut ks lv = lv) (hp : pc + 1 = pc') (hy : y ≠ 0) (kk : ∀ z, z = w64 (x.tdiv y) → (-9223372036854775808 ≤ z ∧ z ≤ 9223372036854775807) → X E d j pc' lv (zl z :: st) m Q) : X E d j pc lv (zl y :: zl x :: st) m Q := by
  intro g1 g2 g3
  have hx1 : -9223372036854775808 ≤ x ∧ x ≤ 9223372036854775807 := z_hd (z_tl g2)
  have hy1 : -9223372036854775808 ≤ y ∧ y ≤ 9223372036854775807 := z_hd g2
  refine X.num pc' hi hc hp rfl (kk (Int64.ofInt x / Int64.ofInt y).toInt (z_div64w hx1 hy1) (z_r64 _)) (fun h => ?_) g1 g2 g3
  refine ⟨z_cons (z_r64 _) (z_tl (z_tl h)), fun _ => ?_⟩
  show x_ld (fun x y => x / y) 1 (.long (Int64.ofInt y) :: .long (Int64.ofInt x) :: _) _ = _
  simp only [x_ld, if_true, if_neg (z_ne64 hy1 hy)]
  rw [List.map_cons, z_vl_toInt]
theorem X.lremW (pc' : Nat) {x y : Int} (hi : z_I E j pc = some (.lrem, 1, q, c, ks)) (hc : z_cut ks lv = lv) (hp : pc + 1 = pc') (hy : y ≠ 0) (kk : ∀ z, z = x.tmod y → (-9223372036854775808 ≤ z ∧ z ≤ 9223372036854775807) → X E d j pc' lv (zl z :: st) m Q) : X E d j pc lv (zl y :: zl x :: st) m Q := by
  intro g1 g2 g3
  have hy1 : -9223372036854775808 ≤ y ∧ y ≤ 9223372036854775807 := z_hd g2
  exact X.lremT pc' hi hc hp hy (kk _ rfl (z_tmod64 hy1 hy)) g1 g2 g3
theorem X.idivE (pc' : Nat) {x y : Int} (hi : z_I E j pc = some (.idiv, 1, q, c, ks)) (hc : z_cut ks lv = lv) (hp : pc + 1 = pc') (hy : 0 < y ∧ y ≤ 2147483647) (kk : ∀ z, z = x.tdiv y → ((0 ≤ x → z = x / y) ∧ (x < 0 → z ≤ 0 ∧ x ≤ z * y)) → X E d j pc' lv (zi z :: st) m Q) : X E d j pc lv (zi y :: zi x :: st) m Q := by
  refine X.num pc' hi hc hp rfl (kk (x.tdiv y) rfl ⟨fun h => Int.tdiv_eq_ediv_of_nonneg h, fun h => ?_⟩) (fun h => ?_)
  · have h1 := (z_tdiv_le (x := x) hy.1).2 (by omega)
    refine ⟨h1.2, ?_⟩
    have h2 := Int.tmod_add_mul_tdiv x y
    have h3 := (z_tmod_le (x := x) hy.1).2 (by omega)
    rw [Int.mul_comm] at h2
    omega
  · have hx1 : -2147483648 ≤ x ∧ x ≤ 2147483647 := z_hd (z_tl h)
    have hy1 : -2147483648 ≤ y ∧ y ≤ 2147483647 := z_hd h
    have h1 := z_tdiv_le (x := x) hy.1
    refine ⟨z_cons (show -2147483648 ≤ x.tdiv y ∧ x.tdiv y ≤ 2147483647 by rcases Int.le_total 0 x with h2 | h2 <;> omega) (z_tl (z_tl h)), fun _ => ?_⟩
    show x_id (fun x y => x / y) 1 (.int (Int32.ofInt y) :: .int (Int32.ofInt x) :: _) _ = _
    simp only [x_id, if_true, if_neg (z_ne32 hy1 (by omega)), z_div32 hx1 hy1]; rfl
theorem X.iremE (pc' : Nat) {x y : Int} (hi : z_I E j pc = some (.irem, 1, q, c, ks)) (hc : z_cut ks lv = lv) (hp : pc + 1 = pc') (hy : 0 < y ∧ y ≤ 2147483647) (kk : ∀ z, z = x.tmod y → ((0 ≤ x → z = x % y) ∧ (x < 0 → z ≤ 0 ∧ x ≤ z)) → X E d j pc' lv (zi z :: st) m Q) : X E d j pc lv (zi y :: zi x :: st) m Q := by
  refine X.num pc' hi hc hp rfl (kk (x.tmod y) rfl ⟨fun h => Int.tmod_eq_emod_of_nonneg h, fun h => ?_⟩) (fun h => ?_)
  · have h3 := (z_tmod_le (x := x) hy.1).2 (by omega)
    omega
  · have hx1 : -2147483648 ≤ x ∧ x ≤ 2147483647 := z_hd (z_tl h)
    have hy1 : -2147483648 ≤ y ∧ y ≤ 2147483647 := z_hd h
    have h1 := z_tmod_le (x := x) hy.1
    refine ⟨z_cons (show -2147483648 ≤ x.tmod y ∧ x.tmod y ≤ 2147483647 by rcases Int.le_total 0 x with h2 | h2 <;> omega) (z_tl (z_tl h)), fun _ => ?_⟩
    show x_id (fun x y => x - x / y * y) 1 (.int (Int32.ofInt y) :: .int (Int32.ofInt x) :: _) _ = _
    simp only [x_id, if_true, if_neg (z_ne32 hy1 (by omega)), z_rem32 hx1 hy1]; rfl
theorem X.absW (pc' : Nat) {idx j' na ci : Nat} {x : Int} (hi : z_I E j pc = some (.invokestatic idx, 3, (j', na, 14, ci), c, ks)) (hc : z_cut ks lv = lv) (hp : pc + 3 = pc') (hd : 12 ≤ d) (hw : z_wd st ≤ 8) (kk : ∀ z, z = w64 (max x (-x)) → (-9223372036854775808 ≤ z ∧ z ≤ 9223372036854775807) → X E d j pc' lv (zl z :: st) m Q) : X E d j pc lv (zl x :: st) m Q := by
  subst hp
  intro g1 g2 g3
  have hx : -9223372036854775808 ≤ x ∧ x ≤ 9223372036854775807 := z_hd g2
  refine X.bi (pc + 3) hi hc rfl rfl (kk (if 0 < Int64.ofInt x then Int64.ofInt x else -Int64.ofInt x).toInt ?_ (z_r64 _)) (fun h1 h2 => ?_) g1 g2 g3
  · have e : (0 < Int64.ofInt x ↔ 0 < x) := z_lt64 (x := 0) (by omega) hx
    unfold w64
    by_cases h : 0 < x
    · rw [if_pos (e.mpr h), show max x (-x) = x by omega]
    · rw [if_neg (fun h9 => h (e.mp h9)), show max x (-x) = -x by omega, Int64.ofInt_neg]
  · refine ⟨z_cons (z_r64 _) (z_tl h1), h2, fun call k => ?_⟩
    rw [z_biq hd (by decide)]
    show x_low (st.map (z_v E.2.2.2)) (k (pc + 3) (.long (if 0 < Int64.ofInt x then Int64.ofInt x else -Int64.ofInt x) :: _) _) = _
    rw [z_low hw, List.map_cons, z_vl_toInt]
end
/-- a call with flags of its own: what it doesn't change is as it was -/
theorem zo_n {A : Nat → Prop} : ∀ f, A f → f ∉ ([] : List Nat) := fun _ _ h => absurd h List.not_mem_nil
theorem zo_c {A : Nat → Prop} {L : List Nat} {x : Nat} (h : ¬ A x) (t : ∀ f, A f → f ∉ L) : ∀ f, A f → f ∉ x :: L := fun f hf hm => by
  rcases List.mem_cons.mp hm with e | e
  · rw [e] at hf
    exact h hf
  · exact t f hf e
theorem J.ow {S : zS} {m0 m m' : zM} {B B' : Int} {L G : List Nat} (h : J S m0 B m) (h' : J (fun f => f ∉ L, fun g => g ∉ G, S.2.2) m B' m') (hL : ∀ f, S.1 f → f ∉ L) (hG : ∀ g, S.2.1 g → g ∉ G) : J S m0 B' m' :=
  ⟨fun g k i hq => h'.1 g k i hq, fun g k i h9 => by
    rw [h'.2 g k i (h9.imp (hL _) (hG _))]
    exact h.2 g k i h9⟩
theorem J.nw {S : zS} {m0 m : zM} {B : Int} {F G : Nat → Prop} (h : J S m0 B m) : J (F, G, S.2.2) m B m := J.rf h.1
theorem zo_m {L : List Nat} {x : Nat} (h : L.contains x = true) : ¬ (x ∉ L) := fun h9 => h9 (List.contains_iff_mem.mp h)
