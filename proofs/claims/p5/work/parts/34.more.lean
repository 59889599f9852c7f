theorem z_mulr {a b c e x y : Int} (hx : a ≤ x ∧ x ≤ b) (hy : c ≤ y ∧ y ≤ e) : min (min (a * c) (a * e)) (min (b * c) (b * e)) ≤ x * y ∧ x * y ≤ max (max (a * c) (a * e)) (max (b * c) (b * e)) := by
  have key : ∀ u v w t : Int, u ≤ v → v ≤ w → (t * u ≤ t * v ∧ t * v ≤ t * w) ∨ (t * w ≤ t * v ∧ t * v ≤ t * u) := by
    intro u v w t h1 h2
    rcases Int.le_total 0 t with ht | ht
    · exact .inl ⟨Int.mul_le_mul_of_nonneg_left h1 ht, Int.mul_le_mul_of_nonneg_left h2 ht⟩
    · exact .inr ⟨Int.mul_le_mul_of_nonpos_left ht h2, Int.mul_le_mul_of_nonpos_left ht h1⟩
  have h1 := key c y e x hy.1 hy.2
  have h2 := key a x b c hx.1 hx.2
  have h3 := key a x b e hx.1 hx.2
  rw [Int.mul_comm c a, Int.mul_comm c x, Int.mul_comm c b] at h2
  rw [Int.mul_comm e a, Int.mul_comm e x, Int.mul_comm e b] at h3
  generalize x * y = p at *
  generalize x * c = p1 at *
  generalize x * e = p2 at *
  generalize a * c = p3 at *
  generalize a * e = p4 at *
  generalize b * c = p5 at *
  generalize b * e = p6 at *
  omega
theorem z_in3 {a b x lo hi : Int} (h : a ≤ x ∧ x ≤ b) (h1 : lo ≤ a) (h2 : b ≤ hi) : lo ≤ x ∧ x ≤ hi := by omega
theorem z_divb {x y : Int} (hx : 0 ≤ x) (hy : 0 < y) : 0 ≤ x / y ∧ x / y ≤ x ∧ x / y * y ≤ x ∧ x < (x / y + 1) * y := by
  have h1 := (z_tdiv_le (x := x) hy).1 hx
  rw [Int.tdiv_eq_ediv_of_nonneg hx] at h1
  have h2 := Int.mul_ediv_add_emod x y
  have h3 := Int.emod_nonneg x (show y ≠ 0 by omega)
  have h4 := Int.emod_lt_of_pos x hy
  rw [Int.mul_comm] at h2
  rw [Int.add_mul, Int.one_mul]
  exact ⟨h1.1, h1.2, by omega, by omega⟩
theorem z_modb {x y : Int} (hx : 0 ≤ x) (hy : 0 < y) : 0 ≤ x % y ∧ x % y ≤ x ∧ x % y < y := ⟨Int.emod_nonneg x (by omega), z_emod_le hx hy, Int.emod_lt_of_pos x hy⟩
theorem z_and_le (a b : Int32) (h : 0 ≤ b.toInt) : 0 ≤ (a &&& b).toInt ∧ (a &&& b).toInt ≤ b.toInt := by
  have e : (a &&& b).toInt = (a.toBitVec &&& b.toBitVec).toInt := rfl
  have hb : b.toInt = b.toBitVec.toInt := rfl
  rw [e, hb]
  rw [hb] at h
  have hm : b.toBitVec.msb = false := by
    rw [BitVec.msb_eq_toInt]
    simp only [decide_eq_false_iff_not]
    omega
  have hn : (a.toBitVec &&& b.toBitVec).msb = false := by rw [BitVec.msb_and, hm, Bool.and_false]
  rw [BitVec.toInt_eq_toNat_of_msb hm, BitVec.toInt_eq_toNat_of_msb hn, BitVec.toNat_and]
  have := @Nat.and_le_right a.toBitVec.toNat b.toBitVec.toNat
  omega
section
variable {E : zE} {d j pc : Nat} {lv : List (Nat × zV)} {st : List zV} {m : zM} {Q : Option zV → zM → Prop} {q : Nat × Nat × Nat × Nat} {c : Value} {ks : Option (List Nat)}
theorem X.andF (pc' : Nat) (n : Int) {x y : Int} (hi : z_I E j pc = some (.iand, 1, q, c, ks)) (hc : z_cut ks lv = lv) (hp : pc + 1 = pc') (hn : 0 ≤ n ∧ n ≤ 2147483647) (hxy : y = n ∨ x = n) (kk : ∀ z, (0 ≤ z ∧ z ≤ n) → X E d j pc' lv (zi z :: st) m Q) : X E d j pc lv (zi y :: zi x :: st) m Q := by
  refine X.ii pc' .iand (fun x y => x &&& y) hi hc hp rfl (fun _ _ => rfl) (kk _ ?_)
  have e := z_32 (x := n) (by omega)
  rcases hxy with rfl | rfl
  · have h := z_and_le (Int32.ofInt x) (Int32.ofInt y) (by rw [e]; omega)
    rw [e] at h
    exact h
  · have h := z_and_le (Int32.ofInt y) (Int32.ofInt x) (by rw [e]; omega)
    rw [e, Int32.and_comm] at h
    exact h
theorem X.getIr (pc' : Nat) (fz : Int) {idx ci fj tg hh g k : Nat} {fs : List zF} (hi : z_I E j pc = some (.getfield idx, 3, (ci, fj, tg, hh), c, ks)) (hc : z_cut ks lv = lv) (hp : pc + 3 = pc') (h8 : ¬ k < 8) (hk : E.2.2.2.1 k = some (.inl (ci, fs))) (hf : fs[fj]? = some (.inl 0)) (hz : (fj : Int) = fz) (kk : (-2147483648 ≤ m g k fz ∧ m g k fz ≤ 2147483647) → X E d j pc' lv (zi (m g k fz) :: st) m Q) : X E d j pc lv (zr g k :: st) m Q := by
  intro g1 g2 g3
  have hv := z_kind_ne (z_hd g2) h8
  have hm := g3 g k hv
  unfold z_ck at hm
  rw [hk] at hm
  have hb := (hm fj _ hf).1
  rw [hz] at hb
  exact X.getI pc' fz hi hc hp h8 hk hf hz (kk hb) g1 g2 g3
theorem X.ialdr (pc' : Nat) {g k N : Nat} {i : Int} (hi : z_I E j pc = some (.iaload, 1, q, c, ks)) (hc : z_cut ks lv = lv) (hp : pc + 1 = pc') (h8 : ¬ k < 8) (hk : E.2.2.2.1 k = some (.inr (0, N))) (hx : 0 ≤ i ∧ i < N) (kk : (-2147483648 ≤ m g k i ∧ m g k i ≤ 2147483647) → X E d j pc' lv (zi (m g k i) :: st) m Q) : X E d j pc lv (zi i :: zr g k :: st) m Q := by
  intro g1 g2 g3
  have hv := z_kind_ne (z_hd (z_tl g2)) h8
  have hz : -2147483648 ≤ m g k i ∧ m g k i ≤ 2147483647 := z_rgi g3 hv hk hx.1 hx.2
  exact X.iald pc' hi hc hp h8 hk hx (kk hz) g1 g2 g3
end
theorem z_roB {s : Nat × (Nat → Int32)} {p : Nat} {i : Int} (hp : p = 1 ∨ p = 2 ∨ p = 3) : 0 ≤ z_ro (EE s) p i ∧ z_ro (EE s) p i ≤ 1000000 := by
  have key : ∀ (l : List Int32), (l.all fun x => decide (0 ≤ x.toInt ∧ x.toInt ≤ 1000000)) = true → ∀ n : Nat, 0 ≤ (l.getD n 0).toInt ∧ (l.getD n 0).toInt ≤ 1000000 := by
    intro l hl n
    rw [List.getD_eq_getElem?_getD]
    cases h : l[n]? with
    | none => exact ⟨by decide, by decide⟩
    | some x =>
      have h1 := List.all_eq_true.mp hl x (List.mem_of_getElem? h)
      exact of_decide_eq_true h1
  rcases hp with rfl | rfl | rfl
  · exact key sA1 (by decide) _
  · exact key sA2 (by decide) _
  · exact key sA3 (by decide) _
theorem J.cpy {S : zS} {m0 m m1 : zM} {B : Int} {g1 k1 g0 k0 f : Nat} {sp dp n : Int} (h : J S m0 B m) (hm : m1 = z_cpy m g1 k1 g0 k0 sp dp n) (hb : ∀ i, dp ≤ i ∧ i < dp + n → jl k1 i ≤ m g0 k0 (i - dp + sp) ∧ m g0 k0 (i - dp + sp) ≤ jh B k1 i) (ha : ∀ i, dp ≤ i ∧ i < dp + n → ja k1 i = f) (hk : k1 ≠ 44) (hf : ¬ S.1 f) (hg : ¬ S.2.1 g1) : J S m0 B m1 := by
  subst hm
  have key : ∀ (g : Nat) (i : Int), z_cpy m g1 k1 g0 k0 sp dp n g 44 i = m g 44 i := by
    intro g i
    unfold z_cpy
    rw [if_neg]
    exact fun e => hk e.2.1.symm
  refine ⟨fun g k i hq => ?_, fun g k i h9 => ?_⟩
  · unfold z_cpy
    split
    · rename_i e
      obtain ⟨rfl, rfl, e1, e2⟩ := e
      exact hb i ⟨e1, e2⟩
    · exact h.1 g k i (fun e1 e2 e3 => by
        have h5 := hq e1 e2 e3
        rw [key] at h5
        exact h5)
  · unfold z_cpy
    split
    · rename_i e
      obtain ⟨rfl, rfl, e1, e2⟩ := e
      rw [ha i ⟨e1, e2⟩] at h9
      exact absurd h9 (fun h9 => h9.elim hf hg)
    · exact h.2 g k i h9
/-- a row that is of one part of the state as a whole -/
def jw (k f : Nat) (n : Int) : Bool := match jp k with
  | [q] => decide (q.1 = 0 ∧ n ≤ q.2.1 + 1 ∧ q.2.2.1 = (f : Int))
  | _ => false
theorem jw_ja {k f : Nat} {n i : Int} (h : jw k f n = true) (hi : 0 ≤ i ∧ i < n) : ja k i = f := by
  unfold jw at h
  split at h
  · rename_i q e
    have h := of_decide_eq_true h
    unfold ja
    rw [e]
    unfold jf
    rw [if_pos (by omega)]
    show q.2.2.1.toNat = f
    omega
  · cases h
theorem J.cpyS {S : zS} {m0 m m1 : zM} {B : Int} {g1 k g0 f : Nat} {n : Int} (h : J S m0 B m) (hm : m1 = z_cpy m g1 k g0 k 0 0 n) (hw : jw k f n = true) (hf : ¬ S.1 f) (hg : ¬ S.2.1 g1) (hk : k ≠ 44 := by decide) (hv : decide (k = 46 ∨ k = 47) = false := by rfl) : J S m0 B m1 :=
  h.cpy hm (fun i _ => by
    rw [show i - 0 + 0 = i by omega]
    exact h.1 g0 k i (jq_of hv)) (fun i hi => jw_ja hw (by omega)) hk hf hg
theorem J.cpyF {S : zS} {m0 m m1 : zM} {B : Int} {g1 k1 g0 k0 f : Nat} {sp dp n : Int} (h : J S m0 B m) (hm : m1 = z_cpy m g1 k1 g0 k0 sp dp n) (h1 : jb k1 = []) (h0 : jb k0 = []) (hw : ∀ i, dp ≤ i ∧ i < dp + n → ja k1 i = f) (hf : ¬ S.1 f) (hg : ¬ S.2.1 g1) (hk : k1 ≠ 44 := by decide) (hv : decide (k0 = 46 ∨ k0 = 47) = false := by rfl) : J S m0 B m1 :=
  h.cpy hm (fun i _ => by
    have h9 := h.1 g0 k0 (i - dp + sp) (jq_of hv)
    unfold jl jh at h9 ⊢
    rw [h0] at h9
    rw [h1]
    exact h9) hw hk hf hg
theorem J.cpyP {S : zS} {m0 m m1 : zM} {B : Int} {g1 g0 : Nat} {sp dp n : Int} (h : J S m0 B m) (hm : m1 = z_cpy m g1 10 g0 43 sp dp n) (hr : 0 ≤ sp ∧ sp + n ≤ 4 ∧ 6 ≤ dp ∧ dp + n ≤ 13) (hf : ¬ S.1 3) (hg : ¬ S.2.1 g1) : J S m0 B m1 :=
  h.cpy hm (fun i hi => by
    have h9 := r43_0 h g0 (i := i - dp + sp) (by omega)
    unfold jl jh
    rw [jf_at (show 6 ≤ i ∧ i ≤ 12 by omega) 2 (jb 10) rfl rfl]
    show (0 : Int) ≤ _ ∧ _ ≤ (1000000 : Int)
    omega) (fun i hi => ja_at (show 0 ≤ i ∧ i ≤ 12 by omega) 0 rfl rfl rfl) (by decide) hf hg
theorem z_ro5 {s : Nat × (Nat → Int32)} {p : Nat} {i : Int} (hp : p = 1 ∨ p = 2 ∨ p = 3) : (p = 2 → i = 5 → 1 ≤ z_ro (EE s) p i) ∧ (p = 3 → i = 5 → z_ro (EE s) p i ≤ 6) := by
  refine ⟨?_, ?_⟩
  · rintro rfl rfl
    show (1 : Int) ≤ (sA2.getD 5 0).toInt
    decide
  · rintro rfl rfl
    show (sA3.getD 5 0).toInt ≤ (6 : Int)
    decide
theorem z_upd_o (m : zM) {g k : Nat} {i : Int} (x : Int) {g' k' : Nat} {i' : Int} (h : decide (k' = k ∧ i' = i) = false) : z_upd m g k i x g' k' i' = m g' k' i' := by
  unfold z_upd
  rw [if_neg]
  intro e
  simp only [decide_eq_false_iff_not] at h
  exact h e.2
theorem z_cpy_o {m : zM} {g1 k1 g0 k0 : Nat} {sp dp n : Int} {g k : Nat} {i : Int} (h : decide (k = k1) = false) : z_cpy m g1 k1 g0 k0 sp dp n g k i = m g k i := by
  unfold z_cpy
  rw [if_neg]
  intro e
  simp only [decide_eq_false_iff_not] at h
  exact h e.2.1
section
variable {E : zE} {d j pc : Nat} {lv : List (Nat × zV)} {st : List zV} {m : zM} {Q : Option zV → zM → Prop} {q : Nat × Nat × Nat × Nat} {c : Value} {ks : Option (List Nat)}
theorem X.ldivZ (pc' : Nat) {x y : Int} (hi : z_I E j pc = some (.ldiv, 1, q, c, ks)) (hc : z_cut ks lv = lv) (hp : pc + 1 = pc') (hy : y ≠ 0) (kk : ∀ z, (-9223372036854775808 ≤ z ∧ z ≤ 9223372036854775807) → X E d j pc' lv (zl z :: st) m Q) : X E d j pc lv (zl y :: zl x :: st) m Q :=
  X.num pc' hi hc hp rfl (kk (Int64.ofInt x / Int64.ofInt y).toInt (z_r64 _)) (fun h => by
    have hy1 : -9223372036854775808 ≤ y ∧ y ≤ 9223372036854775807 := z_hd h
    refine ⟨z_cons (z_r64 _) (z_tl (z_tl h)), fun _ => ?_⟩
    show x_ld (fun x y => x / y) 1 (.long (Int64.ofInt y) :: .long (Int64.ofInt x) :: _) _ = _
    simp only [x_ld, if_true, if_neg (z_ne64 hy1 hy)]
    rw [List.map_cons, z_vl_toInt])
theorem X.lremZ (pc' : Nat) {x y : Int} (hi : z_I E j pc = some (.lrem, 1, q, c, ks)) (hc : z_cut ks lv = lv) (hp : pc + 1 = pc') (hy : y ≠ 0) (kk : ∀ z, (-9223372036854775808 ≤ z ∧ z ≤ 9223372036854775807) → X E d j pc' lv (zl z :: st) m Q) : X E d j pc lv (zl y :: zl x :: st) m Q :=
  X.num pc' hi hc hp rfl (kk (Int64.ofInt x - Int64.ofInt x / Int64.ofInt y * Int64.ofInt y).toInt (z_r64 _)) (fun h => by
    have hy1 : -9223372036854775808 ≤ y ∧ y ≤ 9223372036854775807 := z_hd h
    refine ⟨z_cons (z_r64 _) (z_tl (z_tl h)), fun _ => ?_⟩
    show x_ld (fun x y => x - x / y * y) 1 (.long (Int64.ofInt y) :: .long (Int64.ofInt x) :: _) _ = _
    simp only [x_ld, if_true, if_neg (z_ne64 hy1 hy)]
    rw [List.map_cons, z_vl_toInt])
theorem X.idivT (pc' : Nat) {x y : Int} (hi : z_I E j pc = some (.idiv, 1, q, c, ks)) (hc : z_cut ks lv = lv) (hp : pc + 1 = pc') (hy : 0 < y ∧ y ≤ 2147483647) (kk : ∀ z, (0 ≤ x → z = x / y) ∧ (x < 0 → z ≤ 0 ∧ x ≤ z * y) → X E d j pc' lv (zi z :: st) m Q) : X E d j pc lv (zi y :: zi x :: st) m Q := by
  refine X.num pc' hi hc hp rfl (kk (x.tdiv y) ⟨fun h => Int.tdiv_eq_ediv_of_nonneg h, fun h => ?_⟩) (fun h => ?_)
  · have h1 := (z_tdiv_le (x := x) hy.1).2 (by omega)
    refine ⟨h1.2, ?_⟩
    have h2 := Int.tmod_add_mul_tdiv x y
    have h3 := (z_tmod_le (x := x) hy.1).2 (by omega)
    rw [Int.mul_comm] at h2
    omega
  · have hx1 : -2147483648 ≤ x ∧ x ≤ 2147483647 := z_hd (z_tl h)
    have hy1 : -2147483648 ≤ y ∧ y ≤ 2147483647 := z_hd h
    have h1 := z_tdiv_le (x := x) hy.1
    refine ⟨z_cons (show -2147483648 ≤ x.tdiv y ∧ x.tdiv y ≤ 2147483647 by rcases Int.le_total 0 x with h2 | h2 <;> omega) (z_tl (z_tl h)), fun _ => ?_⟩
    show x_id (fun x y => x / y) 1 (.int (Int32.ofInt y) :: .int (Int32.ofInt x) :: _) _ = _
    simp only [x_id, if_true, if_neg (z_ne32 hy1 (by omega)), z_div32 hx1 hy1]; rfl
theorem X.iremT (pc' : Nat) {x y : Int} (hi : z_I E j pc = some (.irem, 1, q, c, ks)) (hc : z_cut ks lv = lv) (hp : pc + 1 = pc') (hy : 0 < y ∧ y ≤ 2147483647) (kk : ∀ z, (0 ≤ x → z = x % y) ∧ (x < 0 → z ≤ 0 ∧ x ≤ z) → X E d j pc' lv (zi z :: st) m Q) : X E d j pc lv (zi y :: zi x :: st) m Q := by
  refine X.num pc' hi hc hp rfl (kk (x.tmod y) ⟨fun h => Int.tmod_eq_emod_of_nonneg h, fun h => ?_⟩) (fun h => ?_)
  · have h3 := (z_tmod_le (x := x) hy.1).2 (by omega)
    omega
  · have hx1 : -2147483648 ≤ x ∧ x ≤ 2147483647 := z_hd (z_tl h)
    have hy1 : -2147483648 ≤ y ∧ y ≤ 2147483647 := z_hd h
    have h1 := z_tmod_le (x := x) hy.1
    refine ⟨z_cons (show -2147483648 ≤ x.tmod y ∧ x.tmod y ≤ 2147483647 by rcases Int.le_total 0 x with h2 | h2 <;> omega) (z_tl (z_tl h)), fun _ => ?_⟩
    show x_id (fun x y => x - x / y * y) 1 (.int (Int32.ofInt y) :: .int (Int32.ofInt x) :: _) _ = _
    simp only [x_id, if_true, if_neg (z_ne32 hy1 (by omega)), z_rem32 hx1 hy1]; rfl
end
theorem z_upd_upd (m : zM) (g k : Nat) (i x y : Int) : z_upd (z_upd m g k i x) g k i y = z_upd m g k i y := by
  funext g' k' i'
  unfold z_upd
  split <;> rfl
theorem r10_all {S : zS} {m0 m : zM} {B i : Int} (h : J S m0 B m) (g : Nat) (hi : 0 ≤ i ∧ i ≤ 12) : 0 ≤ m g 10 i ∧ m g 10 i ≤ 1000000 := by
  by_cases h1 : i ≤ 4
  · exact r10_0 h g (i := i) (by omega)
  · by_cases h2 : i = 5
    · subst h2
      have := r10_5 h g
      omega
    · exact r10_6 h g (i := i) (by omega)
