section
variable {E : zE} {d j pc : Nat} {lv : List (Nat × zV)} {st : List zV} {m : zM} {Q : Option zV → zM → Prop} {q : Nat × Nat × Nat × Nat} {c : Value} {ks : Option (List Nat)}
theorem X.hp {ins : Instr} {n : Nat} {st' : List zV} {m' : zM} (pc' : Nat) (hi : z_I E j pc = some (ins, n, q, c, ks)) (hc : z_cut ks lv = lv) (h0 : x_kind ins = 3) (kk : X E d j pc' lv st' m' Q)
    (hok : (∀ v ∈ st, z_ok E.2.2.2 v) → z_mok E.2.2.2 m → (∀ v ∈ st', z_ok E.2.2.2 v) ∧ z_mok E.2.2.2 m' ∧ ∀ k : Nat → List Value → List xC → Option xR, x_heap E.1 E.2.1 (ins, n, q, c, ks) pc (st.map (z_v E.2.2.2)) (z_u E.2.2.2 m) k = k pc' (st'.map (z_v E.2.2.2)) (z_u E.2.2.2 m')) : X E d j pc lv st m Q := by
  refine X.go hi hc (fun h1 h2 h3 => ?_) kk
  obtain ⟨g1, g3, g2⟩ := hok h2 h3
  refine ⟨h1, g1, g3, fun call M k => ?_⟩
  unfold x_step
  rw [h0]
  dsimp only
  rw [g2]
  rfl
/-- the cell that a reference names -/
theorem z_refok {L : zL} {g k : Nat} (h : z_ok L (zr g k)) (hg : g ≠ 99) : z_val L g k := by
  rcases h with h | h
  · exact absurd h.1 hg
  · exact h
theorem z_kind_ne {L : zL} {g k : Nat} (h : z_ok L (zr g k)) (h8 : ¬ k < 8) : z_val L g k := by
  rcases h with h | h
  · exact absurd h.2 h8
  · exact h
/-- cells have numbers from 8 on, so that they are no old things -/
theorem z_gf {L : zL} {g k ci : Nat} {fs : List zF} {m : zM} (hv : z_val L g k) (hk : L.1 k = some (.inl (ci, fs))) : (z_u L m)[L.2.1 g k]? = some (.inr (ci, z_fs L (m g k) g 0 fs)) := by
  rw [z_u_at hv]
  unfold z_c
  rw [hk]
theorem z_ga {L : zL} {g k t N : Nat} {m : zM} (hv : z_val L g k) (hk : L.1 k = some (.inr (t, N))) : (z_u L m)[L.2.1 g k]? = some (.inl (z_arr t N (m g k))) := by
  rw [z_u_at hv]
  unfold z_c
  rw [hk]
theorem X.getf (pc' : Nat) {idx ci fj tg hh g k : Nat} {fs : List zF} {df : zF} {v : zV} (hi : z_I E j pc = some (.getfield idx, 3, (ci, fj, tg, hh), c, ks)) (hc : z_cut ks lv = lv) (hp : pc + 3 = pc') (h8 : ¬ k < 8) (hk : E.2.2.2.1 k = some (.inl (ci, fs))) (hf : fs[fj]? = some df) (hv : z_fv df g (m g k fj) = v) (kk : X E d j pc' lv (v :: st) m Q) : X E d j pc lv (zr g k :: st) m Q := by
  subst hp
  subst hv
  refine X.hp (pc + 3) hi hc rfl kk (fun h1 h2 => ?_)
  have hv := z_kind_ne (z_hd h1) h8
  have hm := h2 g k hv
  unfold z_ck at hm
  rw [hk] at hm
  refine ⟨z_cons (hm fj df hf).1 (z_tl h1), h2, fun k2 => ?_⟩
  rw [List.map_cons, z_v_ref hv]
  show x_gf (ci, fj, tg, hh) 3 (.ref (E.2.2.2.2.1 g k + 8) :: st.map (z_v E.2.2.2)) (z_u E.2.2.2 m) (fun s2 => k2 (pc + 3) s2 (z_u E.2.2.2 m)) = _
  unfold x_gf
  dsimp only
  rw [z_gf hv hk]
  dsimp only
  rw [if_pos ⟨rfl, rfl⟩, z_fs_get, hf]
  simp only [Option.map_some, Nat.zero_add]
  rfl
theorem X.getI (pc' : Nat) (fz : Int) {idx ci fj tg hh g k : Nat} {fs : List zF} (hi : z_I E j pc = some (.getfield idx, 3, (ci, fj, tg, hh), c, ks)) (hc : z_cut ks lv = lv) (hp : pc + 3 = pc') (h8 : ¬ k < 8) (hk : E.2.2.2.1 k = some (.inl (ci, fs))) (hf : fs[fj]? = some (.inl 0)) (hz : (fj : Int) = fz) (kk : X E d j pc' lv (zi (m g k fz) :: st) m Q) : X E d j pc lv (zr g k :: st) m Q :=
  X.getf pc' hi hc hp h8 hk hf (v := zi (m g k fz)) (by rw [hz]; rfl) kk
theorem X.getZ (pc' : Nat) (fz : Int) {idx ci fj tg hh g k : Nat} {fs : List zF} (hi : z_I E j pc = some (.getfield idx, 3, (ci, fj, tg, hh), c, ks)) (hc : z_cut ks lv = lv) (hp : pc + 3 = pc') (h8 : ¬ k < 8) (hk : E.2.2.2.1 k = some (.inl (ci, fs))) (hf : fs[fj]? = some (.inl 2)) (hz : (fj : Int) = fz) (kk : (m g k fz = 0 ∨ m g k fz = 1) → X E d j pc' lv (zi (m g k fz) :: st) m Q) : X E d j pc lv (zr g k :: st) m Q := by
  intro g1 g2 g3
  have hv := z_kind_ne (z_hd g2) h8
  have hm := g3 g k hv
  unfold z_ck at hm
  rw [hk] at hm
  have hb := (hm fj _ hf).2 rfl
  rw [hz] at hb
  exact X.getf pc' hi hc hp h8 hk hf (v := zi (m g k fz)) (by rw [hz]; rfl) (kk hb) g1 g2 g3
theorem X.getL (pc' : Nat) (fz : Int) {idx ci fj tg hh g k : Nat} {fs : List zF} (hi : z_I E j pc = some (.getfield idx, 3, (ci, fj, tg, hh), c, ks)) (hc : z_cut ks lv = lv) (hp : pc + 3 = pc') (h8 : ¬ k < 8) (hk : E.2.2.2.1 k = some (.inl (ci, fs))) (hf : fs[fj]? = some (.inl 1)) (hz : (fj : Int) = fz) (kk : X E d j pc' lv (zl (m g k fz) :: st) m Q) : X E d j pc lv (zr g k :: st) m Q :=
  X.getf pc' hi hc hp h8 hk hf (v := zl (m g k fz)) (by rw [hz]; rfl) kk
theorem X.getR (pc' : Nat) {idx ci fj tg hh g k k' : Nat} {fs : List zF} (hi : z_I E j pc = some (.getfield idx, 3, (ci, fj, tg, hh), c, ks)) (hc : z_cut ks lv = lv) (hp : pc + 3 = pc') (h8 : ¬ k < 8) (hk : E.2.2.2.1 k = some (.inl (ci, fs))) (hf : fs[fj]? = some (.inr (.inl k'))) (kk : X E d j pc' lv (zr g k' :: st) m Q) : X E d j pc lv (zr g k :: st) m Q :=
  X.getf pc' hi hc hp h8 hk hf (v := zr g k') rfl kk
theorem X.getF (pc' : Nat) {idx ci fj tg hh g k g' k' : Nat} {fs : List zF} (hi : z_I E j pc = some (.getfield idx, 3, (ci, fj, tg, hh), c, ks)) (hc : z_cut ks lv = lv) (hp : pc + 3 = pc') (h8 : ¬ k < 8) (hk : E.2.2.2.1 k = some (.inl (ci, fs))) (hf : fs[fj]? = some (.inr (.inr (g', k')))) (kk : X E d j pc' lv (zr g' k' :: st) m Q) : X E d j pc lv (zr g k :: st) m Q :=
  X.getf pc' hi hc hp h8 hk hf (v := zr g' k') rfl kk
theorem z_upd_same (m : zM) (g k : Nat) (i x : Int) : z_upd m g k i x g k i = x := by unfold z_upd; rw [if_pos ⟨rfl, rfl, rfl⟩]
theorem z_upd_i (m : zM) (g k : Nat) {i i' : Int} (x : Int) (h : i' ≠ i) : z_upd m g k i x g k i' = m g k i' := by unfold z_upd; rw [if_neg (fun e => h e.2.2)]
theorem z_upd_k (m : zM) {g k g' k' : Nat} (i x : Int) (h : (g', k') ≠ (g, k)) : z_upd m g k i x g' k' = m g' k' := by
  funext i'
  unfold z_upd
  rw [if_neg (fun e => h (by rw [e.1, e.2.1]))]
theorem X.putf (pc' : Nat) {idx ci fj tg hh g k : Nat} {fs : List zF} {t : Nat} {x : Int} (fz : Int) (v : zV) (hi : z_I E j pc = some (.putfield idx, 3, (ci, fj, tg, hh), c, ks)) (hc : z_cut ks lv = lv) (hp : pc + 3 = pc') (h8 : ¬ k < 8) (hk : E.2.2.2.1 k = some (.inl (ci, fs))) (hf : fs[fj]? = some (.inl t)) (hz : (fj : Int) = fz) (hv : z_fv (.inl t) g x = v) (hb : t = 2 → x = 0 ∨ x = 1)
    (hfit : ∀ (a : Option xR), x_fit tg (z_v E.2.2.2 v) a = a) (kk : X E d j pc' lv st (z_upd m g k fz x) Q) : X E d j pc lv (v :: zr g k :: st) m Q := by
  subst hp
  subst hz
  refine X.hp (pc + 3) hi hc rfl kk (fun h1 h2 => ?_)
  have hvv := z_kind_ne (z_hd (z_tl h1)) h8
  refine ⟨z_tl (z_tl h1), ?_, fun k2 => ?_⟩
  · intro g' k' hv'
    by_cases he : (g', k') = (g, k)
    · obtain ⟨rfl, rfl⟩ := Prod.mk.inj he
      have hm := h2 g' k' hv'
      unfold z_ck at hm ⊢
      rw [hk] at hm ⊢
      intro j' d' hd'
      by_cases hj : j' = fj
      · subst hj
        have hdd : d' = .inl t := Option.some.inj (hd'.symm.trans hf)
        subst hdd
        rw [z_upd_same]
        refine ⟨by rw [hv]; exact z_hd h1, fun e => hb ?_⟩
        cases e
        rfl
      · have hm2 := hm j' d' hd'
        rw [z_upd_i _ _ _ _ (by omega)]
        exact hm2
    · rw [z_upd_k _ _ _ he]
      exact h2 g' k' hv'
  · rw [List.map_cons, List.map_cons, z_v_ref hvv]
    show x_pf (ci, fj, tg, hh) 3 (z_v E.2.2.2 v :: .ref (E.2.2.2.2.1 g k + 8) :: st.map (z_v E.2.2.2)) (z_u E.2.2.2 m) (fun s2 u2 => k2 (pc + 3) s2 u2) = _
    unfold x_pf
    dsimp only
    rw [z_gf hvv hk]
    dsimp only
    rw [if_pos ⟨rfl, rfl, by rw [z_fs_len]; exact (List.getElem?_eq_some_iff.mp hf).1⟩, hfit]
    congr 1
    refine z_u_set hvv ?_ (fun g' k' he => z_upd_k _ _ _ he)
    unfold z_c
    rw [hk]
    dsimp only
    rw [z_fs_set (f' := z_upd m g k fj x g k) fs fj _ (.inl t) hf (by rw [z_upd_same, hv]) (fun i hi2 => z_upd_i _ _ _ _ (by omega))]
theorem X.putI (pc' : Nat) (fz : Int) {idx ci fj hh g k : Nat} {fs : List zF} {x : Int} (hi : z_I E j pc = some (.putfield idx, 3, (ci, fj, 0, hh), c, ks)) (hc : z_cut ks lv = lv) (hp : pc + 3 = pc') (h8 : ¬ k < 8) (hk : E.2.2.2.1 k = some (.inl (ci, fs))) (hf : fs[fj]? = some (.inl 0)) (hz : (fj : Int) = fz) (kk : X E d j pc' lv st (z_upd m g k fz x) Q) : X E d j pc lv (zi x :: zr g k :: st) m Q :=
  X.putf pc' fz (zi x) hi hc hp h8 hk hf hz rfl (fun e => absurd e (by decide)) (fun a => rfl) kk
theorem X.putL (pc' : Nat) (fz : Int) {idx ci fj hh g k : Nat} {fs : List zF} {x : Int} (hi : z_I E j pc = some (.putfield idx, 3, (ci, fj, 1, hh), c, ks)) (hc : z_cut ks lv = lv) (hp : pc + 3 = pc') (h8 : ¬ k < 8) (hk : E.2.2.2.1 k = some (.inl (ci, fs))) (hf : fs[fj]? = some (.inl 1)) (hz : (fj : Int) = fz) (kk : X E d j pc' lv st (z_upd m g k fz x) Q) : X E d j pc lv (zl x :: zr g k :: st) m Q :=
  X.putf pc' fz (zl x) hi hc hp h8 hk hf hz rfl (fun e => absurd e (by decide)) (fun a => rfl) kk
theorem X.putZ (pc' : Nat) (fz : Int) {idx ci fj hh g k : Nat} {fs : List zF} {x : Int} (hi : z_I E j pc = some (.putfield idx, 3, (ci, fj, 2, hh), c, ks)) (hc : z_cut ks lv = lv) (hp : pc + 3 = pc') (h8 : ¬ k < 8) (hk : E.2.2.2.1 k = some (.inl (ci, fs))) (hf : fs[fj]? = some (.inl 2)) (hz : (fj : Int) = fz) (hx : x = 0 ∨ x = 1) (kk : X E d j pc' lv st (z_upd m g k fz x) Q) : X E d j pc lv (zi x :: zr g k :: st) m Q :=
  X.putf pc' fz (zi x) hi hc hp h8 hk hf hz rfl (fun _ => hx) (fun a => by
    rcases hx with rfl | rfl <;> rfl) kk
-- rows
theorem z_arr_len (t N : Nat) (f : Int → Int) : (z_arr t N f).2.1 = N := by
  unfold z_arr
  split
  · rfl
  · split
    · rfl
    · split <;> rfl
theorem z_rgi {L : zL} {g k t N : Nat} {m : zM} (h2 : z_mok L m) (hv : z_val L g k) (hk : L.1 k = some (.inr (t, N))) {i : Int} (h0 : 0 ≤ i) (hN : i < N) : z_rg t (m g k i) := by
  have hm := h2 g k hv
  unfold z_ck at hm
  rw [hk] at hm
  exact hm.1 i h0 hN
theorem z_nat {i : Int} (h : 0 ≤ i) : ((i.toNat : Nat) : Int) = i := by omega
theorem X.iald (pc' : Nat) {g k N : Nat} {i : Int} (hi : z_I E j pc = some (.iaload, 1, q, c, ks)) (hc : z_cut ks lv = lv) (hp : pc + 1 = pc') (h8 : ¬ k < 8) (hk : E.2.2.2.1 k = some (.inr (0, N))) (hx : 0 ≤ i ∧ i < N) (kk : X E d j pc' lv (zi (m g k i) :: st) m Q) : X E d j pc lv (zi i :: zr g k :: st) m Q := by
  subst hp
  refine X.hp (pc + 1) hi hc rfl kk (fun h1 h2 => ?_)
  have hv := z_kind_ne (z_hd (z_tl h1)) h8
  have hr : -2147483648 ≤ i ∧ i ≤ 2147483647 := z_hd h1
  refine ⟨z_cons (z_rgi h2 hv hk hx.1 hx.2) (z_tl (z_tl h1)), h2, fun k2 => ?_⟩
  rw [List.map_cons, List.map_cons, z_v_ref hv]
  show x_ial E.1 1 (.int (Int32.ofInt i) :: .ref (E.2.2.2.2.1 g k + 8) :: st.map (z_v E.2.2.2)) (z_u E.2.2.2 m) (fun s2 => k2 (pc + 1) s2 (z_u E.2.2.2 m)) = _
  unfold x_ial
  dsimp only
  rw [z_ga hv hk]
  show x_in (Int32.ofInt i) N _ = _
  unfold x_in
  rw [if_neg (z_in hr hx.1 hx.2), z_cl hr]
  dsimp only
  rw [z_nat hx.1]
  rfl
theorem X.lald (pc' : Nat) {g k N : Nat} {i : Int} (hi : z_I E j pc = some (.laload, 1, q, c, ks)) (hc : z_cut ks lv = lv) (hp : pc + 1 = pc') (h8 : ¬ k < 8) (hk : E.2.2.2.1 k = some (.inr (1, N))) (hx : 0 ≤ i ∧ i < N) (kk : X E d j pc' lv (zl (m g k i) :: st) m Q) : X E d j pc lv (zi i :: zr g k :: st) m Q := by
  subst hp
  refine X.hp (pc + 1) hi hc rfl kk (fun h1 h2 => ?_)
  have hv := z_kind_ne (z_hd (z_tl h1)) h8
  have hr : -2147483648 ≤ i ∧ i ≤ 2147483647 := z_hd h1
  refine ⟨z_cons (z_rgi h2 hv hk hx.1 hx.2) (z_tl (z_tl h1)), h2, fun k2 => ?_⟩
  rw [List.map_cons, List.map_cons, z_v_ref hv]
  show x_lal 1 (.int (Int32.ofInt i) :: .ref (E.2.2.2.2.1 g k + 8) :: st.map (z_v E.2.2.2)) (z_u E.2.2.2 m) (fun s2 => k2 (pc + 1) s2 (z_u E.2.2.2 m)) = _
  unfold x_lal
  dsimp only
  rw [z_ga hv hk]
  show x_in (Int32.ofInt i) N _ = _
  unfold x_in
  rw [if_neg (z_in hr hx.1 hx.2), z_cl hr]
  dsimp only
  rw [z_nat hx.1]
  rfl
theorem X.bald (pc' : Nat) {g k N : Nat} {i : Int} (hi : z_I E j pc = some (.baload, 1, q, c, ks)) (hc : z_cut ks lv = lv) (hp : pc + 1 = pc') (h8 : ¬ k < 8) (hk : E.2.2.2.1 k = some (.inr (2, N))) (hx : 0 ≤ i ∧ i < N) (kk : (-128 ≤ m g k i ∧ m g k i ≤ 127) → X E d j pc' lv (zi (m g k i) :: st) m Q) : X E d j pc lv (zi i :: zr g k :: st) m Q := by
  intro g1 g2 g3
  have hv := z_kind_ne (z_hd (z_tl g2)) h8
  have hz : -128 ≤ m g k i ∧ m g k i ≤ 127 := z_rgi g3 hv hk hx.1 hx.2
  subst hp
  refine X.hp (pc + 1) hi hc rfl (kk hz) (fun h1 h2 => ?_) g1 g2 g3
  have hr : -2147483648 ≤ i ∧ i ≤ 2147483647 := z_hd h1
  refine ⟨z_cons (show -2147483648 ≤ m g k i ∧ m g k i ≤ 2147483647 by omega) (z_tl (z_tl h1)), h2, fun k2 => ?_⟩
  rw [List.map_cons, List.map_cons, z_v_ref hv]
  show x_bal 1 (.int (Int32.ofInt i) :: .ref (E.2.2.2.2.1 g k + 8) :: st.map (z_v E.2.2.2)) (z_u E.2.2.2 m) (fun s2 => k2 (pc + 1) s2 (z_u E.2.2.2 m)) = _
  unfold x_bal
  dsimp only
  rw [z_ga hv hk]
  show x_in (Int32.ofInt i) N _ = _
  unfold x_in
  rw [if_neg (z_in hr hx.1 hx.2), z_cl hr]
  dsimp only
  rw [z_nat hx.1]
  rfl
theorem X.zald (pc' : Nat) {g k N : Nat} {i : Int} (hi : z_I E j pc = some (.baload, 1, q, c, ks)) (hc : z_cut ks lv = lv) (hp : pc + 1 = pc') (h8 : ¬ k < 8) (hk : E.2.2.2.1 k = some (.inr (3, N))) (hx : 0 ≤ i ∧ i < N) (kk : (0 ≤ m g k i ∧ m g k i ≤ 1) → X E d j pc' lv (zi (m g k i) :: st) m Q) : X E d j pc lv (zi i :: zr g k :: st) m Q := by
  intro g1 g2 g3
  have hv := z_kind_ne (z_hd (z_tl g2)) h8
  have hz : 0 ≤ m g k i ∧ m g k i ≤ 1 := z_rgi g3 hv hk hx.1 hx.2
  subst hp
  refine X.hp (pc + 1) hi hc rfl (kk hz) (fun h1 h2 => ?_) g1 g2 g3
  have hr : -2147483648 ≤ i ∧ i ≤ 2147483647 := z_hd h1
  refine ⟨z_cons (show -2147483648 ≤ m g k i ∧ m g k i ≤ 2147483647 by omega) (z_tl (z_tl h1)), h2, fun k2 => ?_⟩
  rw [List.map_cons, List.map_cons, z_v_ref hv]
  show x_bal 1 (.int (Int32.ofInt i) :: .ref (E.2.2.2.2.1 g k + 8) :: st.map (z_v E.2.2.2)) (z_u E.2.2.2 m) (fun s2 => k2 (pc + 1) s2 (z_u E.2.2.2 m)) = _
  unfold x_bal
  dsimp only
  rw [z_ga hv hk]
  show x_in (Int32.ofInt i) N _ = _
  unfold x_in
  rw [if_neg (z_in hr hx.1 hx.2), z_cl hr]
  dsimp only
  rw [z_nat hx.1]
  rfl
/-- an old row of ints -/
def z_ro (E : zE) (p : Nat) (i : Int) : Int := ((E.1.1 p).2 i.toNat).toInt
theorem X.rald (pc' : Nat) {p : Nat} {i : Int} (hi : z_I E j pc = some (.iaload, 1, q, c, ks)) (hc : z_cut ks lv = lv) (hp : pc + 1 = pc') (h4 : p < 4) (hx : 0 ≤ i ∧ i < (E.1.1 p).1) (kk : (-2147483648 ≤ z_ro E p i ∧ z_ro E p i ≤ 2147483647) → X E d j pc' lv (zi (z_ro E p i) :: st) m Q) : X E d j pc lv (zi i :: zr 99 p :: st) m Q := by
  subst hp
  refine X.hp (pc + 1) hi hc rfl (kk (z_r32 _)) (fun h1 h2 => ?_)
  have hr : -2147483648 ≤ i ∧ i ≤ 2147483647 := z_hd h1
  refine ⟨z_cons (z_r32 _) (z_tl (z_tl h1)), h2, fun k2 => ?_⟩
  rw [List.map_cons, List.map_cons, z_v_old]
  show x_ial E.1 1 (.int (Int32.ofInt i) :: .ref p :: st.map (z_v E.2.2.2)) (z_u E.2.2.2 m) (fun s2 => k2 (pc + 1) s2 (z_u E.2.2.2 m)) = _
  have key : ∀ (a : Int32) (r : List Value) (u : List xC) (k : List Value → Option xR), x_ial E.1 1 (.int a :: .ref p :: r) u k = x_in a (E.1.1 p).1 (k (.int ((E.1.1 p).2 a.toNatClampNeg) :: r)) := by
    intro a r u k
    rcases (show p = 0 ∨ p = 1 ∨ p = 2 ∨ p = 3 by omega) with rfl | rfl | rfl | rfl <;> rfl
  rw [key]
  unfold x_in
  rw [if_neg (z_in hr hx.1 hx.2), z_cl hr]
  rw [List.map_cons, show z_v E.2.2.2 (zi (z_ro E p i)) = .int ((E.1.1 p).2 i.toNat) from z_vi_toInt _ _]
theorem X.alen (pc' : Nat) {g k t N : Nat} (hi : z_I E j pc = some (.arraylength, 1, q, c, ks)) (hc : z_cut ks lv = lv) (hp : pc + 1 = pc') (h8 : ¬ k < 8) (hk : E.2.2.2.1 k = some (.inr (t, N))) (kk : X E d j pc' lv (zi N :: st) m Q) : X E d j pc lv (zr g k :: st) m Q := by
  subst hp
  refine X.hp (pc + 1) hi hc rfl kk (fun h1 h2 => ?_)
  have hv := z_kind_ne (z_hd h1) h8
  have hN : N < 2147483648 := by
    have hm := h2 g k hv
    unfold z_ck at hm
    rw [hk] at hm
    exact hm.2
  refine ⟨z_cons (show -2147483648 ≤ (N : Int) ∧ (N : Int) ≤ 2147483647 by omega) (z_tl h1), h2, fun k2 => ?_⟩
  rw [List.map_cons, z_v_ref hv]
  show x_alen E.1 1 (.ref (E.2.2.2.2.1 g k + 8) :: st.map (z_v E.2.2.2)) (z_u E.2.2.2 m) (fun s2 => k2 (pc + 1) s2 (z_u E.2.2.2 m)) = _
  unfold x_alen
  dsimp only
  rw [z_ga hv hk]
  dsimp only
  rw [if_pos rfl, show (z_arr t N (m g k)).2.1 = N from z_arr_len t N _]
  rw [List.map_cons, show z_v E.2.2.2 (zi (N : Int)) = .int (Int32.ofNat N) from congrArg Value.int Int32.ofInt_eq_ofNat]
theorem X.rlen (pc' : Nat) {p : Nat} (hi : z_I E j pc = some (.arraylength, 1, q, c, ks)) (hc : z_cut ks lv = lv) (hp : pc + 1 = pc') (h4 : p < 4) (hN : (E.1.1 p).1 < 2147483648) (kk : X E d j pc' lv (zi (E.1.1 p).1 :: st) m Q) : X E d j pc lv (zr 99 p :: st) m Q := by
  subst hp
  refine X.hp (pc + 1) hi hc rfl kk (fun h1 h2 => ?_)
  refine ⟨z_cons (show -2147483648 ≤ ((E.1.1 p).1 : Int) ∧ ((E.1.1 p).1 : Int) ≤ 2147483647 by omega) (z_tl h1), h2, fun k2 => ?_⟩
  rw [List.map_cons, z_v_old]
  show x_alen E.1 1 (.ref p :: st.map (z_v E.2.2.2)) (z_u E.2.2.2 m) (fun s2 => k2 (pc + 1) s2 (z_u E.2.2.2 m)) = _
  have key : ∀ (r : List Value) (u : List xC) (k : List Value → Option xR), x_alen E.1 1 (.ref p :: r) u k = k (.int (Int32.ofNat (E.1.1 p).1) :: r) := by
    intro r u k
    rcases (show p = 0 ∨ p = 1 ∨ p = 2 ∨ p = 3 by omega) with rfl | rfl | rfl | rfl <;> rfl
  rw [key]
  rw [List.map_cons, show z_v E.2.2.2 (zi ((E.1.1 p).1 : Int)) = .int (Int32.ofNat (E.1.1 p).1) from congrArg Value.int Int32.ofInt_eq_ofNat]
theorem z_mok_row {L : zL} {g k t N : Nat} {m m' : zM} (hm : z_mok L m) (hk : L.1 k = some (.inr (t, N))) (hr : z_val L g k → ∀ i : Int, 0 ≤ i → i < N → z_rg t (m' g k i)) (he : ∀ g' k', (g', k') ≠ (g, k) → m' g' k' = m g' k') : z_mok L m' := by
  intro g' k' hv
  by_cases h : (g', k') = (g, k)
  · obtain ⟨rfl, rfl⟩ := Prod.mk.inj h
    have h1 := hm g' k' hv
    unfold z_ck at h1 ⊢
    rw [hk] at h1 ⊢
    exact ⟨hr hv, h1.2⟩
  · rw [he _ _ h]
    exact hm g' k' hv
theorem z_updf {m : zM} {g k : Nat} {i x : Int} (h : 0 ≤ i) {α : Type} (f : Int → α) : (fun n : Nat => f (z_upd m g k i x g k (n : Int))) = fun n => if n = i.toNat then f x else f (m g k n) := by
  funext n
  by_cases h9 : n = i.toNat
  · subst h9
    rw [if_pos rfl, z_nat h, z_upd_same]
  · rw [if_neg h9, z_upd_i _ _ _ _ (by omega)]
theorem X.iast (pc' : Nat) {g k N : Nat} {i x : Int} (hi : z_I E j pc = some (.iastore, 1, q, c, ks)) (hc : z_cut ks lv = lv) (hp : pc + 1 = pc') (h8 : ¬ k < 8) (hk : E.2.2.2.1 k = some (.inr (0, N))) (hx : 0 ≤ i ∧ i < N) (kk : X E d j pc' lv st (z_upd m g k i x) Q) : X E d j pc lv (zi x :: zi i :: zr g k :: st) m Q := by
  subst hp
  refine X.hp (pc + 1) hi hc rfl kk (fun h1 h2 => ?_)
  have hv := z_kind_ne (z_hd (z_tl (z_tl h1))) h8
  have hr : -2147483648 ≤ i ∧ i ≤ 2147483647 := z_hd (z_tl h1)
  have hxr : -2147483648 ≤ x ∧ x ≤ 2147483647 := z_hd h1
  refine ⟨z_tl (z_tl (z_tl h1)), z_mok_row h2 hk (fun hv i' h0 hN => ?_) (fun g' k' he => z_upd_k _ _ _ he), fun k2 => ?_⟩
  · by_cases he : i' = i
    · subst he; rw [z_upd_same]; exact hxr
    · rw [z_upd_i _ _ _ _ he]; exact z_rgi h2 hv hk h0 hN
  · rw [List.map_cons, List.map_cons, List.map_cons, z_v_ref hv]
    show x_ias 1 (.int (Int32.ofInt x) :: .int (Int32.ofInt i) :: .ref (E.2.2.2.2.1 g k + 8) :: _) _ _ = _
    unfold x_ias
    dsimp only
    rw [z_ga hv hk]
    show x_in (Int32.ofInt i) N _ = _
    unfold x_in
    rw [if_neg (z_in hr hx.1 hx.2), z_cl hr]
    congr 1
    refine z_u_set hv ?_ (fun g' k' he => z_upd_k _ _ _ he)
    unfold z_c
    rw [hk]
    show _ = Sum.inl (FieldType.int, N, Sum.inl fun n : Nat => Int32.ofInt (z_upd m g k i x g k (n : Int)))
    rw [z_updf hx.1 (fun y => Int32.ofInt y)]
    rfl
theorem X.last (pc' : Nat) {g k N : Nat} {i x : Int} (hi : z_I E j pc = some (.lastore, 1, q, c, ks)) (hc : z_cut ks lv = lv) (hp : pc + 1 = pc') (h8 : ¬ k < 8) (hk : E.2.2.2.1 k = some (.inr (1, N))) (hx : 0 ≤ i ∧ i < N) (kk : X E d j pc' lv st (z_upd m g k i x) Q) : X E d j pc lv (zl x :: zi i :: zr g k :: st) m Q := by
  subst hp
  refine X.hp (pc + 1) hi hc rfl kk (fun h1 h2 => ?_)
  have hv := z_kind_ne (z_hd (z_tl (z_tl h1))) h8
  have hr : -2147483648 ≤ i ∧ i ≤ 2147483647 := z_hd (z_tl h1)
  have hxr : -9223372036854775808 ≤ x ∧ x ≤ 9223372036854775807 := z_hd h1
  refine ⟨z_tl (z_tl (z_tl h1)), z_mok_row h2 hk (fun hv i' h0 hN => ?_) (fun g' k' he => z_upd_k _ _ _ he), fun k2 => ?_⟩
  · by_cases he : i' = i
    · subst he; rw [z_upd_same]; exact hxr
    · rw [z_upd_i _ _ _ _ he]; exact z_rgi h2 hv hk h0 hN
  · rw [List.map_cons, List.map_cons, List.map_cons, z_v_ref hv]
    show x_las 1 (.long (Int64.ofInt x) :: .int (Int32.ofInt i) :: .ref (E.2.2.2.2.1 g k + 8) :: _) _ _ = _
    unfold x_las
    dsimp only
    rw [z_ga hv hk]
    show x_in (Int32.ofInt i) N _ = _
    unfold x_in
    rw [if_neg (z_in hr hx.1 hx.2), z_cl hr]
    congr 1
    refine z_u_set hv ?_ (fun g' k' he => z_upd_k _ _ _ he)
    unfold z_c
    rw [hk]
    show _ = Sum.inl (FieldType.long, N, Sum.inr (Sum.inl fun n : Nat => Int64.ofInt (z_upd m g k i x g k (n : Int))))
    rw [z_updf hx.1 (fun y => Int64.ofInt y)]
    rfl
theorem X.bast (pc' : Nat) {g k N : Nat} {i x : Int} (hi : z_I E j pc = some (.bastore, 1, q, c, ks)) (hc : z_cut ks lv = lv) (hp : pc + 1 = pc') (h8 : ¬ k < 8) (hk : E.2.2.2.1 k = some (.inr (2, N))) (hx : 0 ≤ i ∧ i < N) (hxr : -128 ≤ x ∧ x ≤ 127) (kk : X E d j pc' lv st (z_upd m g k i x) Q) : X E d j pc lv (zi x :: zi i :: zr g k :: st) m Q := by
  subst hp
  refine X.hp (pc + 1) hi hc rfl kk (fun h1 h2 => ?_)
  have hv := z_kind_ne (z_hd (z_tl (z_tl h1))) h8
  have hr : -2147483648 ≤ i ∧ i ≤ 2147483647 := z_hd (z_tl h1)
  refine ⟨z_tl (z_tl (z_tl h1)), z_mok_row h2 hk (fun hv i' h0 hN => ?_) (fun g' k' he => z_upd_k _ _ _ he), fun k2 => ?_⟩
  · by_cases he : i' = i
    · subst he; rw [z_upd_same]; exact hxr
    · rw [z_upd_i _ _ _ _ he]; exact z_rgi h2 hv hk h0 hN
  · rw [List.map_cons, List.map_cons, List.map_cons, z_v_ref hv]
    show x_bas 1 (.int (Int32.ofInt x) :: .int (Int32.ofInt i) :: .ref (E.2.2.2.2.1 g k + 8) :: _) _ _ = _
    unfold x_bas
    dsimp only
    rw [z_ga hv hk]
    show x_in (Int32.ofInt i) N _ = _
    unfold x_in
    rw [if_neg (z_in hr hx.1 hx.2), z_cl hr, vp_nar_byte, show (Int32.ofInt x).toInt8.toInt32 = Int32.ofInt x by
      rw [← Int32.toInt_inj, Int8.toInt_toInt32, Int32.toInt_toInt8, z_32 (by omega), Int.bmod_eq_of_le (by omega) (by omega)]]
    congr 1
    refine z_u_set hv ?_ (fun g' k' he => z_upd_k _ _ _ he)
    unfold z_c
    rw [hk]
    show _ = Sum.inl (FieldType.byte, N, Sum.inl fun n : Nat => Int32.ofInt (z_upd m g k i x g k (n : Int)))
    rw [z_updf hx.1 (fun y => Int32.ofInt y)]
    rfl
theorem X.zast (pc' : Nat) {g k N : Nat} {i x : Int} (hi : z_I E j pc = some (.bastore, 1, q, c, ks)) (hc : z_cut ks lv = lv) (hp : pc + 1 = pc') (h8 : ¬ k < 8) (hk : E.2.2.2.1 k = some (.inr (3, N))) (hx : 0 ≤ i ∧ i < N) (hxr : x = 0 ∨ x = 1) (kk : X E d j pc' lv st (z_upd m g k i x) Q) : X E d j pc lv (zi x :: zi i :: zr g k :: st) m Q := by
  subst hp
  refine X.hp (pc + 1) hi hc rfl kk (fun h1 h2 => ?_)
  have hv := z_kind_ne (z_hd (z_tl (z_tl h1))) h8
  have hr : -2147483648 ≤ i ∧ i ≤ 2147483647 := z_hd (z_tl h1)
  refine ⟨z_tl (z_tl (z_tl h1)), z_mok_row h2 hk (fun hv i' h0 hN => ?_) (fun g' k' he => z_upd_k _ _ _ he), fun k2 => ?_⟩
  · by_cases he : i' = i
    · subst he; rw [z_upd_same]; show 0 ≤ x ∧ x ≤ 1; omega
    · rw [z_upd_i _ _ _ _ he]; exact z_rgi h2 hv hk h0 hN
  · rw [List.map_cons, List.map_cons, List.map_cons, z_v_ref hv]
    show x_bas 1 (.int (Int32.ofInt x) :: .int (Int32.ofInt i) :: .ref (E.2.2.2.2.1 g k + 8) :: _) _ _ = _
    unfold x_bas
    dsimp only
    rw [z_ga hv hk]
    show x_in (Int32.ofInt i) N _ = _
    unfold x_in
    rw [if_neg (z_in hr hx.1 hx.2), z_cl hr, show vp_nar .boolean (Int32.ofInt x) = Int32.ofInt x by rcases hxr with rfl | rfl <;> rfl]
    congr 1
    refine z_u_set hv ?_ (fun g' k' he => z_upd_k _ _ _ he)
    unfold z_c
    rw [hk]
    show _ = Sum.inl (FieldType.boolean, N, Sum.inl fun n : Nat => Int32.ofInt (z_upd m g k i x g k (n : Int)))
    rw [z_updf hx.1 (fun y => Int32.ofInt y)]
    rfl
-- constants
theorem X.ldc (pc' : Nat) {idx : Nat} {x : Int} (hi : z_I E j pc = some (.ldc idx, 2, q, .int (Int32.ofInt x), ks)) (hc : z_cut ks lv = lv) (hp : pc + 2 = pc') (hx : -2147483648 ≤ x ∧ x ≤ 2147483647) (kk : X E d j pc' lv (zi x :: st) m Q) : X E d j pc lv st m Q := by
  subst hp
  exact X.hp (pc + 2) hi hc rfl kk (fun h1 h2 => ⟨z_cons hx h1, h2, fun k2 => rfl⟩)
theorem X.ldcw (pc' : Nat) {idx : Nat} {x : Int} (hi : z_I E j pc = some (.ldc_w idx, 3, q, .int (Int32.ofInt x), ks)) (hc : z_cut ks lv = lv) (hp : pc + 3 = pc') (hx : -2147483648 ≤ x ∧ x ≤ 2147483647) (kk : X E d j pc' lv (zi x :: st) m Q) : X E d j pc lv st m Q := by
  subst hp
  exact X.hp (pc + 3) hi hc rfl kk (fun h1 h2 => ⟨z_cons hx h1, h2, fun k2 => rfl⟩)
theorem X.ldcS (pc' : Nat) {idx p : Nat} (hi : z_I E j pc = some (.ldc idx, 2, q, .ref p, ks)) (hc : z_cut ks lv = lv) (hp : pc + 2 = pc') (h8 : p < 8) (kk : X E d j pc' lv (zr 99 p :: st) m Q) : X E d j pc lv st m Q := by
  subst hp
  exact X.hp (pc + 2) hi hc rfl kk (fun h1 h2 => ⟨z_cons (.inl ⟨rfl, h8⟩) h1, h2, fun k2 => rfl⟩)
theorem X.ldc2 (pc' : Nat) {idx : Nat} {x : Int} (hi : z_I E j pc = some (.ldc2_w idx, 3, q, .long (Int64.ofInt x), ks)) (hc : z_cut ks lv = lv) (hp : pc + 3 = pc') (hx : -9223372036854775808 ≤ x ∧ x ≤ 9223372036854775807) (kk : X E d j pc' lv (zl x :: st) m Q) : X E d j pc lv st m Q := by
  subst hp
  exact X.hp (pc + 3) hi hc rfl kk (fun h1 h2 => ⟨z_cons hx h1, h2, fun k2 => rfl⟩)
theorem X.gets (pc' : Nat) {idx p a1 a2 a3 : Nat} (hi : z_I E j pc = some (.getstatic idx, 3, (p, a1, a2, a3), c, ks)) (hc : z_cut ks lv = lv) (hp : pc + 3 = pc') (h4 : p < 4) (kk : X E d j pc' lv (zr 99 p :: st) m Q) : X E d j pc lv st m Q := by
  subst hp
  exact X.hp (pc + 3) hi hc rfl kk (fun h1 h2 => ⟨z_cons (.inl ⟨rfl, show p < 8 by omega⟩) h1, h2, fun k2 => by
    show (if (3 : Nat) = 3 ∧ p < 4 then _ else none) = _
    rw [if_pos ⟨rfl, h4⟩]
    rfl⟩)
end
