section
variable {ρ : Type} {res : ρ} {n : Nat} {st : List Value} {u : List xC}
theorem x_in_inv {i : Int32} {N : Nat} {a : Option ρ} (h : x_in i N a = some res) : vp_in i N ∧ a = some res := by
  unfold x_in at h
  split at h
  · exact x_no h
  · exact ⟨by assumption, h⟩
theorem x_gf_inv {q : Nat × Nat × Nat × Nat} {k : List Value → Option ρ} (h : x_gf q n st u k = some res) : n = 3 ∧ ∃ p r fs v, st = .ref (p + 8) :: r ∧ u[p]? = some (.inr (q.1, fs)) ∧ fs[q.2.1]? = some v ∧ k (v :: r) = some res := by
  unfold x_gf at h
  split at h
  · split at h
    · split at h
      · rename_i hc
        obtain ⟨h1, rfl⟩ := hc
        split at h
        · exact ⟨h1, _, _, _, _, rfl, by assumption, by assumption, h⟩
        · exact x_no h
      · exact x_no h
    · exact x_no h
  · exact x_no h
theorem x_fit_inv {t : Nat} {v : Value} {a : Option ρ} (h : x_fit t v a = some res) : a = some res ∧ ∀ (ty : FieldType) (b0 : Nat → Nat) (b : Nat), x_tag t ty → narrow ty (x_v b0 b v) = x_v b0 b v ∧ fits ty (x_v b0 b v) = true := by
  unfold x_fit at h
  split at h
  · split at h
    · rename_i ht
      subst ht
      refine ⟨h, fun ty b0 b hz => ?_⟩
      rcases hz with ⟨-, rfl⟩ | ⟨h1, -⟩ | ⟨h1, -⟩ | ⟨h1, -⟩
      · exact ⟨rfl, rfl⟩
      all_goals exact absurd h1 (by decide)
    · split at h
      · rename_i ht
        subst ht
        split at h
        · rename_i hx
          refine ⟨h, fun ty b0 b hz => ?_⟩
          rcases hz with ⟨h1, -⟩ | ⟨h1, -⟩ | ⟨-, rfl⟩ | ⟨h1, -⟩
          · exact absurd h1 (by decide)
          · exact absurd h1 (by decide)
          · rcases hx with rfl | rfl <;> exact ⟨rfl, rfl⟩
          · exact absurd h1 (by decide)
        · exact x_no h
      · exact x_no h
  · split at h
    · rename_i ht
      subst ht
      refine ⟨h, fun ty b0 b hz => ?_⟩
      rcases hz with ⟨h1, -⟩ | ⟨-, rfl⟩ | ⟨h1, -⟩ | ⟨h1, -⟩
      · exact absurd h1 (by decide)
      · exact ⟨rfl, rfl⟩
      all_goals exact absurd h1 (by decide)
    · exact x_no h
  · split at h
    · rename_i ht
      subst ht
      refine ⟨h, fun ty b0 b hz => ?_⟩
      rcases hz with ⟨h1, -⟩ | ⟨h1, -⟩ | ⟨h1, -⟩ | ⟨-, ⟨C, rfl⟩ | ⟨z, rfl⟩⟩
      · exact absurd h1 (by decide)
      · exact absurd h1 (by decide)
      · exact absurd h1 (by decide)
      all_goals exact ⟨rfl, rfl⟩
    · exact x_no h
  · split at h
    · rename_i ht
      subst ht
      refine ⟨h, fun ty b0 b hz => ?_⟩
      rcases hz with ⟨h1, -⟩ | ⟨h1, -⟩ | ⟨h1, -⟩ | ⟨-, ⟨C, rfl⟩ | ⟨z, rfl⟩⟩
      · exact absurd h1 (by decide)
      · exact absurd h1 (by decide)
      · exact absurd h1 (by decide)
      all_goals exact ⟨rfl, rfl⟩
    · exact x_no h
  · exact x_no h
theorem x_pf_inv {q : Nat × Nat × Nat × Nat} {k : List Value → List xC → Option ρ} (h : x_pf q n st u k = some res) : n = 3 ∧ ∃ p r fs v, st = v :: .ref (p + 8) :: r ∧ u[p]? = some (.inr (q.1, fs)) ∧ q.2.1 < fs.length ∧ x_fit q.2.2.1 v (k r (u.set p (.inr (q.1, fs.set q.2.1 v)))) = some res := by
  unfold x_pf at h
  split at h
  · split at h
    · split at h
      · rename_i hc
        obtain ⟨h1, rfl, h2⟩ := hc
        exact ⟨h1, _, _, _, _, rfl, by assumption, h2, h⟩
      · exact x_no h
    · exact x_no h
  · exact x_no h
theorem x_ial_inv {scr : xZ} {k : List Value → Option ρ} (h : x_ial scr n st u k = some res) : n = 1 ∧ ((∃ i p r, st = .int i :: .ref p :: r ∧ p < 4 ∧ vp_in i (scr.1 p).1 ∧ k (.int ((scr.1 p).2 i.toNatClampNeg) :: r) = some res) ∨ ∃ i p r N f, st = .int i :: .ref (p + 8) :: r ∧ u[p]? = some (.inl (.int, N, .inl f)) ∧ vp_in i N ∧ k (.int (f i.toNatClampNeg) :: r) = some res) := by
  unfold x_ial at h
  split at h
  · split at h
    · split at h
      · obtain ⟨h1, h⟩ := x_in_inv h
        exact ⟨by assumption, .inr ⟨_, _, _, _, _, rfl, by assumption, h1, h⟩⟩
      · exact x_no h
    · exact x_no h
  · split at h
    · rename_i hc
      obtain ⟨h1, h⟩ := x_in_inv h
      exact ⟨hc.1, .inl ⟨_, _, _, rfl, hc.2, h1, h⟩⟩
    · exact x_no h
  · exact x_no h
theorem x_lal_inv {k : List Value → Option ρ} (h : x_lal n st u k = some res) : n = 1 ∧ ∃ i p r N f, st = .int i :: .ref (p + 8) :: r ∧ u[p]? = some (.inl (.long, N, .inr (.inl f))) ∧ vp_in i N ∧ k (.long (f i.toNatClampNeg) :: r) = some res := by
  unfold x_lal at h
  split at h
  · split at h
    · split at h
      · obtain ⟨h1, h⟩ := x_in_inv h
        exact ⟨by assumption, _, _, _, _, _, rfl, by assumption, h1, h⟩
      · exact x_no h
    · exact x_no h
  · exact x_no h
theorem x_bal_inv {k : List Value → Option ρ} (h : x_bal n st u k = some res) : n = 1 ∧ ∃ ty i p r N f, (ty = .boolean ∨ ty = .byte) ∧ st = .int i :: .ref (p + 8) :: r ∧ u[p]? = some (.inl (ty, N, .inl f)) ∧ vp_in i N ∧ k (.int (f i.toNatClampNeg) :: r) = some res := by
  unfold x_bal at h
  split at h
  · split at h
    · split at h
      · obtain ⟨h1, h⟩ := x_in_inv h
        exact ⟨by assumption, _, _, _, _, _, _, .inl rfl, rfl, by assumption, h1, h⟩
      · exact x_no h
    · split at h
      · obtain ⟨h1, h⟩ := x_in_inv h
        exact ⟨by assumption, _, _, _, _, _, _, .inr rfl, rfl, by assumption, h1, h⟩
      · exact x_no h
    · exact x_no h
  · exact x_no h
theorem x_ias_inv {k : List Value → List xC → Option ρ} (h : x_ias n st u k = some res) : n = 1 ∧ ∃ x i p r N f, st = .int x :: .int i :: .ref (p + 8) :: r ∧ u[p]? = some (.inl (.int, N, .inl f)) ∧ vp_in i N ∧ k r (u.set p (.inl (.int, N, .inl (upd f i.toNatClampNeg x)))) = some res := by
  unfold x_ias at h
  split at h
  · split at h
    · split at h
      · obtain ⟨h1, h⟩ := x_in_inv h
        exact ⟨by assumption, _, _, _, _, _, _, rfl, by assumption, h1, h⟩
      · exact x_no h
    · exact x_no h
  · exact x_no h
theorem x_las_inv {k : List Value → List xC → Option ρ} (h : x_las n st u k = some res) : n = 1 ∧ ∃ x i p r N f, st = .long x :: .int i :: .ref (p + 8) :: r ∧ u[p]? = some (.inl (.long, N, .inr (.inl f))) ∧ vp_in i N ∧ k r (u.set p (.inl (.long, N, .inr (.inl (vp_updL f i.toNatClampNeg x))))) = some res := by
  unfold x_las at h
  split at h
  · split at h
    · split at h
      · obtain ⟨h1, h⟩ := x_in_inv h
        exact ⟨by assumption, _, _, _, _, _, _, rfl, by assumption, h1, h⟩
      · exact x_no h
    · exact x_no h
  · exact x_no h
theorem x_bas_inv {k : List Value → List xC → Option ρ} (h : x_bas n st u k = some res) : n = 1 ∧ ∃ ty x i p r N f, (ty = .boolean ∨ ty = .byte) ∧ st = .int x :: .int i :: .ref (p + 8) :: r ∧ u[p]? = some (.inl (ty, N, .inl f)) ∧ vp_in i N ∧ k r (u.set p (.inl (ty, N, .inl (upd f i.toNatClampNeg (vp_nar ty x))))) = some res := by
  unfold x_bas at h
  split at h
  · split at h
    · split at h
      · obtain ⟨h1, h⟩ := x_in_inv h
        exact ⟨by assumption, _, _, _, _, _, _, _, .inl rfl, rfl, by assumption, h1, h⟩
      · exact x_no h
    · split at h
      · obtain ⟨h1, h⟩ := x_in_inv h
        exact ⟨by assumption, _, _, _, _, _, _, _, .inr rfl, rfl, by assumption, h1, h⟩
      · exact x_no h
    · exact x_no h
  · exact x_no h
theorem x_alen_inv {scr : xZ} {k : List Value → Option ρ} (h : x_alen scr n st u k = some res) : n = 1 ∧ ((∃ p r, st = .ref p :: r ∧ p < 4 ∧ k (.int (Int32.ofNat (scr.1 p).1) :: r) = some res) ∨ ∃ p r ty a, st = .ref (p + 8) :: r ∧ u[p]? = some (.inl (ty, a)) ∧ k (.int (Int32.ofNat a.1) :: r) = some res) := by
  unfold x_alen at h
  split at h
  · split at h
    · split at h
      · exact ⟨by assumption, .inr ⟨_, _, _, _, rfl, by assumption, h⟩⟩
      · exact x_no h
    · exact x_no h
  · split at h
    · rename_i hc
      exact ⟨hc.1, .inl ⟨_, _, rfl, hc.2, h⟩⟩
    · exact x_no h
  · exact x_no h
theorem x_ad_old (b0 : Nat → Nat) (b : Nat) {p : Nat} (h : p < 8) : x_ad b0 b p = b0 p := by
  unfold x_ad
  split
  · omega
  · rfl
theorem x_v_old (b0 : Nat → Nat) (b : Nat) {p : Nat} (h : p < 8) : x_v b0 b (.ref p) = .ref (b0 p) := by
  show Value.ref (x_ad b0 b p) = _
  rw [x_ad_old b0 b h]
theorem x_zero_inv {t : ArrayType} {N : Nat} {k : FieldType → vp_A → Option ρ} (h : x_zero t N k = some res) : ∃ a : vp_A, a.1 = N ∧ (∀ cA : ClassId, vp_cell cA a = arrV cA N (fun _ => defaultValue (newarray.typeOf t))) ∧ (∀ (b0 : Nat → Nat) (b : Nat), x_rc b0 b a = a) ∧ componentBytes (newarray.typeOf t) ≤ 8 ∧ (newarray.typeOf t = .int ∨ newarray.typeOf t = .long ∨ newarray.typeOf t = .boolean ∨ newarray.typeOf t = .byte) ∧ k (newarray.typeOf t) a = some res := by
  cases t with
  | int => exact ⟨_, rfl, fun _ => rfl, fun _ _ => rfl, by decide, .inl rfl, h⟩
  | long => exact ⟨_, rfl, fun _ => rfl, fun _ _ => rfl, by decide, .inr (.inl rfl), h⟩
  | boolean => exact ⟨_, rfl, fun _ => rfl, fun _ _ => rfl, by decide, .inr (.inr (.inl rfl)), h⟩
  | byte => exact ⟨_, rfl, fun _ => rfl, fun _ _ => rfl, by decide, .inr (.inr (.inr rfl)), h⟩
  | _ => exact x_no h
theorem x_na_inv {t : ArrayType} {k : List Value → List xC → Option ρ} (h : x_na t n st u k = some res) : n = 2 ∧ ∃ c r, st = .int c :: r ∧ ¬ c < 0 ∧ c.toNatClampNeg ≤ 1000000 ∧ x_zero t c.toNatClampNeg (fun ty a => k (.ref (u.length + 8) :: r) (u ++ [.inl (ty, a)])) = some res := by
  unfold x_na at h
  split at h
  · split at h
    · split at h
      · exact x_no h
      · rename_i hc
        exact ⟨by assumption, _, _, rfl, fun z => hc (.inl z), by omega, h⟩
    · exact x_no h
  · exact x_no h
end
theorem x_v_def (b0 : Nat → Nat) (b : Nat) (t : FieldType) : x_v b0 b (defaultValue t) = defaultValue t := by cases t <;> rfl
theorem x_V_map (b0 : Nat → Nat) (b : Nat) (fs : List Value) (j : Nat) : vp_V (fs.map (x_v b0 b)) j = x_v b0 b (vp_V fs j) := by
  unfold vp_V
  rw [List.getD_eq_getElem?_getD, List.getD_eq_getElem?_getD, List.getElem?_map]
  cases fs[j]? <;> rfl
section
variable {p : Program} {l : Launch} {e : Env} {R : Room} {s : State} {m : MethodId} {args : Array Value} {below : List Frame} {meth : Method} {c : Code} {H : Heap} {locs : List Loc} {cells slots : Nat} {Q : State → Prop}
variable {pc : Nat} {ls : Array Slot} {res : xR}
/-- how large the heap may be -/
theorem x_size {g : JFrame} (k : H.size ≤ s.heap.size + cells → W p l e R s m args below meth c H locs cells slots Q g) : W p l e R s m args below meth c H locs cells slots Q g := by
  intro T hT X
  exact k (by rw [← hT]; exact X.heapSize) T hT X
theorem x_tyAt {tyl : List FieldType} {ca : FieldType → ClassId} {ty : FieldType} (h : ty ∈ tyl) : ∃ t0 : Nat, (tyl.map fun t => (ca t, t))[t0]? = some (ca ty, ty) := by
  obtain ⟨k, hk⟩ := List.mem_iff_getElem?.mp h
  exact ⟨k, by rw [List.getElem?_map, hk]; rfl⟩
set_option maxHeartbeats 8000000 in
set_option maxRecDepth 100000 in
/-- an instruction over the cells -/
theorem x_heap_ok {os : xT} {cL cC : ByteArray} {T : List Jvm.Cond} {D : va_G} {cl : List vw_C} {tyf : Nat → Nat → FieldType} {tyl : List FieldType} {ca : FieldType → ClassId} {b0 : Nat → Nat} {b : Nat} {scr : xZ} {df : Nat → List Value} {P : Nat → Option xM} {u0 u : List xC} {M : xM} {x : xI} {st : List Value} {k : Nat → List Value → List xC → Option xR}
    (hCL : x_CL T cl tyf df) (hF : x_Fix os T D cl tyl ca b0 b scr u0 M p s m args meth c) (hok : x_okI os cL cC T cl tyf tyl P M pc x) (hI : x_Inv D cl tyl ca b0 b s u0 u H locs cells slots) (h : x_heap scr df x pc st u k = some res)
    (hroom : ∀ pc' st' u', k pc' st' u' = some res → u'.length ≤ R.cells + u0.length ∧ x_sz u' ≤ R.slots + x_sz u0)
    (kk : ∀ pc' st' u' H' locs' cells' slots', k pc' st' u' = some res → x_Inv D cl tyl ca b0 b s u0 u' H' locs' cells' slots' → W p l e R s m args below meth c H' locs' cells' slots' Q (F0 m pc' ls (st'.map (x_v b0 b)))) :
    W p l e R s m args below meth c H locs cells slots Q (F0 m pc ls (st.map (x_v b0 b))) := by
  obtain ⟨hx, hb, hml, hr, hmn, hown, hts, hK, hX, hsz, hlocks⟩ := hF
  obtain ⟨hP, hS, hc1, hc2, hu⟩ := hI
  have hD : va_D (fun q => b ≤ q) (x_ws ca b0 b b u) := x_ws_D u
  obtain ⟨i, n, q, cst⟩ := x
  obtain ⟨hd, -, hok⟩ := hok
  cases i with
  | getfield idx =>
    dsimp only [x_heap] at h
    obtain ⟨rfl, p0, r, fs, v, rfl, h1, h2, h⟩ := x_gf_inv h
    obtain ⟨C, F, N, hc, hk, hl⟩ := hok
    have he := x_ws_at (ca := ca) (b0 := b0) (b := b) h1
    have hv : (fs.map (x_v b0 b))[q.2.1]? = some (x_v b0 b v) := by rw [List.getElem?_map, h2]; rfl
    rcases hl with hl | ⟨host, hl⟩
    · exact va_get hx hb hts (hCL _ _ _ _ hc).1 hown hK hP p0 he hc q.2.1 hk (hts _ hl) (fun _ h9 => h9) hv hd (kk _ _ _ _ _ _ _ h ⟨hP, hS, hc1, hc2, hu⟩)
    · exact va_getN hx hb hts (hCL _ _ _ _ hc).1 hown hK hP p0 he hc q.2.1 hk (hts _ hl) (fun _ h9 => h9) hv hd (kk _ _ _ _ _ _ _ h ⟨hP, hS, hc1, hc2, hu⟩)
  | putfield idx =>
    dsimp only [x_heap] at h
    obtain ⟨rfl, p0, r, fs, v, rfl, h1, h2, h⟩ := x_pf_inv h
    obtain ⟨C, F, N, hc, hk, htag, hl⟩ := hok
    obtain ⟨h, hfit⟩ := x_fit_inv h
    obtain ⟨hfn, hff⟩ := hfit _ b0 b htag
    have he := x_ws_at (ca := ca) (b0 := b0) (b := b) h1
    obtain ⟨g1, g2, g3, -, -⟩ := hCL _ _ _ _ hc
    have hset : (x_ws ca b0 b b u).set p0 (b + p0, .inr (q.1, (fs.map (x_v b0 b)).set q.2.1 (x_v b0 b v))) = x_ws ca b0 b b (u.set p0 (.inr (q.1, fs.set q.2.1 v))) := by
      rw [← x_ws_set, ← List.map_set]
      rfl
    have hnext : ∀ (H1 : Heap) (locs1 : List Loc), va_P D cl ((x_ws ca b0 b b u).set p0 (b + p0, .inr (q.1, (fs.map (x_v b0 b)).set q.2.1 (x_v b0 b v)))) H1 → va_D (fun q => b ≤ q) ((x_ws ca b0 b b u).set p0 (b + p0, .inr (q.1, (fs.map (x_v b0 b)).set q.2.1 (x_v b0 b v)))) → va_S (fun q => b ≤ q) s.heap H1 locs1 → W p l e R s m args below meth c H1 locs1 cells slots Q (F0 m (pc + 3) ls (r.map (x_v b0 b))) := by
      intro H1 locs1 hP1 _ hS1
      rw [hset] at hP1
      exact kk _ _ _ _ _ _ _ h ⟨hP1, hS1, by rw [List.length_set]; exact hc1, by rw [x_sz_set _ _ _ _ h1 (by simp [x_sz1])]; exact hc2, x_oku_set hu trivial⟩
    rcases hl with ⟨hfin, hl | ⟨host, hl⟩⟩ | ⟨hfin, hin, hdecl, hl⟩
    · exact va_put hx hb hts g1 (tyf q.1) g2 g3 hown hK hP hD hS p0 he hc q.2.1 hk (hts _ hl) (fun _ h9 => h9) hfin (g2 _ hk) hfn hff (by rw [List.length_map]; exact h2) hd hnext
    · exact va_putN hx hb hts g1 (tyf q.1) g2 g3 hown hK hP hD hS p0 he hc q.2.1 hk (hts _ hl) (fun _ h9 => h9) hfin (g2 _ hk) hfn hff (by rw [List.length_map]; exact h2) hd hnext
    · exact va_putF hx hb hts g1 (tyf q.1) g2 g3 hown hK hP hD hS p0 he hc q.2.1 hk (hts _ hl) (fun _ h9 => h9) hfin (hmn.trans hin) hdecl (g2 _ hk) hfn hff (by rw [List.length_map]; exact h2) hd hnext
  | iaload =>
    dsimp only [x_heap] at h
    obtain ⟨rfl, ⟨i, p0, r, rfl, h0, h1, h⟩ | ⟨i, p0, r, N, f, rfl, h1, h2, h⟩⟩ := x_ial_inv h
    · show W p l e R s m args below meth c H locs cells slots Q (F0 m pc ls (.int i :: x_v b0 b (.ref p0) :: r.map (x_v b0 b)))
      rw [x_v_old (p := p0) b0 b (Nat.lt_trans h0 (by decide))]
      exact va_ti hx hb (hX.1 p0 h0) hS h1 rfl hd (kk _ _ _ _ _ _ _ h ⟨hP, hS, hc1, hc2, hu⟩)
    · obtain ⟨t0, ht⟩ := x_tyAt (ca := ca) (show FieldType.int ∈ tyl from x_oku_at hu h1)
      exact va_iald hx hb hK hP p0 t0 (x_ws_at h1) ht h2 hd (kk _ _ _ _ _ _ _ h ⟨hP, hS, hc1, hc2, hu⟩)
  | laload =>
    dsimp only [x_heap] at h
    obtain ⟨rfl, i, p0, r, N, f, rfl, h1, h2, h⟩ := x_lal_inv h
    obtain ⟨t0, ht⟩ := x_tyAt (ca := ca) (show FieldType.long ∈ tyl from x_oku_at hu h1)
    exact va_lald hx hb hK hP p0 t0 (x_ws_at h1) ht h2 hd (kk _ _ _ _ _ _ _ h ⟨hP, hS, hc1, hc2, hu⟩)
  | baload =>
    dsimp only [x_heap] at h
    obtain ⟨rfl, ty, i, p0, r, N, f, hty, rfl, h1, h2, h⟩ := x_bal_inv h
    obtain ⟨t0, ht⟩ := x_tyAt (ca := ca) (show ty ∈ tyl from x_oku_at hu h1)
    rcases hty with rfl | rfl
    · exact va_zald hx hb hK hP p0 t0 (x_ws_at h1) ht h2 hd (kk _ _ _ _ _ _ _ h ⟨hP, hS, hc1, hc2, hu⟩)
    · exact va_bald hx hb hK hP p0 t0 (x_ws_at h1) ht h2 hd (kk _ _ _ _ _ _ _ h ⟨hP, hS, hc1, hc2, hu⟩)
  | iastore =>
    dsimp only [x_heap] at h
    obtain ⟨rfl, z, i, p0, r, N, f, rfl, h1, h2, h⟩ := x_ias_inv h
    have hty : FieldType.int ∈ tyl := x_oku_at hu h1
    obtain ⟨t0, ht⟩ := x_tyAt (ca := ca) hty
    refine va_iast hx hb hK hP hD hS p0 t0 (x_ws_at h1) ht h2 hd (fun H1 locs1 hP1 _ hS1 => ?_)
    rw [show (x_ws ca b0 b b u).set p0 (b + p0, .inl (ca .int, N, .inl (upd f i.toNatClampNeg z))) = x_ws ca b0 b b (u.set p0 (.inl (.int, N, .inl (upd f i.toNatClampNeg z)))) from x_ws_set u b p0 (.inl (.int, N, .inl (upd f i.toNatClampNeg z)))] at hP1
    exact kk _ _ _ _ _ _ _ h ⟨hP1, hS1, by rw [List.length_set]; exact hc1, hc2.trans (Eq.symm (x_sz_set _ _ _ _ h1 rfl)), x_oku_set hu hty⟩
  | lastore =>
    dsimp only [x_heap] at h
    obtain ⟨rfl, z, i, p0, r, N, f, rfl, h1, h2, h⟩ := x_las_inv h
    have hty : FieldType.long ∈ tyl := x_oku_at hu h1
    obtain ⟨t0, ht⟩ := x_tyAt (ca := ca) hty
    refine va_last hx hb hK hP hD hS p0 t0 (x_ws_at h1) ht h2 hd (fun H1 locs1 hP1 _ hS1 => ?_)
    rw [show (x_ws ca b0 b b u).set p0 (b + p0, .inl (ca .long, N, .inr (.inl (vp_updL f i.toNatClampNeg z)))) = x_ws ca b0 b b (u.set p0 (.inl (.long, N, .inr (.inl (vp_updL f i.toNatClampNeg z))))) from x_ws_set u b p0 (.inl (.long, N, .inr (.inl (vp_updL f i.toNatClampNeg z))))] at hP1
    exact kk _ _ _ _ _ _ _ h ⟨hP1, hS1, by rw [List.length_set]; exact hc1, hc2.trans (Eq.symm (x_sz_set _ _ _ _ h1 rfl)), x_oku_set hu hty⟩
  | bastore =>
    dsimp only [x_heap] at h
    obtain ⟨rfl, ty, z, i, p0, r, N, f, hty2, rfl, h1, h2, h⟩ := x_bas_inv h
    have hty : ty ∈ tyl := x_oku_at hu h1
    obtain ⟨t0, ht⟩ := x_tyAt (ca := ca) hty
    have hnext : ∀ (H1 : Heap) (locs1 : List Loc), va_P D cl ((x_ws ca b0 b b u).set p0 (b + p0, .inl (ca ty, N, .inl (upd f i.toNatClampNeg (vp_nar ty z))))) H1 → va_D (fun q => b ≤ q) ((x_ws ca b0 b b u).set p0 (b + p0, .inl (ca ty, N, .inl (upd f i.toNatClampNeg (vp_nar ty z))))) → va_S (fun q => b ≤ q) s.heap H1 locs1 → W p l e R s m args below meth c H1 locs1 cells slots Q (F0 m (pc + 1) ls (r.map (x_v b0 b))) := by
      intro H1 locs1 hP1 _ hS1
      rw [show (x_ws ca b0 b b u).set p0 (b + p0, .inl (ca ty, N, .inl (upd f i.toNatClampNeg (vp_nar ty z)))) = x_ws ca b0 b b (u.set p0 (.inl (ty, N, .inl (upd f i.toNatClampNeg (vp_nar ty z))))) from x_ws_set u b p0 (.inl (ty, N, .inl (upd f i.toNatClampNeg (vp_nar ty z))))] at hP1
      exact kk _ _ _ _ _ _ _ h ⟨hP1, hS1, by rw [List.length_set]; exact hc1, hc2.trans (Eq.symm (x_sz_set _ _ _ _ h1 rfl)), x_oku_set hu hty⟩
    rcases hty2 with rfl | rfl
    · exact va_zast hx hb hK hP hD hS p0 t0 (x_ws_at h1) ht h2 hd hnext
    · exact va_bast hx hb hK hP hD hS p0 t0 (x_ws_at h1) ht h2 hd hnext
  | arraylength =>
    dsimp only [x_heap] at h
    obtain ⟨rfl, ⟨p0, r, rfl, h0, h⟩ | ⟨p0, r, ty, a, rfl, h1, h⟩⟩ := x_alen_inv h
    · show W p l e R s m args below meth c H locs cells slots Q (F0 m pc ls (x_v b0 b (.ref p0) :: r.map (x_v b0 b)))
      rw [x_v_old (p := p0) b0 b (Nat.lt_trans h0 (by decide))]
      exact va_tlen hx hb (hX.1 p0 h0) hS rfl hd (kk _ _ _ _ _ _ _ h ⟨hP, hS, hc1, hc2, hu⟩)
    · obtain ⟨t0, ht⟩ := x_tyAt (ca := ca) (show ty ∈ tyl from x_oku_at hu h1)
      exact va_alen hx hb hK hP p0 t0 (x_ws_at h1) ht (by rw [x_rc_n]) hd (kk _ _ _ _ _ _ _ h ⟨hP, hS, hc1, hc2, hu⟩)
  | new idx =>
    simp only [x_heap] at h
    split at h
    · rename_i hn
      have hn : n = 3 := hn
      subst hn
      obtain ⟨C, F, N, hc, hl1, hl2, hl3⟩ := hok
      obtain ⟨g1, g2, g3, g4, g5⟩ := hCL _ _ _ _ hc
      obtain ⟨r1, r2⟩ := hroom _ _ _ h
      rw [List.length_append, List.length_singleton] at r1
      rw [x_sz_app] at r2
      have hs1 : x_sz1 (.inr (q.1, df q.1)) = N := g5
      rw [hs1] at r2
      refine va_new (D := D) (A := fun q => b ≤ q) (fs := (df q.1).map (x_v b0 b)) hx hb hts g1 (tyf q.1) g2 hown (hts _ hl1) (hts _ hl2) (hts _ hl3) hK hP hD hS (fun q hq => by have := hsz; show b ≤ q; omega) hc (fun j hj => by rw [x_V_map, ← g4 j hj, x_v_def]) (by omega) (by omega) hd (fun a H1 hP1 hD1 hS1 => ?_)
      refine x_size (fun hz => ?_)
      have ha : a = b + u.length := x_fresh hP1 hD1 (by omega)
      subst ha
      rw [show x_ws ca b0 b b u ++ [(b + u.length, .inr (q.1, (df q.1).map (x_v b0 b)))] = x_ws ca b0 b b (u ++ [.inr (q.1, df q.1)]) from x_ws_app u b (.inr (q.1, df q.1))] at hP1
      exact kk _ _ _ _ _ _ _ h ⟨hP1, hS1, by rw [List.length_append, List.length_singleton]; omega, by rw [x_sz_app, hs1]; omega, x_oku_app hu trivial⟩
    · exact x_no h
  | newarray t =>
    dsimp only [x_heap] at h
    obtain ⟨rfl, z, r, rfl, hz0, hz1, h⟩ := x_na_inv h
    obtain ⟨a, ha1, ha2, ha3, ha4, ha5, h⟩ := x_zero_inv h
    obtain ⟨hl1, hl2⟩ := hok
    obtain ⟨r1, r2⟩ := hroom _ _ _ h
    rw [List.length_append, List.length_singleton] at r1
    rw [x_sz_app] at r2
    have hs1 : x_sz1 (.inl (newarray.typeOf t, a)) = z.toNatClampNeg := ha1
    rw [hs1] at r2
    refine va_newa (D := D) (A := fun q => b ≤ q) (atype := t) (a0 := a) hx hb (hts _ hl1) rfl hK hP hD hS (fun q hq => by have := hsz; show b ≤ q; omega) ha2 hz0 rfl (Nat.le_trans (Nat.mul_le_mul hz1 ha4) (Nat.le_of_ble_eq_true rfl)) (by omega) (by omega) hd (fun a1 cA H1 hK1 hP1 hD1 hS1 => ?_)
    refine x_size (fun hz => ?_)
    have hq : a1 = b + u.length := x_fresh hP1 hD1 (by omega)
    subst hq
    obtain ⟨t0, ht⟩ := x_tyAt (ca := ca) hl2
    have k1 := (hK.2 _ _ ht).2
    have k2 := (hK1.2 (tyl.map fun t => (ca t, t)).length (cA, newarray.typeOf t) (by simp)).2
    have hcA : cA = ca (newarray.typeOf t) := by
      dsimp only at k1 k2
      rcases ha5 with h5 | h5 | h5 | h5 <;> rw [h5] at k1 k2 ⊢ <;> exact Option.some.inj (k2.symm.trans k1)
    subst hcA
    rw [show x_ws ca b0 b b u ++ [(b + u.length, .inl (ca (newarray.typeOf t), a))] = x_ws ca b0 b b (u ++ [.inl (newarray.typeOf t, a)]) by rw [← x_ws_app]; simp only [x_e, ha3]] at hP1
    exact kk _ _ _ _ _ _ _ h ⟨hP1, hS1, by rw [List.length_append, List.length_singleton]; omega, by rw [x_sz_app, hs1]; omega, x_oku_app hu hl2⟩
  | ldc idx =>
    simp only [x_heap] at h
    split at h
    · rename_i hn
      have hn : n = 2 := hn
      subst hn
      rcases hok with ⟨v, hv, hl⟩ | ⟨tx, p0, hv, h0, hl⟩
      · dsimp only at hv h
        rw [hv] at h
        exact lv_ldc hx hb hown (hts _ hl) hd (kk _ _ _ _ _ _ _ h ⟨hP, hS, hc1, hc2, hu⟩)
      · dsimp only at hv h
        rw [hv] at h
        refine va_ldcS hx hb hown (hX.2.2.1 _ hl) hd ?_
        have hk := kk _ _ _ _ _ _ _ h ⟨hP, hS, hc1, hc2, hu⟩
        rw [List.map_cons, x_v_old b0 b h0] at hk
        exact hk
    · exact x_no h
  | ldc_w idx =>
    simp only [x_heap] at h
    split at h
    · rename_i hn
      have hn : n = 3 := hn
      subst hn
      obtain ⟨v, hv, hl⟩ := hok
      dsimp only at hv h
      rw [hv] at h
      exact lv_ldcw hx hb hown (hts _ hl) hd (kk _ _ _ _ _ _ _ h ⟨hP, hS, hc1, hc2, hu⟩)
    · exact x_no h
  | getstatic idx =>
    simp only [x_heap] at h
    split at h
    · rename_i hn
      obtain ⟨hn, h0⟩ := hn
      have hn : n = 3 := hn
      subst hn
      obtain ⟨C, nm, ds, hz, hl⟩ := hok
      have hk := kk _ _ _ _ _ _ _ h ⟨hP, hS, hc1, hc2, hu⟩
      rw [List.map_cons, x_v_old b0 b (Nat.lt_trans h0 (by decide))] at hk
      rcases hl with hl | ⟨host, hl⟩
      · exact va_gets hx hb (hX.2.1 _ hz) hS hown (hts _ hl) (fun _ h9 => h9) hd hk
      · exact va_getsN hx hb (hX.2.1 _ hz) hS hown (hts _ hl) (fun _ h9 => h9) hd hk
    · exact x_no h
  | ldc2_w idx =>
    simp only [x_heap] at h
    split at h
    · rename_i hn
      have hn : n = 3 := hn
      subst hn
      obtain ⟨v, hv, hl⟩ := hok
      dsimp only at hv h
      rw [hv] at h
      exact lv_ldc2 hx hb hown (hts _ hl) hd (kk _ _ _ _ _ _ _ h ⟨hP, hS, hc1, hc2, hu⟩)
    · exact x_no h
  | _ => exact x_no h
end
