theorem xK_j {pc pc' : Nat} {st st' : List Value} {u u' : List xC} {r : xR} (h : xK pc st u pc' st' u' = some r) : pc = pc' ∧ st = st' ∧ u = u' := ⟨(xK_i h).1.symm, (xK_i h).2.1.symm, (xK_i h).2.2.symm⟩
set_option maxHeartbeats 4000000 in
set_option maxRecDepth 20000 in
theorem whole_start {p : Program} {e : Env} {s : State} {m : MethodId} {below : List Frame} {meth : Method} {c : Code} (l : Launch) (hflags : l.flags = flags0) {b L : Nat} {xs : Nat → Int32} (hL : L ≤ 3072) (C0 : lw_At p s m meth c b L xs) : W p l e room_1 s m #[Value.ref b] below meth c s.heap [] 0 0 (lw_Z below #[Value.ref b] s) (entryFrame m ([Value.ref b] : List Value).toArray 4) := by
  obtain ⟨hx, hb, hr, hml, hown, hts, hX, hbl, hlocks, hgv, hmn⟩ := id C0
  obtain ⟨fv, b0, hfv, hb00, hXO⟩ := start_O C0
  obtain ⟨U1, U2, f1, f1l, f1n, f1s, f2, f2l, f2n, f2s, fxs, hu2, hmok, hJ0, hRel0⟩ := kfacts
  subst hb00
  have htT : ∀ w ∈ xTT, w.before #[Value.ref (b0 0)] s = true := fun w hw => hts w (List.mem_filter.mp hw).1
  -- classes, rows
  have hk0 : ∀ k : Nat, ∃ q : ClassId × (Nat → Nat), ∀ z : vw_C, pCl[k]? = some z → u_Kn s z.1 z.2.1 z.2.2 q.1 q.2 := by
    intro k
    cases hk : pCl[k]? with
    | none => exact ⟨(0, fun _ => 0), fun z h => by cases h⟩
    | some z =>
      obtain ⟨C, F, N⟩ := z
      obtain ⟨cC, iS, h1⟩ := u_known htT (pCL k C F N hk).1 (htT _ (pIn _ (List.mem_of_getElem? hk)))
      exact ⟨(cC, iS), fun z h => by cases h; exact h1⟩
  obtain ⟨dq, hdq⟩ := Classical.axiomOfChoice hk0
  have ha0 : ∀ t : FieldType, ∃ cA : ClassId, t ∈ pTyl → ArrOfT s cA t ∧ va_RA s cA t := by
    intro t
    by_cases ht : t ∈ pTyl
    · obtain ⟨cA, kA, comp, h1, h2, h3⟩ := Cond.arrayClass_spec (htT _ (pAr t ht))
      refine ⟨cA, fun _ => ⟨fun n z => ⟨fun k h => (by cases h), kA, h2, comp, h3⟩, ?_⟩⟩
      have ht : t = .int ∨ t = .long ∨ t = .byte ∨ t = .boolean := by simpa [pTyl] using ht
      rcases ht with rfl | rfl | rfl | rfl <;> exact h1
    · exact ⟨0, fun h => absurd h ht⟩
  obtain ⟨ca, hca⟩ := Classical.axiomOfChoice ha0
  obtain ⟨D, hDe⟩ : ∃ D : va_G, D = (fun k => (dq k).1, fun k => (dq k).2) := ⟨_, rfl⟩
  have hK : va_K D pCl (pTyl.map fun t => (ca t, t)) s := by
    subst hDe
    refine ⟨fun k q hq => hdq k q hq, fun k q hq => ?_⟩
    rw [List.getElem?_map] at hq
    obtain ⟨t, h1, rfl⟩ := Option.map_eq_some_iff.mp hq
    exact hca t (List.mem_of_getElem? h1)
  have hF : x_Fix (osO fv) xTT D pCl pTyl ca b0 s.heap.size (sZ (L, xs)) [] pm316 p s m #[Value.ref (b0 0)] meth c := ⟨hx, hb, hml, hr, hmn, hown, htT, hK, hXO, rfl, hlocks⟩
  have hI : x_Inv D pCl pTyl ca b0 s.heap.size s [] [] s.heap [] 0 0 := ⟨fun k q h => (by cases h), va_S.rf, rfl, rfl, fun e he => (by cases he)⟩
  have hl := lv_entry ([.ref (b0 0)]) (n := 4) (Nat.le_of_ble_eq_true rfl)
  rw [lg_entry_eq]
  generalize (lg_sl ([.ref (b0 0)]) ++ List.replicate (4 - (lg_sl ([.ref (b0 0)])).length) Slot.unset).toArray = ls at hl ⊢
  have hl : lv_has ls 4 [(0, .ref (b0 0))] := hl
  have hokI := fun pc x h => (ok316 (fv := fv)).2.2 pc x h
  have hOK := pOK (fv := fv)
  have hSt0 : ∀ b1 : Nat → Nat, ∀ s1 : Nat × (Nat → Int32), x_St (osO fv) l xTT 40 D pCl pTyl ca b1 s.heap.size (sZ s1) pcL pcC := fun b1 s1 => pSt hfv
  have hO : ∀ (U : State) (H : Heap), x_O (osO fv) b0 s.heap.size (sZ (L, xs)) U H → x_O (osO fv) (fun p => if p = 0 then b0 1 else b0 p) s.heap.size kS U H := by
    intro U H h
    obtain ⟨h1, h2, h3, h4, h5, adV', h6⟩ := h
    refine ⟨fun p hp => ?_, ?_, ?_, h4, h5, adV', ?_⟩
    · rcases (show p = 0 ∨ p = 1 ∨ p = 2 ∨ p = 3 by omega) with rfl | rfl | rfl | rfl
      · exact h1 1 (by decide)
      · exact h1 1 (by decide)
      · exact h1 2 (by decide)
      · exact h1 3 (by decide)
    · exact List.forall_mem_cons.mpr ⟨h2 _ (List.Mem.head _), List.forall_mem_cons.mpr ⟨h2 _ (List.Mem.tail _ (List.Mem.head _)), List.forall_mem_cons.mpr ⟨h2 _ (List.Mem.tail _ (List.Mem.tail _ (List.Mem.head _))), fun _ h => absurd h List.not_mem_nil⟩⟩⟩
    · exact List.forall_mem_cons.mpr ⟨h3 _ (List.Mem.head _), List.forall_mem_cons.mpr ⟨h3 _ (List.Mem.tail _ (List.Mem.head _)), List.forall_mem_cons.mpr ⟨h3 _ (List.Mem.tail _ (List.Mem.tail _ (List.Mem.head _))), List.forall_mem_cons.mpr ⟨h3 _ (List.Mem.tail _ (List.Mem.tail _ (List.Mem.tail _ (List.Mem.head _)))), fun _ h => absurd h List.not_mem_nil⟩⟩⟩⟩
    · have e : (fun i => (fun p => if p = 0 then b0 1 else b0 p) (4 + i)) = fun i => b0 (4 + i) := funext fun i => if_neg (by omega)
      rw [e]
      exact h6
  have hKm : ∀ (j : Nat) (M' : xM), pP j = some M' → M'.2.2.1 + 19 ≤ 40 := fun j M' h => (hOK.2.2.2 j M' h).1
  -- new WorkMeter
  refine x_heap_ok (st := []) (k := xK 3 [.ref 8] kx1) (res := (none, [])) pCL hF (hokI 0 (.new 7, 3, (11, 0, 0, 0), .null, none) rfl) hI (xK_t 3 [.ref 8] kx1) (fun pc' st' u' h => ?_) (fun pc' st' u' H1 locs1 cells1 slots1 h hI1 => ?_)
  · obtain ⟨-, -, rfl⟩ := xK_j h
    exact ⟨Nat.le_of_ble_eq_true rfl, Nat.le_of_ble_eq_true rfl⟩
  obtain ⟨rfl, rfl, rfl⟩ := xK_j h
  refine lv_dup hx hb (show decode code 3 = .ok (.dup, 1) by decide +kernel) rfl ?_
  refine x_inv_ok (K := 40) (d := 2000) (st := [.ref 8, .ref 8]) (call := xCa 0 [Value.ref 8] kx1 (none, U1)) (k := xK 7 [Value.ref 8] U1) (res := (none, [])) xTT_ok hKm (by decide) (fun j As u z M' hc hM' hu => ?_) hF (hokI 4 (.invokespecial 9, 3, (0, 0, 2, 11), .null, none) rfl) rfl (by decide) hI1 hl.1 (Nat.le_of_ble_eq_true rfl) (Nat.le_of_ble_eq_true rfl) ?_ (fun pc' st' u' h => ?_) (fun pc' st' u' H2 locs2 cells2 slots2 h hI2 => ?_)
  · obtain ⟨rfl, rfl, rfl, rfl⟩ := xCa_i hc
    have hc1 : x_exec kS pDf pP 20000 1999 0 0 (lv_args 0 [.ref 8]) [] kx1 = some (none, U1) := f1
    obtain ⟨g1, g2⟩ := x_exec_len _ _ _ _ _ _ _ _ hc1
    refine ⟨1999, rfl, g1, g2, x_metS hOK (hSt0 _ _) hO hM' hc1 ?_ rfl rfl (kNor_ws _ _ f1n) rfl hu⟩
    have hM' : some pm0 = some M' := hM'
    cases hM'
    decide
  · show x_low [Value.ref 8] ((xCa 0 [Value.ref 8] kx1 (none, U1) 0 [Value.ref 8] kx1).bind fun z : xR => xK 7 [Value.ref 8] U1 7 (z.1.toList ++ [Value.ref 8]) z.2) = _
    rw [xCa_t]
    show x_low [Value.ref 8] (xK 7 [Value.ref 8] U1 7 [Value.ref 8] U1) = _
    rw [xK_t]
    rfl
  · obtain ⟨-, -, rfl⟩ := xK_j h
    exact ⟨by rw [f1l]; exact Nat.le_of_ble_eq_true rfl, f1s⟩
  obtain ⟨rfl, rfl, rfl⟩ := xK_j h
  refine lv_astore_n (lv' := [(1, .ref s.heap.size), (0, .ref (b0 0))]) hx hb (show decode code 7 = .ok (.astore_n 1, 1) by decide +kernel) rfl hl (by decide) rfl (fun ls1 hl1 => ?_)
  -- new WorkMeterModel
  refine x_heap_ok (st := []) (k := xK 11 [.ref (U1.length + 8)] (U1 ++ [Sum.inr (12, pDf 12)])) (res := (none, [])) pCL hF (hokI 8 (.new 10, 3, (12, 0, 0, 0), .null, none) rfl) hI2 (xK_t 11 [.ref (U1.length + 8)] (U1 ++ [Sum.inr (12, pDf 12)])) (fun pc' st' u' h => ?_) (fun pc' st' u' H3 locs3 cells3 slots3 h hI3 => ?_)
  · obtain ⟨-, -, rfl⟩ := xK_j h
    refine ⟨?_, ?_⟩
    · rw [List.length_append, f1l]
      exact Nat.le_of_ble_eq_true rfl
    · exact fxs
  obtain ⟨rfl, rfl, rfl⟩ := xK_j h
  rw [f1l]
  refine lv_dup hx hb (show decode code 11 = .ok (.dup, 1) by decide +kernel) rfl ?_
  refine x_inv_ok (K := 40) (d := 2000) (st := [.ref 116, .ref 116]) (call := xCa 201 [Value.ref 116] (U1 ++ [Sum.inr (12, pDf 12)]) (none, U2)) (k := xK 15 [Value.ref 116] U2) (res := (none, [])) xTT_ok hKm (by decide) (fun j As u z M' hc hM' hu => ?_) hF (hokI 12 (.invokespecial 12, 3, (201, 0, 2, 12), .null, none) rfl) rfl (by decide) hI3 hl1.1 (Nat.le_of_ble_eq_true rfl) (Nat.le_of_ble_eq_true rfl) ?_ (fun pc' st' u' h => ?_) (fun pc' st' u' H4 locs4 cells4 slots4 h hI4 => ?_)
  · obtain ⟨rfl, rfl, rfl, rfl⟩ := xCa_i hc
    have hc2 : x_exec kS pDf pP 20000 1999 201 0 (lv_args 0 [.ref 116]) [] (U1 ++ [Sum.inr (12, pDf 12)]) = some (none, U2) := f2
    obtain ⟨g1, g2⟩ := x_exec_len _ _ _ _ _ _ _ _ hc2
    have hn12 : (U1 ++ [Sum.inr (12, pDf 12)]).all kNor1 = true := by
      rw [List.all_append, f1n]
      rfl
    refine ⟨1999, rfl, g1, g2, x_metS hOK (hSt0 _ _) hO hM' hc2 ?_ rfl (kNor_ws _ _ hn12) (kNor_ws _ _ f2n) rfl hu⟩
    have hM' : some pm201 = some M' := hM'
    cases hM'
    decide
  · have e1 : (U1 ++ [Sum.inr (12, pDf 12)] : List xC)[108]? = some (Sum.inr (12, pDf 12)) := by
      rw [List.getElem?_append_right (by rw [f1l]; exact Nat.le_refl _), f1l]
      rfl
    show (match (U1 ++ [Sum.inr (12, pDf 12)] : List xC)[108]? with
        | some (.inr (ci, _)) => if ci = 12 then x_low [Value.ref 116] ((xCa 201 [Value.ref 116] (U1 ++ [Sum.inr (12, pDf 12)]) (none, U2) 201 [Value.ref 116] (U1 ++ [Sum.inr (12, pDf 12)])).bind fun z : xR => xK 15 [Value.ref 116] U2 15 (z.1.toList ++ [Value.ref 116]) z.2) else none
        | _ => none) = _
    rw [e1]
    show x_low [Value.ref 116] ((xCa 201 [Value.ref 116] (U1 ++ [Sum.inr (12, pDf 12)]) (none, U2) 201 [Value.ref 116] (U1 ++ [Sum.inr (12, pDf 12)])).bind fun z : xR => xK 15 [Value.ref 116] U2 15 (z.1.toList ++ [Value.ref 116]) z.2) = _
    rw [xCa_t]
    show x_low [Value.ref 116] (xK 15 [Value.ref 116] U2 15 [Value.ref 116] U2) = _
    rw [xK_t]
    rfl
  · obtain ⟨-, -, rfl⟩ := xK_j h
    exact ⟨by rw [f2l]; exact Nat.le_of_ble_eq_true rfl, f2s⟩
  obtain ⟨rfl, rfl, rfl⟩ := xK_j h
  refine lv_astore_n (lv' := [(2, .ref (s.heap.size + 108)), (1, .ref s.heap.size), (0, .ref (b0 0))]) hx hb (show decode code 15 = .ok (.astore_n 2, 1) by decide +kernel) rfl hl1 (by decide) rfl (fun ls2 hl2 => ?_)
  refine lv_iconst (v := 0) hx hb (show decode code 16 = .ok (.iconst 0, 1) by decide +kernel) rfl ?_
  refine lv_istore_n (lv' := [(3, .int 0), (2, .ref (s.heap.size + 108)), (1, .ref s.heap.size), (0, .ref (b0 0))]) hx hb (show decode code 17 = .ok (.istore_n 3, 1) by decide +kernel) rfl hl2 (by decide) rfl (fun ls3 hl3 => ?_)
  -- the loop
  have hv40 : z_val lL 4 40 := lL_val 0 (by decide)
  have hv44 : z_val lL 4 44 := lL_val 108 (by decide)
  have hloop := law_loop (s := (L, xs)) (d := 2000) (by decide) (show L ≤ 3072 by omega) 513 0 (mIni U2) 0 hJ0 hRel0 (by omega) (show (L : Int) - 0 < 6 * ((513 : Nat) : Int) by omega) (by decide)
  obtain ⟨cn, r, m', hex, -, -, hr1⟩ := hloop (fun q hq => by
    simp only [List.mem_cons, List.not_mem_nil, or_false] at hq
    rcases hq with rfl | rfl | rfl | rfl
    · exact .inl ⟨rfl, by decide⟩
    · exact .inr hv40
    · exact .inr hv44
    · exact ⟨by decide, by decide⟩) (fun v hv => by cases hv) hmok
  subst hr1
  have hex0 := hex 0
  rw [Nat.zero_add, show z_u (EE (L, xs)).2.2.2 (mIni U2) = U2 from hu2] at hex0
  refine x_sound hOK (hSt0 b0 (L, xs)) cn 2000 316 pm316 rfl p e room_1 s m #[Value.ref (b0 0)] below meth c (lw_Z below #[Value.ref (b0 0)] s) [] (some (.int 1), z_u lL m') hF (Nat.le_of_ble_eq_true rfl) (Nat.le_of_ble_eq_true rfl) ?_ ?_ ?_ 18 [(0, .ref 0), (1, .ref 8), (2, .ref 116), (3, .int 0)] [] U2 H4 locs4 cells4 slots4 ls3 hex0 hI4 (lv_sub hl3 [3, 2, 1, 0] rfl)
  · show (z_u lL m').length ≤ 600000 + 0
    unfold z_u
    rw [List.length_map, List.length_range]
    exact Nat.le_of_ble_eq_true rfl
  · show x_sz (z_u lL m') ≤ 7302250 + 0
    rw [kszu m' (mIni U2), hu2]
    exact f2s
  · intro i k pc st u H locs cells slots ls hd hr9 hI9
    obtain ⟨rfl, rfl, rfl⟩ := x_ret_bool hr9
    have e9 := x_ret_u hr9
    obtain ⟨-, hS9, g1, g2, -⟩ := hI9
    refine va_forget (fun q hq => hS9.2.2 q hq) ?_
    refine W.widen (k := 600000) (n := 7302250) ?_ ?_ ?_
    · have h9 : u.length = 115 := by
        rw [← e9]
        show (z_u lL m').length = 115
        unfold z_u
        rw [List.length_map, List.length_range]
        rfl
      have g1 : cells + 0 = u.length := g1
      omega
    · have h9 : x_sz u ≤ 7302250 := by
        rw [← e9]
        show x_sz (z_u lL m') ≤ 7302250
        rw [kszu m' (mIni U2), hu2]
        exact f2s
      have g2 : slots + 0 = x_sz u := g2
      omega
    · exact lw_ret hx hb hr hlocks hd

