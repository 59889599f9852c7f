/-! length and charAt of a text: the JDK's own methods, walked. -/
section
variable {l : Launch} {os : xT} {T : List Jvm.Cond} {D : va_G} {cl : List vw_C} {tyl : List FieldType} {ca : FieldType → ClassId} {b0 : Nat → Nat} {b : Nat} {scr : xZ} {u : List xC} {K : Nat}
def s_Pc (os : xT) (D : va_G) (cl : List vw_C) (tyl : List FieldType) (ca : FieldType → ClassId) (b0 : Nat → Nat) (b : Nat) (scr : xZ) (Z : State → Prop) (As : List Value) (u : List xC) : Array Value → State → Prop :=
  va_Pc As (fun U => (U.heap.size = b + u.length ∧ va_P D cl (x_ws ca b0 b b u) U.heap ∧ va_K D cl (tyl.map fun t => (ca t, t)) U ∧ x_O os b0 b scr U U.heap) ∧ Z U)
theorem s_blind {Z : State → Prop} (hZ : ∀ U V : State, U.vm.Alike V.vm → V.heap = U.heap → Z U → Z V) {As : List Value} : FrameBlind (s_Pc os D cl tyl ca b0 b scr Z As u) := by
  intro a U g mk q
  obtain ⟨q0, ⟨q1, qP, qK, qX⟩, qZ⟩ := q
  exact ⟨q0, ⟨q1, qP, va_K.moved (u := U) (U := U.calling g mk a) (Vm.Alike.refl U.vm) qK, x_O.moved (u := U) (U := U.calling g mk a) (Vm.Alike.refl U.vm) (fun _ _ h => h.same rfl) (fun _ _ h => h.same rfl rfl) qX⟩, hZ U (U.calling g mk a) (Vm.Alike.refl U.vm) rfl qZ⟩
theorem s_met {y : MethodName} {cc : ByteArray} {n k : Nat} {ret : Option FieldType} {As : List Value} {z : Option Value} {Z : State → Prop} {Pc : Array Value → State → Prop} (hp : plainName y.cls = true) (hPc : ∀ a U, Pc a U → a = As.toArray ∧ (U.heap.size = b + u.length ∧ va_P D cl (x_ws ca b0 b b u) U.heap ∧ va_K D cl (tyl.map fun t => (ca t, t)) U ∧ x_O os b0 b scr U U.heap) ∧ Z U) (hcat : (As.map fun v => v.category).sum ≤ n) (hu : x_oku tyl u)
    (kk : ∀ (p : Program) (e : Env) (s : State) (m : MethodId) (below : List Frame) (meth : Method) (c : Code) (ls : Array Slot), x_Fix os T D cl tyl ca b0 b scr u (y, cc, n, ret, fun _ => none) p s m As.toArray meth c → x_Inv D cl tyl ca b0 b s u u s.heap [] 0 0 → lv_has ls n (lv_args 0 As) → Z s → W p l e (x_rm K k 0 0) s m As.toArray below meth c s.heap [] 0 0 (MQ below (x_Qc D cl tyl ca b0 b (z, u)) As.toArray s 0 0 (fun q => b ≤ q)) (F0 m 0 ls [])) :
    Met l y (Jvm.Cond.code y cc n ret :: T) (x_rm K k 0 0) Pc (x_Qc D cl tyl ca b0 b (z, u)) 0 0 (fun q => b ≤ q) := by
  refine Met.ofW (cc := cc) (maxL := n) (ret := ret) hp rfl ?_
  intro p e s m args below meth c s₁ B hml hv
  obtain ⟨rfl, ⟨hsz, hP, hK, hX⟩, hZ⟩ := hPc _ _ hv
  have hts := atoms_spec (ws := Jvm.Cond.code y cc n ret :: T) B.pre
  have hl' := lv_entry As (n := n) (by rw [x_sl_len]; exact hcat)
  rw [lg_entry_eq]
  generalize (lg_sl As ++ List.replicate (n - (lg_sl As).length) Slot.unset).toArray = ls at hl' ⊢
  exact kk p e s m below meth c ls ⟨B.exec, B.bytes, hml, B.returns, (name_of_methodNamed B.named B.method).1, findClass_of_methodNamed B.named, fun w hw => hts w (List.mem_cons_of_mem _ hw), hK, hX, hsz, B.notSynchronized⟩ ⟨hP, va_S.rf, by omega, by omega, hu⟩ hl' hZ
variable {p : Program} {e : Env} {s : State} {m : MethodId} {args : Array Value} {below : List Frame} {meth : Method} {c : Code} {H : Heap} {locs : List Loc} {Q : State → Prop} {pc k : Nat} {ls : Array Slot} {M : xM}
theorem s_calls (hT : ∀ w ∈ T, (w.onTables && w.keeps) = true ∨ ∃ ty, w = .arrayClass ty) (hF : x_Fix os T D cl tyl ca b0 b scr u M p s m args meth c) (hI : x_Inv D cl tyl ca b0 b s u u H locs 0 0) (hls : ls.size = M.2.2.1)
    {y : MethodName} {cc : ByteArray} {n k' idx : Nat} {ret : Option FieldType} {As rest : List Value} {z : Option Value} {Z : State → Prop} (hZ : ∀ U V : State, U.vm.Alike V.vm → V.heap = U.heap → Z U → Z V) (hZ1 : ∀ U : State, s.vm.Alike U.vm → U.heap = H → Z U) (hMet : Met l y (Jvm.Cond.code y cc n ret :: T) (x_rm K k' 0 0) (s_Pc os D cl tyl ca b0 b scr Z As u) (x_Qc D cl tyl ca b0 b (z, u)) 0 0 (fun q => b ≤ q))
    (wl : Jvm.Cond.methodLink M.1.cls idx y ∈ T) (wi : Jvm.Cond.initialized y.cls ∈ T) (wc : Jvm.Cond.code y cc n ret ∈ T) (ws : Jvm.Cond.static y ∈ T) (hnm : y.cls ≠ "java/lang/invoke/MethodHandle" ∧ y.cls ≠ "java/lang/invoke/VarHandle" ∧ (parseMethodDescriptor y.desc).map (fun d => d.parameters.length) = some As.length)
    (hk : k' + 1 ≤ k) (hn : n + 19 ≤ K) (hlow : (rest.map fun v => v.category).sum ≤ 8) (hd : decode M.2.1 pc = .ok (.invokestatic idx, 3)) (hz : z.map (x_v b0 b) = z)
    (kk : ∀ (H1 : Heap) (locs1 : List Loc), x_Inv D cl tyl ca b0 b s u u H1 locs1 0 0 → W p l e (x_rm K k 0 0) s m args below meth c H1 locs1 0 0 Q (F0 m (pc + 3) ls (z.toList ++ rest))) :
    W p l e (x_rm K k 0 0) s m args below meth c H locs 0 0 Q (F0 m pc ls (As.reverse ++ rest)) := by
  obtain ⟨hx, hb, hml, hr, hmn, hown, hts, hKK, hX, hsz, hlocks⟩ := hF
  obtain ⟨hP, hS, hc1, hc2, hu⟩ := hI
  refine x_size (fun hz0 => ?_)
  have hlow0 : b + u.length ≤ H.size := x_lower hP (by have := hS.1; omega)
  have hHs : H.size = b + u.length := by omega
  have hXH : x_O os b0 b scr s H := hX.kept hS.2.1
  have hpre : ∀ U : State, U.heap = H → s.WarmedH U.vm → s_Pc os D cl tyl ca b0 b scr Z As u As.toArray U := fun U hU hW => ⟨rfl, ⟨by rw [hU]; exact hHs, by rw [hU]; exact hP, va_K.moved hW.alike hKK, by rw [hU]; exact hXH.moved hW.alike (fun _ _ h9 => h9.warm hW) (fun _ _ h9 => h9.warmM hW)⟩, hZ1 U hW.alike hU⟩
  have hFix : CallFix p m c M.2.1 M.2.2.1 s args T M.1.cls := ⟨hx, hb, hml, hown, hts⟩
  have hG : GoodIn T (Jvm.Cond.code y cc n ret :: T) := by
    intro w hw
    rcases List.mem_cons.mp hw with rfl | hw
    · exact ⟨wc, hT _ wc⟩
    · exact ⟨hw, hT _ hw⟩
  have hRm : (x_rm K k' 0 0).frames + 1 ≤ (x_rm K k 0 0).frames ∧ 8 + (n + 11) + (x_rm K k' 0 0).locals ≤ (x_rm K k 0 0).locals := by
    refine ⟨hk, ?_⟩
    show 8 + (n + 11) + k' * K ≤ k * K
    have h9 : (k' + 1) * K ≤ k * K := Nat.mul_le_mul_right K hk
    rw [Nat.add_mul, Nat.one_mul] at h9
    omega
  refine x_callR (D := D) (cl := cl) (tyl := tyl) (ca := ca) (b0 := b0) (b := b) (z := (z, u)) (mc := 0) (ms := 0) (rest := rest) (arr := As.toArray) ?_ hS (fun H1 locs1 hP1 hS1 hu1 => ?_)
  · exact va_runS hFix hMet ⟨callB_of As.length hts hG rfl rfl rfl (hts _ wi) (hts _ wl) hnm hRm, hts _ ws⟩ ⟨s_blind hZ, hpre⟩ rfl rfl hls rfl (lv_room hlow) hd ⟨Nat.le_refl _, Nat.le_refl _⟩
  · have h9 := kk H1 locs1 ⟨hP1, hS1, hc1, hc2, hu1⟩
    show W p l e (x_rm K k 0 0) s m args below meth c H1 locs1 0 0 Q (F0 m (pc + 3) ls ((z.map (x_v b0 b)).toList ++ rest))
    rw [hz]
    exact h9
theorem s_callv (hT : ∀ w ∈ T, (w.onTables && w.keeps) = true ∨ ∃ ty, w = .arrayClass ty) (hF : x_Fix os T D cl tyl ca b0 b scr u M p s m args meth c) (hI : x_Inv D cl tyl ca b0 b s u u H locs 0 0) (hls : ls.size = M.2.2.1)
    {y : MethodName} {cc : ByteArray} {n k' idx p0 : Nat} {ret : Option FieldType} {As rest : List Value} {z : Option Value} {Z : State → Prop} (hZ : ∀ U V : State, U.vm.Alike V.vm → V.heap = U.heap → Z U → Z V) (hZ1 : ∀ U : State, s.vm.Alike U.vm → U.heap = H → Z U) (h4 : 4 ≤ p0) (h8 : p0 < 8) (hcls : y.cls = "java/lang/String") (hMet : Met l y (Jvm.Cond.code y cc n ret :: T) (x_rm K k' 0 0) (s_Pc os D cl tyl ca b0 b scr Z (.ref (b0 p0) :: As) u) (x_Qc D cl tyl ca b0 b (z, u)) 0 0 (fun q => b ≤ q))
    (wl : Jvm.Cond.methodLink M.1.cls idx y ∈ T) (wi : Jvm.Cond.initialized y.cls ∈ T) (wc : Jvm.Cond.code y cc n ret ∈ T) (wm : Jvm.Cond.instanceMethod y ∈ T) (ws : Jvm.Cond.selects "java/lang/String" y y ∈ T) (hnm : y.cls ≠ "java/lang/invoke/MethodHandle" ∧ y.cls ≠ "java/lang/invoke/VarHandle" ∧ (parseMethodDescriptor y.desc).map (fun d => d.parameters.length) = some As.length)
    (hk : k' + 1 ≤ k) (hn : n + 19 ≤ K) (hlow : (rest.map fun v => v.category).sum ≤ 8) (hd : decode M.2.1 pc = .ok (.invokevirtual idx, 3)) (hz : z.map (x_v b0 b) = z)
    (kk : ∀ (H1 : Heap) (locs1 : List Loc), x_Inv D cl tyl ca b0 b s u u H1 locs1 0 0 → W p l e (x_rm K k 0 0) s m args below meth c H1 locs1 0 0 Q (F0 m (pc + 3) ls (z.toList ++ rest))) :
    W p l e (x_rm K k 0 0) s m args below meth c H locs 0 0 Q (F0 m pc ls (As.reverse ++ .ref (b0 p0) :: rest)) := by
  obtain ⟨hx, hb, hml, hr, hmn, hown, hts, hKK, hX, hsz, hlocks⟩ := hF
  obtain ⟨hP, hS, hc1, hc2, hu⟩ := hI
  refine x_size (fun hz0 => ?_)
  have hlow0 : b + u.length ≤ H.size := x_lower hP (by have := hS.1; omega)
  have hHs : H.size = b + u.length := by omega
  have hXH : x_O os b0 b scr s H := hX.kept hS.2.1
  have hpre : ∀ U : State, U.heap = H → s.WarmedH U.vm → s_Pc os D cl tyl ca b0 b scr Z (.ref (b0 p0) :: As) u (Value.ref (b0 p0) :: As).toArray U := fun U hU hW => ⟨rfl, ⟨by rw [hU]; exact hHs, by rw [hU]; exact hP, va_K.moved hW.alike hKK, by rw [hU]; exact hXH.moved hW.alike (fun _ _ h9 => h9.warm hW) (fun _ _ h9 => h9.warmM hW)⟩, hZ1 U hW.alike hU⟩
  have hFix : CallFix p m c M.2.1 M.2.2.1 s args T M.1.cls := ⟨hx, hb, hml, hown, hts⟩
  have hG : GoodIn T (Jvm.Cond.code y cc n ret :: T) := by
    intro w hw
    rcases List.mem_cons.mp hw with rfl | hw
    · exact ⟨wc, hT _ wc⟩
    · exact ⟨hw, hT _ hw⟩
  have hRm : (x_rm K k' 0 0).frames + 1 ≤ (x_rm K k 0 0).frames ∧ 8 + (n + 11) + (x_rm K k' 0 0).locals ≤ (x_rm K k 0 0).locals := by
    refine ⟨hk, ?_⟩
    show 8 + (n + 11) + k' * K ≤ k * K
    have h9 : (k' + 1) * K ≤ k * K := Nat.mul_le_mul_right K hk
    rw [Nat.add_mul, Nat.one_mul] at h9
    omega
  have hrecv : ∃ cellB : Cell, H[b0 p0]? = some cellB ∧ cellB.vm.isStatics = false ∧ s.vm.findClass "java/lang/String" = some cellB.cls := by
    obtain ⟨adV, hv⟩ := hX.2.2.2.2.2
    have h9 := vk_recv hv (show p0 - 4 < 4 by omega) hS
    rw [show 4 + (p0 - 4) = p0 by omega] at h9
    exact h9
  refine x_callR (D := D) (cl := cl) (tyl := tyl) (ca := ca) (b0 := b0) (b := b) (z := (z, u)) (mc := 0) (ms := 0) (rest := rest) (arr := (Value.ref (b0 p0) :: As).toArray) ?_ hS (fun H1 locs1 hP1 hS1 hu1 => ?_)
  · exact va_runV (C := "java/lang/String") (b := b0 p0) (As := As) hFix hMet ⟨callB_of As.length hts hG rfl rfl rfl (hts _ wi) (hts _ wl) hnm hRm, hts _ wm, hts _ ws⟩ ⟨s_blind hZ, hrecv, hpre⟩ rfl rfl hls rfl (lv_room hlow) hd ⟨Nat.le_refl _, Nat.le_refl _⟩
  · have h9 := kk H1 locs1 ⟨hP1, hS1, hc1, hc2, hu1⟩
    show W p l e (x_rm K k 0 0) s m args below meth c H1 locs1 0 0 Q (F0 m (pc + 3) ls ((z.map (x_v b0 b)).toList ++ rest))
    rw [hz]
    exact h9
end
section
variable {l : Launch} {D : va_G} {ca : FieldType → ClassId} {b0 : Nat → Nat} {b : Nat} {s0 : Nat × (Nat → Int32)} {u : List xC} {fv : Value}
abbrev sT : State → Prop := fun _ => True
theorem sTk : ∀ U V : State, U.vm.Alike V.vm → V.heap = U.heap → sT U → sT V := fun _ _ _ _ h => h
def sB (a N : Nat) (f : Nat → Value) (b : Nat) : State → Prop := fun U => va_T .byte a N f (fun q => b ≤ q) U U.heap
theorem sBk {a N : Nat} {f : Nat → Value} : ∀ U V : State, U.vm.Alike V.vm → V.heap = U.heap → sB a N f b U → sB a N f b V := fun U V h1 h2 h => by
  unfold sB at h ⊢
  rw [h2]
  exact h.moved h1
theorem s_tx {os : xT} {scr : xZ} {s : State} {H : Heap} {p0 : Nat} (hX : x_O os b0 b scr s H) (h4 : 4 ≤ p0) (h8 : p0 < 8) : ∃ a, va_OF "java/lang/String" "coder" "B" (.int 0) (b0 p0) (fun q => b ≤ q) s H ∧ va_OF "java/lang/String" "value" "[B" (.ref a) (b0 p0) (fun q => b ≤ q) s H ∧ va_T .byte a (scr.2 p0).length (fun j => .int ((scr.2 p0).getD j 0)) (fun q => b ≤ q) s H := by
  obtain ⟨adV, hv⟩ := hX.2.2.2.2.2
  have h9 := hv.1 (p0 - 4) (by omega)
  rcases (show p0 = 4 ∨ p0 = 5 ∨ p0 = 6 ∨ p0 = 7 by omega) with rfl | rfl | rfl | rfl <;> exact ⟨_, h9.2⟩
theorem s_coder {p0 : Nat} (h4 : 4 ≤ p0) (h8 : p0 < 8) (hu : x_oku pTyl u) : Met l ⟨"java/lang/String", "coder", "()B"⟩ (Jvm.Cond.code ⟨"java/lang/String", "coder", "()B"⟩ prog_16_method_152_code 1 (some .byte) :: xTT) (x_rm 40 1 0 0) (s_Pc (osO fv) D pCl pTyl ca b0 b (sZ s0) sT [.ref (b0 p0)] u) (x_Qc D pCl pTyl ca b0 b (some (.int 0), u)) 0 0 (fun q => b ≤ q) := by
  refine s_met (by decide +kernel) (fun a U h => h) (Nat.le_refl _) hu ?_
  intro p e s m below meth c ls hF hI hl _
  obtain ⟨hx, hb, hml, hr, hmn, hown, hts, hKK, hX, hsz, hlocks⟩ := hF
  obtain ⟨hP, hS, hc1, hc2, hu⟩ := hI
  obtain ⟨a, t1, t2, t3⟩ := s_tx hX h4 h8
  refine va_gets hx hb (hX.2.2.2.2.1 _ (List.Mem.head _)) hS hown (hts _ q784) (fun _ h => h) (show decode prog_16_method_152_code 0 = .ok (.getstatic 38, 3) by decide +kernel) ?_
  refine lv_if_eq hx hb (tgt := 13) (show decode prog_16_method_152_code 3 = .ok (.ifCond .eq 10, 3) by decide +kernel) rfl (fun h => absurd h (by decide)) (fun _ => ?_)
  refine lv_aload_n hx hb (show decode prog_16_method_152_code 6 = .ok (.aload_n 0, 1) by decide +kernel) rfl (lv_at hl 0 rfl) ?_
  refine vk_getf hx hb t1 hS hown (hts _ q1838) (fun _ h => h) (show decode prog_16_method_152_code 7 = .ok (.getfield 15, 3) by decide +kernel) ?_
  refine lv_goto hx hb (tgt := 14) (show decode prog_16_method_152_code 10 = .ok (.goto 4, 3) by decide +kernel) rfl ?_
  exact W.zret hx hb hr rfl (fun t ht hW => ⟨rfl, by rw [ht]; exact hP, hS.F ht, hu⟩) hS.2.2 (show decode prog_16_method_152_code 14 = .ok (.ireturn, 1) by decide +kernel) hlocks
theorem s_isL {p0 : Nat} (h4 : 4 ≤ p0) (h8 : p0 < 8) (hu : x_oku pTyl u) : Met l ⟨"java/lang/String", "isLatin1", "()Z"⟩ (Jvm.Cond.code ⟨"java/lang/String", "isLatin1", "()Z"⟩ prog_16_method_154_code 1 (some .boolean) :: xTT) (x_rm 40 1 0 0) (s_Pc (osO fv) D pCl pTyl ca b0 b (sZ s0) sT [.ref (b0 p0)] u) (x_Qc D pCl pTyl ca b0 b (some (.int 1), u)) 0 0 (fun q => b ≤ q) := by
  refine s_met (by decide +kernel) (fun a U h => h) (Nat.le_refl _) hu ?_
  intro p e s m below meth c ls hF hI hl _
  obtain ⟨hx, hb, hml, hr, hmn, hown, hts, hKK, hX, hsz, hlocks⟩ := hF
  obtain ⟨hP, hS, hc1, hc2, hu⟩ := hI
  obtain ⟨a, t1, t2, t3⟩ := s_tx hX h4 h8
  refine va_gets hx hb (hX.2.2.2.2.1 _ (List.Mem.head _)) hS hown (hts _ q784) (fun _ h => h) (show decode prog_16_method_154_code 0 = .ok (.getstatic 38, 3) by decide +kernel) ?_
  refine lv_if_eq hx hb (tgt := 17) (show decode prog_16_method_154_code 3 = .ok (.ifCond .eq 14, 3) by decide +kernel) rfl (fun h => absurd h (by decide)) (fun _ => ?_)
  refine lv_aload_n hx hb (show decode prog_16_method_154_code 6 = .ok (.aload_n 0, 1) by decide +kernel) rfl (lv_at hl 0 rfl) ?_
  refine vk_getf hx hb t1 hS hown (hts _ q1838) (fun _ h => h) (show decode prog_16_method_154_code 7 = .ok (.getfield 15, 3) by decide +kernel) ?_
  refine lv_if_ne hx hb (tgt := 17) (show decode prog_16_method_154_code 10 = .ok (.ifCond .ne 7, 3) by decide +kernel) rfl (fun h => absurd rfl h) (fun _ => ?_)
  refine lv_iconst hx hb (v := 1) (show decode prog_16_method_154_code 13 = .ok (.iconst 1, 1) by decide +kernel) rfl ?_
  refine lv_goto hx hb (tgt := 18) (show decode prog_16_method_154_code 14 = .ok (.goto 4, 3) by decide +kernel) rfl ?_
  exact W.zret hx hb hr rfl (fun t ht hW => ⟨rfl, by rw [ht]; exact hP, hS.F ht, hu⟩) hS.2.2 (show decode prog_16_method_154_code 18 = .ok (.ireturn, 1) by decide +kernel) hlocks
theorem s_ckP {i n : Int32} (hfv : fv.category = 1) (h0 : ¬ i < 0) (h1 : i < n) (hu : x_oku pTyl u) : Met l ⟨"jdk/internal/util/Preconditions", "checkIndex", "(IILjava/util/function/BiFunction;)I"⟩ (Jvm.Cond.code ⟨"jdk/internal/util/Preconditions", "checkIndex", "(IILjava/util/function/BiFunction;)I"⟩ prog_21_method_11_code 3 (some .int) :: xTT) (x_rm 40 1 0 0) (s_Pc (osO fv) D pCl pTyl ca b0 b (sZ s0) sT [.int i, .int n, fv] u) (x_Qc D pCl pTyl ca b0 b (some (.int i), u)) 0 0 (fun q => b ≤ q) := by
  refine s_met (by decide +kernel) (fun a U h => h) (by show 1 + (1 + (fv.category + 0)) ≤ 3; omega) hu ?_
  intro p e s m below meth c ls hF hI hl _
  obtain ⟨hx, hb, hml, hr, hmn, hown, hts, hKK, hX, hsz, hlocks⟩ := hF
  obtain ⟨hP, hS, hc1, hc2, hu⟩ := hI
  refine lv_iload_n hx hb (show decode prog_21_method_11_code 0 = .ok (.iload_n 0, 1) by decide +kernel) rfl (lv_at hl 0 rfl) ?_
  refine lv_if_lt hx hb (tgt := 9) (show decode prog_21_method_11_code 1 = .ok (.ifCond .lt 8, 3) by decide +kernel) rfl (fun h => absurd h h0) (fun _ => ?_)
  refine lv_iload_n hx hb (show decode prog_21_method_11_code 4 = .ok (.iload_n 0, 1) by decide +kernel) rfl (lv_at hl 0 rfl) ?_
  refine lv_iload_n hx hb (show decode prog_21_method_11_code 5 = .ok (.iload_n 1, 1) by decide +kernel) rfl (lv_at hl 1 rfl) ?_
  refine lv_icmp_lt hx hb (tgt := 16) (show decode prog_21_method_11_code 6 = .ok (.if_icmp .lt 10, 3) by decide +kernel) rfl (fun _ => ?_) (fun h => absurd h1 h)
  refine lv_iload_n hx hb (show decode prog_21_method_11_code 16 = .ok (.iload_n 0, 1) by decide +kernel) rfl (lv_at hl 0 rfl) ?_
  exact W.iret hx hb hr (fun t ht hW => ⟨rfl, by rw [ht]; exact hP, hS.F ht, hu⟩) hS.2.2 (show decode prog_21_method_11_code 17 = .ok (.ireturn, 1) by decide +kernel) hlocks
theorem s_ckS {i n : Int32} (hfv : fv.category = 1) (h0 : ¬ i < 0) (h1 : i < n) (hu : x_oku pTyl u) : Met l ⟨"java/lang/String", "checkIndex", "(II)V"⟩ (Jvm.Cond.code ⟨"java/lang/String", "checkIndex", "(II)V"⟩ prog_16_method_155_code 2 none :: xTT) (x_rm 40 2 0 0) (s_Pc (osO fv) D pCl pTyl ca b0 b (sZ s0) sT [.int i, .int n] u) (x_Qc D pCl pTyl ca b0 b (none, u)) 0 0 (fun q => b ≤ q) := by
  refine s_met (by decide +kernel) (fun a U h => h) (Nat.le_refl _) hu ?_
  intro p e s m below meth c ls hF hI hl _
  have hF0 := hF
  obtain ⟨hx, hb, hml, hr, hmn, hown, hts, hKK, hX, hsz, hlocks⟩ := hF
  have hS := hI.2.1
  refine lv_iload_n hx hb (show decode prog_16_method_155_code 0 = .ok (.iload_n 0, 1) by decide +kernel) rfl (lv_at hl 0 rfl) ?_
  refine lv_iload_n hx hb (show decode prog_16_method_155_code 1 = .ok (.iload_n 1, 1) by decide +kernel) rfl (lv_at hl 1 rfl) ?_
  refine va_gets hx hb (hX.2.2.2.2.1 _ (List.Mem.tail _ (List.Mem.head _))) hS hown (hts _ q800) (fun _ h => h) (show decode prog_16_method_155_code 2 = .ok (.getstatic 1053, 3) by decide +kernel) ?_
  refine s_calls (As := [.int i, .int n, fv]) (rest := []) (idx := 1059) (k' := 1) xTT_ok hF0 hI hl.1 sTk (fun _ _ _ => trivial) (s_ckP hfv h0 h1 hu) q802 q19 q804 q803 ⟨by decide +kernel, by decide +kernel, show (parseMethodDescriptor "(IILjava/util/function/BiFunction;)I").map (fun d => d.parameters.length) = some 3 by decide +kernel⟩ (by decide) (by decide) (by decide) (show decode prog_16_method_155_code 5 = .ok (.invokestatic 1059, 3) by decide +kernel) rfl (fun H1 locs1 hI1 => ?_)
  refine lv_pop hx hb (show decode prog_16_method_155_code 8 = .ok (.pop, 1) by decide +kernel) rfl ?_
  obtain ⟨hP, hS, hc1, hc2, hu⟩ := hI1
  exact W.vret hx hb hr (fun t ht hW => ⟨rfl, by rw [ht]; exact hP, hS.F ht, hu⟩) hS.2.2 (show decode prog_16_method_155_code 9 = .ok (.return_, 1) by decide +kernel) hlocks
theorem s_l1 {a N : Nat} {f : Nat → Int32} {i r : Int32} (hfv : fv.category = 1) (hN : N < 2147483648) (hin : vp_in i N) (hv : ((f i.toNatClampNeg &&& 255).toUInt32 % 65536).toInt32 = r) (hn : narrow .char (.int r) = .int r) (hu : x_oku pTyl u) : Met l ⟨"java/lang/StringLatin1", "charAt", "([BI)C"⟩ (Jvm.Cond.code ⟨"java/lang/StringLatin1", "charAt", "([BI)C"⟩ prog_17_method_2_code 2 (some .char) :: xTT) (x_rm 40 3 0 0) (s_Pc (osO fv) D pCl pTyl ca b0 b (sZ s0) (sB a N (fun j => .int (f j)) b) [.ref a, .int i] u) (x_Qc D pCl pTyl ca b0 b (some (.int r), u)) 0 0 (fun q => b ≤ q) := by
  refine s_met (Z := sB a N (fun j => .int (f j)) b) (by decide +kernel) (fun a U h => h) (Nat.le_refl _) hu ?_
  intro p e s m below meth c ls hF hI hl hZ
  have hF0 := hF
  obtain ⟨hx, hb, hml, hr, hmn, hown, hts, hKK, hX, hsz, hlocks⟩ := hF
  have hS := hI.2.1
  have h0 : ¬ i < 0 := fun h => hin (.inl h)
  have h1 : i < Int32.ofNat N := by
    have h9 : i.toNatClampNeg < N := Nat.not_le.mp fun q => hin (.inr q)
    have h8 : (0 : Int) ≤ i.toInt := by simpa using Int32.le_iff_toInt_le.mp (Int32.not_lt.mp h0)
    have h7 : i.toInt.toNat < N := h9
    rw [Int32.lt_iff_toInt_lt, Int32.toInt_ofNat_of_lt (by omega)]
    omega
  refine lv_iload_n hx hb (show decode prog_17_method_2_code 0 = .ok (.iload_n 1, 1) by decide +kernel) rfl (lv_at hl 1 rfl) ?_
  refine lv_aload_n hx hb (show decode prog_17_method_2_code 1 = .ok (.aload_n 0, 1) by decide +kernel) rfl (lv_at hl 0 rfl) ?_
  refine va_tlen hx hb hZ hS rfl (show decode prog_17_method_2_code 2 = .ok (.arraylength, 1) by decide +kernel) ?_
  refine s_calls (As := [.int i, .int (Int32.ofNat N)]) (rest := []) (idx := 9) (k' := 2) xTT_ok hF0 hI hl.1 sTk (fun _ _ _ => trivial) (s_ckS hfv h0 h1 hu) q797 q17 q799 q798 ⟨by decide +kernel, by decide +kernel, show (parseMethodDescriptor "(II)V").map (fun d => d.parameters.length) = some 2 by decide +kernel⟩ (by decide) (by decide) (by decide) (show decode prog_17_method_2_code 3 = .ok (.invokestatic 9, 3) by decide +kernel) rfl (fun H1 locs1 hI1 => ?_)
  obtain ⟨hP, hS, hc1, hc2, hu⟩ := hI1
  refine lv_aload_n hx hb (show decode prog_17_method_2_code 6 = .ok (.aload_n 0, 1) by decide +kernel) rfl (lv_at hl 0 rfl) ?_
  refine lv_iload_n hx hb (show decode prog_17_method_2_code 7 = .ok (.iload_n 1, 1) by decide +kernel) rfl (lv_at hl 1 rfl) ?_
  refine va_tb hx hb hZ hS hin rfl (show decode prog_17_method_2_code 8 = .ok (.baload, 1) by decide +kernel) ?_
  refine lv_sipush hx hb (v := 255) (show decode prog_17_method_2_code 9 = .ok (.sipush 255, 3) by decide +kernel) (by decide) ?_
  refine lv_iand hx hb (show decode prog_17_method_2_code 12 = .ok (.iand, 1) by decide +kernel) ?_
  refine lv_i2c hx hb (show decode prog_17_method_2_code 13 = .ok (.i2c, 1) by decide +kernel) hv ?_
  exact W.zret hx hb hr hn (fun t ht hW => ⟨rfl, by rw [ht]; exact hP, hS.F ht, hu⟩) hS.2.2 (show decode prog_17_method_2_code 14 = .ok (.ireturn, 1) by decide +kernel) hlocks
theorem s_chars {p0 : Nat} (h4 : 4 ≤ p0) (h8 : p0 < 8) (j : Nat) : (((((sZ s0).2 p0).getD j 0) &&& 255).toUInt32 % 65536).toInt32 = ((sZ s0).2 p0).getD j 0 ∧ narrow .char (.int (((sZ s0).2 p0).getD j 0)) = .int (((sZ s0).2 p0).getD j 0) := by
  have key : ∀ (L : List Int32), (L.all fun x => decide (((x &&& 255).toUInt32 % 65536).toInt32 = x) && decide (narrow .char (.int x) = .int x)) = true → ∀ n : Nat, ((L.getD n 0 &&& 255).toUInt32 % 65536).toInt32 = L.getD n 0 ∧ narrow .char (.int (L.getD n 0)) = .int (L.getD n 0) := by
    intro L hL n
    rw [List.getD_eq_getElem?_getD]
    cases h : L[n]? with
    | none => exact ⟨by decide, by decide⟩
    | some x =>
      have h1 := List.all_eq_true.mp hL x (List.mem_of_getElem? h)
      simp only [Bool.and_eq_true, decide_eq_true_eq] at h1
      exact h1
  rcases (show p0 = 4 ∨ p0 = 5 ∨ p0 = 6 ∨ p0 = 7 by omega) with rfl | rfl | rfl | rfl
  · exact key sW4 (by decide) j
  · exact key sW5 (by decide) j
  · exact key sW6 (by decide) j
  · exact key sW7 (by decide) j
theorem pSt (hfv : fv.category = 1) : x_St (osO fv) l xTT 40 D pCl pTyl ca b0 b (sZ s0) pcL pcC := by
  intro p0 u h4 h8 hu
  have hlen : ((sZ s0).2 p0).length < 2147483648 ∧ (Int32.ofNat ((sZ s0).2 p0).length) >>> ((0 : Int32) &&& 31) = Int32.ofNat ((sZ s0).2 p0).length := by
    rcases (show p0 = 4 ∨ p0 = 5 ∨ p0 = 6 ∨ p0 = 7 by omega) with rfl | rfl | rfl | rfl
    · exact ⟨show (5 : Nat) < 2147483648 by decide, show Int32.ofNat 5 >>> ((0 : Int32) &&& 31) = Int32.ofNat 5 by decide⟩
    · exact ⟨show (6 : Nat) < 2147483648 by decide, show Int32.ofNat 6 >>> ((0 : Int32) &&& 31) = Int32.ofNat 6 by decide⟩
    · exact ⟨show (7 : Nat) < 2147483648 by decide, show Int32.ofNat 7 >>> ((0 : Int32) &&& 31) = Int32.ofNat 7 by decide⟩
    · exact ⟨show (5 : Nat) < 2147483648 by decide, show Int32.ofNat 5 >>> ((0 : Int32) &&& 31) = Int32.ofNat 5 by decide⟩
  have hold : ∀ As : List Value, (Value.ref p0 :: As).map (x_v b0 b) = Value.ref (b0 p0) :: As.map (x_v b0 b) := fun As => by rw [List.map_cons, x_v_old (p := p0) b0 b h8]
  refine ⟨?_, fun i hi => ?_⟩
  · refine s_met (os := osO fv) (scr := sZ s0) (Z := sT) (As := [.ref (b0 p0)]) (by decide +kernel) (fun a U h => ?_) (Nat.le_refl _) hu ?_
    · obtain ⟨e1, e2⟩ := h
      refine ⟨?_, e2, trivial⟩
      rw [e1, hold []]
      rfl
    intro p e s m below meth c ls hF hI hl _
    have hF0 := hF
    obtain ⟨hx, hb, hml, hr, hmn, hown, hts, hKK, hX, hsz, hlocks⟩ := hF
    have hS := hI.2.1
    obtain ⟨a, t1, t2, t3⟩ := s_tx hX h4 h8
    refine lv_aload_n hx hb (show decode prog_16_method_54_code 0 = .ok (.aload_n 0, 1) by decide +kernel) rfl (lv_at hl 0 rfl) ?_
    refine vk_getf hx hb t2 hS hown (hts _ q1837) (fun _ h => h) (show decode prog_16_method_54_code 1 = .ok (.getfield 9, 3) by decide +kernel) ?_
    refine va_tlen hx hb t3 hS rfl (show decode prog_16_method_54_code 4 = .ok (.arraylength, 1) by decide +kernel) ?_
    refine lv_aload_n hx hb (show decode prog_16_method_54_code 5 = .ok (.aload_n 0, 1) by decide +kernel) rfl (lv_at hl 0 rfl) ?_
    refine s_callv (As := []) (rest := [.int (Int32.ofNat ((sZ s0).2 p0).length)]) (idx := 335) (k' := 1) (p0 := p0) xTT_ok hF0 hI hl.1 sTk (fun _ _ _ => trivial) h4 h8 rfl (s_coder h4 h8 hu) q780 q17 q783 q781 q782 ⟨by decide +kernel, by decide +kernel, show (parseMethodDescriptor "()B").map (fun d => d.parameters.length) = some 0 by decide +kernel⟩ (by decide) (by decide) (show (1 : Nat) ≤ 8 by decide) (show decode prog_16_method_54_code 6 = .ok (.invokevirtual 335, 3) by decide +kernel) rfl (fun H1 locs1 hI1 => ?_)
    obtain ⟨hP, hS, hc1, hc2, hu⟩ := hI1
    refine lv_ishr hx hb (show decode prog_16_method_54_code 9 = .ok (.ishr, 1) by decide +kernel) ?_
    rw [hlen.2]
    exact W.iret hx hb hr (fun t ht hW => ⟨rfl, by rw [ht]; exact hP, hS.F ht, hu⟩) hS.2.2 (show decode prog_16_method_54_code 10 = .ok (.ireturn, 1) by decide +kernel) hlocks
  · refine s_met (os := osO fv) (scr := sZ s0) (Z := sT) (As := [.ref (b0 p0), .int i]) (by decide +kernel) (fun a U h => ?_) (Nat.le_refl _) hu ?_
    · obtain ⟨e1, e2⟩ := h
      refine ⟨?_, e2, trivial⟩
      rw [e1, hold [.int i]]
      rfl
    intro p e s m below meth c ls hF hI hl _
    have hF0 := hF
    obtain ⟨hx, hb, hml, hr, hmn, hown, hts, hKK, hX, hsz, hlocks⟩ := hF
    obtain ⟨c1, c2⟩ := s_chars (s0 := s0) h4 h8 i.toNatClampNeg
    refine lv_aload_n hx hb (show decode prog_16_method_56_code 0 = .ok (.aload_n 0, 1) by decide +kernel) rfl (lv_at hl 0 rfl) ?_
    refine s_callv (As := []) (rest := []) (idx := 492) (k' := 1) (p0 := p0) xTT_ok hF0 hI hl.1 sTk (fun _ _ _ => trivial) h4 h8 rfl (s_isL h4 h8 hu) q790 q17 q793 q791 q792 ⟨by decide +kernel, by decide +kernel, show (parseMethodDescriptor "()Z").map (fun d => d.parameters.length) = some 0 by decide +kernel⟩ (by decide) (by decide) (by decide) (show decode prog_16_method_56_code 1 = .ok (.invokevirtual 492, 3) by decide +kernel) rfl (fun H1 locs1 hI1 => ?_)
    refine lv_if_eq hx hb (tgt := 16) (show decode prog_16_method_56_code 4 = .ok (.ifCond .eq 12, 3) by decide +kernel) rfl (fun h => absurd h (by decide)) (fun _ => ?_)
    refine lv_aload_n hx hb (show decode prog_16_method_56_code 7 = .ok (.aload_n 0, 1) by decide +kernel) rfl (lv_at hl 0 rfl) ?_
    have hS1 := hI1.2.1
    obtain ⟨a, t1, t2, t3⟩ := s_tx hX h4 h8
    refine vk_getf hx hb t2 hS1 hown (hts _ q1837) (fun _ h => h) (show decode prog_16_method_56_code 8 = .ok (.getfield 9, 3) by decide +kernel) ?_
    refine lv_iload_n hx hb (show decode prog_16_method_56_code 11 = .ok (.iload_n 1, 1) by decide +kernel) rfl (lv_at hl 1 rfl) ?_
    refine s_calls (As := [.ref a, .int i]) (rest := []) (idx := 495) (k' := 3) xTT_ok hF0 hI1 hl.1 sBk (fun U hW hU => ?_) (s_l1 hfv (f := fun j => ((sZ s0).2 p0).getD j 0) hlen.1 hi c1 c2 hu) q794 q18 q796 q795 ⟨by decide +kernel, by decide +kernel, show (parseMethodDescriptor "([BI)C").map (fun d => d.parameters.length) = some 2 by decide +kernel⟩ (by decide) (by decide) (by decide) (show decode prog_16_method_56_code 12 = .ok (.invokestatic 495, 3) by decide +kernel) rfl (fun H2 locs2 hI2 => ?_)
    · unfold sB
      rw [hU]
      exact (t3.kept hS1.2.1).moved hW
    obtain ⟨hP, hS, hc1, hc2, hu⟩ := hI2
    exact W.zret hx hb hr c2 (fun t ht hW => ⟨rfl, by rw [ht]; exact hP, hS.F ht, hu⟩) hS.2.2 (show decode prog_16_method_56_code 15 = .ok (.ireturn, 1) by decide +kernel) hlocks
end
