/-! The start: the two constructors are run over other rows' places (closed ones), and their contracts serve here. -/
section
variable {l : Launch} {os : xT} {cL cC : ByteArray} {T : List Jvm.Cond} {D : va_G} {cl : List vw_C} {tyf : Nat → Nat → FieldType} {tyl : List FieldType} {ca : FieldType → ClassId} {b0 b0' : Nat → Nat} {b : Nat} {scr scr' : xZ} {df : Nat → List Value} {P : Nat → Option xM} {K : Nat}
theorem x_metS (hOK : x_OK os cL cC T cl tyf tyl df P K) (hSt : x_St os l T K D cl tyl ca b0' b scr' cL cC) (hO : ∀ (U : State) (H : Heap), x_O os b0 b scr U H → x_O os b0' b scr' U H) {n d' j' : Nat} {M' : xM} {As : List Value} {u' : List xC} {z : xR} (hM' : P j' = some M') (hc : x_exec scr' df P n d' j' 0 (lv_args 0 As) [] u' = some z) (hcat : (As.map fun v => v.category).sum ≤ M'.2.2.1) (hAs : As.map (x_v b0 b) = As.map (x_v b0' b)) (hw1 : x_ws ca b0 b b u' = x_ws ca b0' b b u') (hw2 : x_ws ca b0 b b z.2 = x_ws ca b0' b b z.2) (hz : z.1.map (x_v b0 b) = z.1.map (x_v b0' b)) (hu' : x_oku tyl u') : x_MetOf os l T K D cl tyl ca b0 b scr d' M' As u' z := by
  obtain ⟨h1, h2⟩ := x_exec_len _ _ _ _ _ _ _ _ hc
  have hOK0 := hOK
  obtain ⟨hT, hCL, hK20, hPM⟩ := hOK
  have eQ : x_Qc D cl tyl ca b0 b z = x_Qc D cl tyl ca b0' b z := by
    unfold x_Qc
    rw [hz, hw2]
  unfold x_MetOf x_Pc
  rw [hAs, eQ]
  refine Met.ofW (cc := M'.2.1) (maxL := M'.2.2.1) (ret := M'.2.2.2.1) (hPM j' M' hM').2.1 rfl ?_
  intro p e s m args below meth c s₁ B hml hv
  obtain ⟨rfl, hsz, hP, hK, hX⟩ := hv
  have hts := atoms_spec (ws := x_w T M') B.pre
  have hl' := lv_entry (As.map (x_v b0' b)) (n := M'.2.2.1) (by rw [x_sl_len, x_cats]; exact hcat)
  rw [lg_entry_eq]
  generalize (lg_sl (As.map (x_v b0' b)) ++ List.replicate (M'.2.2.1 - (lg_sl (As.map (x_v b0' b))).length) Slot.unset).toArray = ls at hl' ⊢
  rw [x_lv_args] at hl'
  have hF' : x_Fix os T D cl tyl ca b0' b scr' u' M' p s m (As.map (x_v b0' b)).toArray meth c := ⟨B.exec, B.bytes, hml, B.returns, (name_of_methodNamed B.named B.method).1, findClass_of_methodNamed B.named, fun w hw => hts w (List.mem_cons_of_mem _ hw), hK, hO _ _ hX, hsz, B.notSynchronized⟩
  refine x_sound hOK0 hSt n d' j' M' hM' p e (x_rm K d' (z.2.length - u'.length) (x_sz z.2 - x_sz u')) s m _ below meth c _ u' z hF' (Nat.le_refl _) (Nat.le_refl _) (by show z.2.length ≤ z.2.length - u'.length + u'.length; omega) (by show x_sz z.2 ≤ x_sz z.2 - x_sz u' + x_sz u'; omega) ?_ 0 (lv_args 0 As) [] u' s.heap [] 0 0 ls hc ⟨by rw [← hw1]; exact hP, va_S.rf, by omega, by omega, hu'⟩ hl'
  intro i k pc st u H locs cells slots ls hd hr hI'
  have e2 := x_ret_u hr
  obtain ⟨-, -, g1, g2, -⟩ := id hI'
  have g3 : z.2.length - u'.length = cells := by rw [e2]; omega
  have g4 : x_sz z.2 - x_sz u' = slots := by rw [e2]; omega
  rw [g3, g4]
  exact x_ret_ok hF' hI' hd hr
end
theorem kNor_e {ca : FieldType → ClassId} {b0 b0' : Nat → Nat} {b : Nat} {c : xC} (h : kNor1 c = true) : x_e ca b0 b c = x_e ca b0' b c := by
  rcases c with ⟨ty, N, f⟩ | ⟨ci, fs⟩
  · rcases f with f | f | f
    · rfl
    · rfl
    · exact absurd (show false = true from h) (by decide)
  · have h : (fs.all fun v => match v with
      | .ref p => decide (8 ≤ p)
      | _ => true) = true := h
    show Sum.inr (ci, fs.map (x_v b0 b)) = Sum.inr (ci, fs.map (x_v b0' b))
    rw [List.map_congr_left (g := x_v b0' b) (fun v hv => ?_)]
    have h1 := List.all_eq_true.mp h v hv
    cases v with
    | ref p =>
      have h1 : 8 ≤ p := of_decide_eq_true h1
      obtain ⟨k, rfl⟩ : ∃ k : Nat, p = k + 8 := ⟨p - 8, (Nat.sub_add_cancel h1).symm⟩
      rfl
    | _ => rfl
theorem kNor_ws {ca : FieldType → ClassId} {b0 b0' : Nat → Nat} {b : Nat} : ∀ (u : List xC) (a : Nat), u.all kNor1 = true → x_ws ca b0 b a u = x_ws ca b0' b a u
  | [], _, _ => rfl
  | c :: r, a, h => by
    simp only [List.all_cons, Bool.and_eq_true] at h
    show (a, x_e ca b0 b c) :: x_ws ca b0 b (a + 1) r = (a, x_e ca b0' b c) :: x_ws ca b0' b (a + 1) r
    rw [kNor_e h.1, kNor_ws r (a + 1) h.2]
theorem x_sz1_c (f f' : Int → Int) (g k : Nat) : x_sz1 (z_c lL f g k) = x_sz1 (z_c lL f' g k) := by
  unfold z_c
  split
  · show (z_fs lL f g 0 _).length = (z_fs lL f' g 0 _).length
    rw [z_fs_len, z_fs_len]
  · rename_i q _
    unfold z_arr
    split
    · rfl
    · split
      · rfl
      · split
        · rfl
        · rfl
  · rfl
theorem kszu (m m' : zM) : x_sz (z_u lL m) = x_sz (z_u lL m') := by
  unfold x_sz z_u
  rw [List.map_map, List.map_map]
  exact congrArg List.sum (List.map_congr_left fun i _ => x_sz1_c _ _ _ _)
noncomputable def xK (pc0 : Nat) (st0 : List Value) (u0 : List xC) : Nat → List Value → List xC → Option xR := fun pc' st' u' => @ite (Option xR) (pc' = pc0 ∧ st' = st0 ∧ u' = u0) (Classical.propDecidable _) (some (none, [])) none
theorem xK_t (pc : Nat) (st : List Value) (u : List xC) : xK pc st u pc st u = some (none, []) := if_pos ⟨rfl, rfl, rfl⟩
theorem xK_i {pc pc' : Nat} {st st' : List Value} {u u' : List xC} {r : xR} (h : xK pc st u pc' st' u' = some r) : pc' = pc ∧ st' = st ∧ u' = u := by
  unfold xK at h
  split at h
  · assumption
  · cases h
noncomputable def xCa (j : Nat) (As : List Value) (u : List xC) (z : xR) : Nat → List Value → List xC → Option xR := fun j' As' u' => @ite (Option xR) (j' = j ∧ As' = As ∧ u' = u) (Classical.propDecidable _) (some z) none
theorem xCa_t (j : Nat) (As : List Value) (u : List xC) (z : xR) : xCa j As u z j As u = some z := if_pos ⟨rfl, rfl, rfl⟩
theorem xCa_i {j j' : Nat} {As As' : List Value} {u u' : List xC} {z r : xR} (h : xCa j As u z j' As' u' = some r) : j' = j ∧ As' = As ∧ u' = u ∧ r = z := by
  unfold xCa at h
  split at h
  · rename_i e
    exact ⟨e.1, e.2.1, e.2.2, by injection h with h; exact h.symm⟩
  · cases h
theorem x_ret_bool {i : Instr} {k : Nat} {st : List Value} {u : List xC} {v : Int32} {u' : List xC} (h : x_ret i k (some .boolean) st u = some (some (.int v), u')) : i = .ireturn ∧ k = 1 ∧ st = [.int v] := by
  cases i with
  | ireturn =>
    simp only [x_ret] at h
    split at h
    · cases ‹some FieldType.boolean = some FieldType.int›
    · split at h
      · split at h
        · rename_i hk _
          injection h with h
          injection h with h1 h2
          injection h1 with h1
          injection h1 with h1
          subst h1
          exact ⟨rfl, hk, rfl⟩
        · cases h
      · cases h
    · cases h
  | lreturn =>
    simp only [x_ret] at h
    cases h
  | areturn =>
    simp only [x_ret] at h
    cases h
  | return_ =>
    simp only [x_ret] at h
    cases h
  | _ => cases h

def xTm (i : Nat) : Jvm.Term := match i with
  | 0 => (Jvm.Term.string "WorkMeter$CalendarText" (66 : Nat))
  | 1 => (Jvm.Term.string "WorkMeter$CalendarText" (75 : Nat))
  | 2 => (Jvm.Term.string "WorkMeter$CalendarText" (80 : Nat))
  | _ => (Jvm.Term.string "WorkMeter$CalendarText" (85 : Nat))
/-! THE CLAIM OUT OF ONE WALK OF THE LAW'S BODY. Your part is whole_start (and what it stands on); all else here is the same for every law, but numbers. -/
def R_law : String := "WorkMeterLaw"
def lw_P (b : Addr) (xs : List Int32) (args : Array Value) (s : State) : Prop := args = #[.ref b] ∧ s.IntsAt b xs ∧ xs.length ≤ 3072 ∧ (Jvm.Cond.and given_1 narrow_1).before args s = true
def lw_Q (_ : Array Value) (s : State) (o : Outcome) (t : State) : Prop := o = .returned (some (.int 1)) ∧ Framed s o t [] 600000 7302250
def lw_Z (below : List Frame) (a : Array Value) (s : State) : State → Prop := fun t => ∃ o, t.status = .running ∧ Ended t below o ∧ lw_Q a s o t
/-- the law's own end, with 1 on the stack, nothing written that was there before, its room as the claim has it -/
theorem lw_ret {p : Program} {l : Launch} {e : Env} {s : State} {m : MethodId} {below : List Frame} {meth : Method} {c : Code} {b : Nat} (hx : p.tables.exec = Jvm.exec) (hb : c.code = code) (hr : meth.sig.returnType = ret) (hlocks : meth.locks = false) {pc : Nat} {H : Heap} {ls : Array Slot} (hdg : decode code pc = .ok (.ireturn, 1)) : W p l e room_1 s m #[Value.ref b] below meth c H [] 600000 7302250 (lw_Z below #[Value.ref b] s) (F0 m pc ls [.int 1]) := by
  intro T hT X
  obtain ⟨fs, hret, hrun, hended, hW, hframe⟩ := X.leave (v := some (.int 1)) (hlocks := hlocks) (fun h => by rw [hr] at h; cases h)
  have hmeth' : T.vm.method? m = some meth := X.method'
  refine ⟨T.setFrames fs, ?_, .returned (some (.int 1)), hrun, hended, rfl, ⟨_, rfl⟩, hW, hframe⟩
  jvm_step X.here [X.here.top, hx, hb, hdg, hmeth', hr, ret, narrow_b1]
  (try refine ⟨rfl, ?_⟩); (try refine ⟨rfl, ?_⟩)
  first | (intro acts; rw [hret _ acts rfl rfl rfl]) | rw [hret _ _ rfl rfl rfl]
  exact Steps.refl _
/-- what holds at the law's entry: the machine, the code, the tables' words (any of lw_tbl by 'hts w (by decide +kernel)'), the script of L ints xs at the cell b, what the Statement gives of the start (any of its parts by flat_of_before) -/
def lw_At (p : Program) (s : State) (m : MethodId) (meth : Method) (c : Code) (b L : Nat) (xs : Nat → Int32) : Prop :=
  p.tables.exec = Jvm.exec ∧ c.code = code ∧ meth.sig.returnType = ret ∧ c.maxLocals = 4 ∧ s.vm.findClass R_law = some m.cls ∧ (∀ w ∈ lw_tbl, w.before #[Value.ref b] s = true) ∧ va_X b L xs s s.heap ∧ b < s.heap.size ∧ meth.locks = false ∧ (Jvm.Cond.and given_1 narrow_1).before #[Value.ref b] s = true ∧ meth.name = "law"
