section
variable {fv : Value}
theorem pn0 : plainName "WorkMeter" = true := by decide +kernel
theorem nc0 : ("WorkMeter" : String) ≠ "java/lang/invoke/MethodHandle" ∧ ("WorkMeter" : String) ≠ "java/lang/invoke/VarHandle" := ⟨by decide +kernel, by decide +kernel⟩
theorem pn1 : plainName "WorkMeter$Calendar" = true := by decide +kernel
theorem nc1 : ("WorkMeter$Calendar" : String) ≠ "java/lang/invoke/MethodHandle" ∧ ("WorkMeter$Calendar" : String) ≠ "java/lang/invoke/VarHandle" := ⟨by decide +kernel, by decide +kernel⟩
theorem pn2 : plainName "WorkMeter$CalendarText" = true := by decide +kernel
theorem nc2 : ("WorkMeter$CalendarText" : String) ≠ "java/lang/invoke/MethodHandle" ∧ ("WorkMeter$CalendarText" : String) ≠ "java/lang/invoke/VarHandle" := ⟨by decide +kernel, by decide +kernel⟩
theorem pn3 : plainName "WorkMeter$Demand" = true := by decide +kernel
theorem nc3 : ("WorkMeter$Demand" : String) ≠ "java/lang/invoke/MethodHandle" ∧ ("WorkMeter$Demand" : String) ≠ "java/lang/invoke/VarHandle" := ⟨by decide +kernel, by decide +kernel⟩
theorem pn4 : plainName "WorkMeter$Load" = true := by decide +kernel
theorem nc4 : ("WorkMeter$Load" : String) ≠ "java/lang/invoke/MethodHandle" ∧ ("WorkMeter$Load" : String) ≠ "java/lang/invoke/VarHandle" := ⟨by decide +kernel, by decide +kernel⟩
theorem pn5 : plainName "WorkMeter$Logbook" = true := by decide +kernel
theorem nc5 : ("WorkMeter$Logbook" : String) ≠ "java/lang/invoke/MethodHandle" ∧ ("WorkMeter$Logbook" : String) ≠ "java/lang/invoke/VarHandle" := ⟨by decide +kernel, by decide +kernel⟩
theorem pn6 : plainName "WorkMeter$Marks" = true := by decide +kernel
theorem nc6 : ("WorkMeter$Marks" : String) ≠ "java/lang/invoke/MethodHandle" ∧ ("WorkMeter$Marks" : String) ≠ "java/lang/invoke/VarHandle" := ⟨by decide +kernel, by decide +kernel⟩
theorem pn7 : plainName "WorkMeter$Meter" = true := by decide +kernel
theorem nc7 : ("WorkMeter$Meter" : String) ≠ "java/lang/invoke/MethodHandle" ∧ ("WorkMeter$Meter" : String) ≠ "java/lang/invoke/VarHandle" := ⟨by decide +kernel, by decide +kernel⟩
theorem pn8 : plainName "WorkMeter$Registers" = true := by decide +kernel
theorem nc8 : ("WorkMeter$Registers" : String) ≠ "java/lang/invoke/MethodHandle" ∧ ("WorkMeter$Registers" : String) ≠ "java/lang/invoke/VarHandle" := ⟨by decide +kernel, by decide +kernel⟩
theorem pn9 : plainName "WorkMeter$Seal" = true := by decide +kernel
theorem nc9 : ("WorkMeter$Seal" : String) ≠ "java/lang/invoke/MethodHandle" ∧ ("WorkMeter$Seal" : String) ≠ "java/lang/invoke/VarHandle" := ⟨by decide +kernel, by decide +kernel⟩
theorem pn10 : plainName "WorkMeter$Settings" = true := by decide +kernel
theorem nc10 : ("WorkMeter$Settings" : String) ≠ "java/lang/invoke/MethodHandle" ∧ ("WorkMeter$Settings" : String) ≠ "java/lang/invoke/VarHandle" := ⟨by decide +kernel, by decide +kernel⟩
theorem pn11 : plainName "WorkMeter$Wave" = true := by decide +kernel
theorem nc11 : ("WorkMeter$Wave" : String) ≠ "java/lang/invoke/MethodHandle" ∧ ("WorkMeter$Wave" : String) ≠ "java/lang/invoke/VarHandle" := ⟨by decide +kernel, by decide +kernel⟩
theorem pn12 : plainName "WorkMeterLaw" = true := by decide +kernel
theorem nc12 : ("WorkMeterLaw" : String) ≠ "java/lang/invoke/MethodHandle" ∧ ("WorkMeterLaw" : String) ≠ "java/lang/invoke/VarHandle" := ⟨by decide +kernel, by decide +kernel⟩
theorem pn13 : plainName "WorkMeterModel" = true := by decide +kernel
theorem nc13 : ("WorkMeterModel" : String) ≠ "java/lang/invoke/MethodHandle" ∧ ("WorkMeterModel" : String) ≠ "java/lang/invoke/VarHandle" := ⟨by decide +kernel, by decide +kernel⟩
theorem pn14 : plainName "java/util/Arrays" = true := by decide +kernel
theorem nc14 : ("java/util/Arrays" : String) ≠ "java/lang/invoke/MethodHandle" ∧ ("java/util/Arrays" : String) ≠ "java/lang/invoke/VarHandle" := ⟨by decide +kernel, by decide +kernel⟩
theorem pd0 : (parseMethodDescriptor "()I").map (fun d => d.parameters.length) = some 0 := by decide +kernel
theorem pd1 : (parseMethodDescriptor "()J").map (fun d => d.parameters.length) = some 0 := by decide +kernel
theorem pd2 : (parseMethodDescriptor "()V").map (fun d => d.parameters.length) = some 0 := by decide +kernel
theorem pd3 : (parseMethodDescriptor "()Z").map (fun d => d.parameters.length) = some 0 := by decide +kernel
theorem pd4 : (parseMethodDescriptor "(C)V").map (fun d => d.parameters.length) = some 1 := by decide +kernel
theorem pd5 : (parseMethodDescriptor "(C)Z").map (fun d => d.parameters.length) = some 1 := by decide +kernel
theorem pd6 : (parseMethodDescriptor "(I)I").map (fun d => d.parameters.length) = some 1 := by decide +kernel
theorem pd7 : (parseMethodDescriptor "(I)J").map (fun d => d.parameters.length) = some 1 := by decide +kernel
theorem pd8 : (parseMethodDescriptor "(I)V").map (fun d => d.parameters.length) = some 1 := by decide +kernel
theorem pd9 : (parseMethodDescriptor "(I)Z").map (fun d => d.parameters.length) = some 1 := by decide +kernel
theorem pd10 : (parseMethodDescriptor "(II)I").map (fun d => d.parameters.length) = some 2 := by decide +kernel
theorem pd11 : (parseMethodDescriptor "(II)J").map (fun d => d.parameters.length) = some 2 := by decide +kernel
theorem pd12 : (parseMethodDescriptor "(II)V").map (fun d => d.parameters.length) = some 2 := by decide +kernel
theorem pd13 : (parseMethodDescriptor "(II)Z").map (fun d => d.parameters.length) = some 2 := by decide +kernel
theorem pd14 : (parseMethodDescriptor "(III)I").map (fun d => d.parameters.length) = some 3 := by decide +kernel
theorem pd15 : (parseMethodDescriptor "(III)J").map (fun d => d.parameters.length) = some 3 := by decide +kernel
theorem pd16 : (parseMethodDescriptor "(III)V").map (fun d => d.parameters.length) = some 3 := by decide +kernel
theorem pd17 : (parseMethodDescriptor "(III)Z").map (fun d => d.parameters.length) = some 3 := by decide +kernel
theorem pd18 : (parseMethodDescriptor "(IIIII)I").map (fun d => d.parameters.length) = some 5 := by decide +kernel
theorem pd19 : (parseMethodDescriptor "(IIIIIIII)Z").map (fun d => d.parameters.length) = some 8 := by decide +kernel
theorem pd20 : (parseMethodDescriptor "(IIILWorkMeter$Logbook;I)V").map (fun d => d.parameters.length) = some 5 := by decide +kernel
theorem pd21 : (parseMethodDescriptor "(IIJ)V").map (fun d => d.parameters.length) = some 3 := by decide +kernel
theorem pd22 : (parseMethodDescriptor "(IILWorkMeter$Settings;)J").map (fun d => d.parameters.length) = some 3 := by decide +kernel
theorem pd23 : (parseMethodDescriptor "(IJ)V").map (fun d => d.parameters.length) = some 2 := by decide +kernel
theorem pd24 : (parseMethodDescriptor "(IJJJ)V").map (fun d => d.parameters.length) = some 4 := by decide +kernel
theorem pd25 : (parseMethodDescriptor "(ILWorkMeter$Demand;)V").map (fun d => d.parameters.length) = some 2 := by decide +kernel
theorem pd26 : (parseMethodDescriptor "(ILWorkMeter$Settings;)J").map (fun d => d.parameters.length) = some 2 := by decide +kernel
theorem pd27 : (parseMethodDescriptor "(IZ)Z").map (fun d => d.parameters.length) = some 2 := by decide +kernel
theorem pd28 : (parseMethodDescriptor "(IZLWorkMeter$Logbook;I)V").map (fun d => d.parameters.length) = some 4 := by decide +kernel
theorem pd29 : (parseMethodDescriptor "(J)J").map (fun d => d.parameters.length) = some 1 := by decide +kernel
theorem pd30 : (parseMethodDescriptor "(J)V").map (fun d => d.parameters.length) = some 1 := by decide +kernel
theorem pd31 : (parseMethodDescriptor "(JJ)I").map (fun d => d.parameters.length) = some 2 := by decide +kernel
theorem pd32 : (parseMethodDescriptor "(JJ)J").map (fun d => d.parameters.length) = some 2 := by decide +kernel
theorem pd33 : (parseMethodDescriptor "(JJ)V").map (fun d => d.parameters.length) = some 2 := by decide +kernel
theorem pd34 : (parseMethodDescriptor "(JJJ)V").map (fun d => d.parameters.length) = some 3 := by decide +kernel
theorem pd35 : (parseMethodDescriptor "(JJJ)Z").map (fun d => d.parameters.length) = some 3 := by decide +kernel
theorem pd36 : (parseMethodDescriptor "(LWorkMeter$Calendar;)V").map (fun d => d.parameters.length) = some 1 := by decide +kernel
theorem pd37 : (parseMethodDescriptor "(LWorkMeter$Demand;)V").map (fun d => d.parameters.length) = some 1 := by decide +kernel
theorem pd38 : (parseMethodDescriptor "(LWorkMeter$Load;)V").map (fun d => d.parameters.length) = some 1 := by decide +kernel
theorem pd39 : (parseMethodDescriptor "(LWorkMeter$Load;II)Z").map (fun d => d.parameters.length) = some 3 := by decide +kernel
theorem pd40 : (parseMethodDescriptor "(LWorkMeter$Load;III)V").map (fun d => d.parameters.length) = some 4 := by decide +kernel
theorem pd41 : (parseMethodDescriptor "(LWorkMeter$Logbook;)V").map (fun d => d.parameters.length) = some 1 := by decide +kernel
theorem pd42 : (parseMethodDescriptor "(LWorkMeter$Logbook;I)V").map (fun d => d.parameters.length) = some 2 := by decide +kernel
theorem pd43 : (parseMethodDescriptor "(LWorkMeter$Marks;)V").map (fun d => d.parameters.length) = some 1 := by decide +kernel
theorem pd44 : (parseMethodDescriptor "(LWorkMeter$Meter;)V").map (fun d => d.parameters.length) = some 1 := by decide +kernel
theorem pd45 : (parseMethodDescriptor "(LWorkMeter$Registers;)V").map (fun d => d.parameters.length) = some 1 := by decide +kernel
theorem pd46 : (parseMethodDescriptor "(LWorkMeter$Seal;)V").map (fun d => d.parameters.length) = some 1 := by decide +kernel
theorem pd47 : (parseMethodDescriptor "(LWorkMeter$Settings;)V").map (fun d => d.parameters.length) = some 1 := by decide +kernel
theorem pd48 : (parseMethodDescriptor "(LWorkMeter$Wave;)V").map (fun d => d.parameters.length) = some 1 := by decide +kernel
theorem pd49 : (parseMethodDescriptor "(Ljava/lang/String;)V").map (fun d => d.parameters.length) = some 1 := by decide +kernel
theorem pd50 : (parseMethodDescriptor "(Ljava/lang/String;I)Z").map (fun d => d.parameters.length) = some 2 := by decide +kernel
theorem pd51 : (parseMethodDescriptor "(Z)Z").map (fun d => d.parameters.length) = some 1 := by decide +kernel
theorem pd52 : (parseMethodDescriptor "([I)V").map (fun d => d.parameters.length) = some 1 := by decide +kernel
theorem pd53 : (parseMethodDescriptor "([I)Z").map (fun d => d.parameters.length) = some 1 := by decide +kernel
theorem pd54 : (parseMethodDescriptor "([II)V").map (fun d => d.parameters.length) = some 2 := by decide +kernel
theorem pd55 : (parseMethodDescriptor "([JII)J").map (fun d => d.parameters.length) = some 3 := by decide +kernel
theorem pd56 : (parseMethodDescriptor "([JJ)V").map (fun d => d.parameters.length) = some 2 := by decide +kernel
theorem pd57 : (parseMethodDescriptor "([J[J)V").map (fun d => d.parameters.length) = some 2 := by decide +kernel
def osO (fv : Value) : xT := ([("WorkMeter$Settings", "AT_FIRST", "[I", 1), ("WorkMeter$Settings", "LEAST", "[I", 2), ("WorkMeter$Settings", "MOST", "[I", 3)], [("WorkMeter$CalendarText", 66, "table", 4), ("WorkMeter$CalendarText", 75, "season", 5), ("WorkMeter$CalendarText", 80, "special", 6), ("WorkMeter$CalendarText", 85, "price", 7)], [("WorkMeter", 11, ⟨"WorkMeter$Meter", "<init>", "()V"⟩, "WorkMeter"), ("WorkMeter", 24, ⟨"WorkMeter$CalendarText", "<init>", "()V"⟩, "WorkMeter"), ("WorkMeter$Meter", 27, ⟨"WorkMeter$Wave", "<init>", "()V"⟩, "WorkMeter"), ("WorkMeter$Meter", 34, ⟨"WorkMeter$Registers", "<init>", "()V"⟩, "WorkMeter"), ("WorkMeter$Meter", 41, ⟨"WorkMeter$Load", "<init>", "()V"⟩, "WorkMeter"), ("WorkMeter$Meter", 55, ⟨"WorkMeter$Marks", "<init>", "()V"⟩, "WorkMeter"), ("WorkMeter$Meter", 62, ⟨"WorkMeter$Logbook", "<init>", "()V"⟩, "WorkMeter"), ("WorkMeter$Meter", 69, ⟨"WorkMeter$Seal", "<init>", "()V"⟩, "WorkMeter")], [("java/lang/String", "COMPACT_STRINGS", "Z", .int 1), ("jdk/internal/util/Preconditions", "SIOOBE_FORMATTER", "Ljava/util/function/BiFunction;", fv)])
def pTyl : List FieldType := [.int, .long, .byte, .boolean]
abbrev pcL : ByteArray := prog_16_method_54_code
abbrev pcC : ByteArray := prog_16_method_56_code
def xGf (own : String) (idx ci fj : Nat) : Prop := ∃ (C : String) (F : u_T) (N : Nat), pCl[ci]? = some (C, F, N) ∧ fj < N ∧ x_lk xTT own idx (F fj)
def xPf (y : MethodName) (idx ci fj tag : Nat) : Prop := ∃ (C : String) (F : u_T) (N : Nat), pCl[ci]? = some (C, F, N) ∧ fj < N ∧ x_tag tag (pTyf ci fj) ∧
      (((F fj).2.2.2 = false ∧ x_lk xTT y.cls idx (F fj)) ∨ ((F fj).2.2.2 = true ∧ y.name = "<init>" ∧ (F fj).1 = y.cls ∧ Jvm.Cond.fieldLink y.cls idx (F fj).1 (F fj).2.1 (F fj).2.2.1 ∈ xTT))
/-- what an instruction's link must be -/
def xLnk (fv : Value) (M : xM) (x : xI) : Prop := match x.1 with
  | .getfield idx => xGf M.1.cls idx x.2.2.1.1 x.2.2.1.2.1
  | .putfield idx => xPf M.1 idx x.2.2.1.1 x.2.2.1.2.1 x.2.2.1.2.2.1
  | .new idx => ∃ (C : String) (F : u_T) (N : Nat), pCl[x.2.2.1.1]? = some (C, F, N) ∧ Jvm.Cond.classLink M.1.cls idx C ∈ xTT ∧ Jvm.Cond.instantiable C N ∈ xTT ∧ Jvm.Cond.initialized C ∈ xTT
  | .newarray t => Jvm.Cond.arrayClass (newarray.typeOf t) ∈ xTT ∧ newarray.typeOf t ∈ pTyl
  | .ldc idx => (∃ v, x.2.2.2.1 = .int v ∧ Jvm.Cond.constant M.1.cls idx v ∈ xTT) ∨ ∃ tx p, x.2.2.2.1 = .ref p ∧ p < 8 ∧ (M.1.cls, idx, tx, p) ∈ (osO fv).2.1
  | .ldc_w idx => ∃ v, x.2.2.2.1 = .int v ∧ Jvm.Cond.constant M.1.cls idx v ∈ xTT
  | .getstatic idx => ∃ C n d, (C, n, d, x.2.2.1.1) ∈ (osO fv).1 ∧ x_lk xTT M.1.cls idx (C, n, d, true)
  | .ldc2_w idx => ∃ v, x.2.2.2.1 = .long v ∧ Jvm.Cond.constantLong M.1.cls idx v ∈ xTT
  | .invokevirtual idx => x_lkS xTT M.1.cls idx x.2.2.1.2.2.1 pcL pcC ∨ (x.2.2.1.2.2.1 = 1 ∨ x.2.2.1.2.2.1 = 4) ∧ x_lkC (osO fv) xTT pCl pP M.1.cls idx x.2.2.1
  | .invokespecial idx => (x.2.2.1.2.2.1 = 0 ∧ Jvm.Cond.methodLink M.1.cls idx objectInit ∈ xTT ∧ Jvm.Cond.instanceMethod objectInit ∈ xTT ∧ Jvm.Cond.code objectInit ⟨#[0xb1]⟩ 1 none ∈ xTT) ∨ ((x.2.2.1.2.2.1 = 2 ∨ x.2.2.1.2.2.1 = 5) ∧ x_lkC (osO fv) xTT pCl pP M.1.cls idx x.2.2.1)
  | .invokestatic idx => x_lkB xTT M.1.cls idx x.2.2.1.2.2.1 ∨ (x.2.2.1.2.2.1 = 3 ∨ x.2.2.1.2.2.1 = 6) ∧ x_lkC (osO fv) xTT pCl pP M.1.cls idx x.2.2.1
  | _ => True
def x_needs (i : Instr) : Bool := match i with
  | .getfield _ | .putfield _ | .new _ | .newarray _ | .ldc _ | .ldc_w _ | .getstatic _ | .ldc2_w _ | .invokevirtual _ | .invokespecial _ | .invokestatic _ => true
  | _ => false
def x_allr (p : xI → Prop) : List (Option xI) → Prop
  | [] => True
  | none :: r => x_allr p r
  | some x :: r => match x_needs x.1 with
    | true => p x ∧ x_allr p r
    | false => x_allr p r
def x_allt (p : xI → Prop) : List (List (Option xI)) → Prop
  | [] => True
  | r :: t => x_allr p r ∧ x_allt p t
theorem x_allr_get {p : xI → Prop} {x : xI} (hx : x_needs x.1 = true) : ∀ (r : List (Option xI)) (i : Nat), x_allr p r → r[i]? = some (some x) → p x
  | [], _, _, h => by simp at h
  | none :: r, 0, _, h => by simp at h
  | none :: r, i + 1, ha, h => x_allr_get hx r i ha (by simpa using h)
  | some y :: r, 0, ha, h => by
    have e : y = x := by simpa using h
    subst e
    unfold x_allr at ha
    rw [hx] at ha
    exact ha.1
  | some y :: r, i + 1, ha, h => by
    refine x_allr_get hx r i ?_ (by simpa using h)
    unfold x_allr at ha
    split at ha
    · exact ha.2
    · exact ha
theorem x_allt_get {p : xI → Prop} {x : xI} (hx : x_needs x.1 = true) : ∀ (t : List (List (Option xI))) (k i : Nat) (r : List (Option xI)), x_allt p t → t[k]? = some r → r[i]? = some (some x) → p x
  | [], _, _, _, _, h, _ => by simp at h
  | z :: t, 0, i, r, ha, h, hr => by
    have e : z = r := by simpa using h
    subst e
    exact x_allr_get hx _ i ha.1 hr
  | z :: t, k + 1, i, r, ha, h, hr => x_allt_get hx t k i r ha.2 (by simpa using h) hr
def x_stokb (i : Instr) (nL : Nat) : Bool := match i with
  | .istore j | .astore j | .iinc j _ => decide (j < nL)
  | .istore_n j | .astore_n j => decide ((j : Nat) < nL)
  | .lstore j => decide (j + 1 < nL)
  | .lstore_n j => decide ((j : Nat) + 1 < nL)
  | _ => true
theorem x_stokb_ok {i : Instr} {nL : Nat} (h : x_stokb i nL = true) : x_stok i nL := by
  cases i <;> first | trivial | (simp only [x_stokb, decide_eq_true_eq] at h; exact h)
def x_rchk (cc : ByteArray) (nL : Nat) : Nat → List (Option xI) → Bool
  | _, [] => true
  | pc, none :: r => x_rchk cc nL (pc + 1) r
  | pc, some x :: r => decide (decode cc pc = .ok (x.1, x.2.1)) && (x_stokb x.1 nL && x_rchk cc nL (pc + 1) r)
def x_tchk (cc : ByteArray) (nL : Nat) : Nat → List (List (Option xI)) → Bool
  | _, [] => true
  | pc, r :: t => x_rchk cc nL pc r && x_tchk cc nL (pc + 16) t
theorem x_rchk_get {cc : ByteArray} {nL : Nat} {x : xI} : ∀ (r : List (Option xI)) (pc i : Nat), x_rchk cc nL pc r = true → r[i]? = some (some x) → decode cc (pc + i) = .ok (x.1, x.2.1) ∧ x_stok x.1 nL
  | [], _, _, _, h => by simp at h
  | none :: r, _, 0, _, h => by simp at h
  | none :: r, pc, i + 1, ha, h => by
    have h1 := x_rchk_get r (pc + 1) i ha (by simpa using h)
    rwa [show pc + 1 + i = pc + (i + 1) by omega] at h1
  | some y :: r, pc, 0, ha, h => by
    have e : y = x := by simpa using h
    subst e
    simp only [x_rchk, Bool.and_eq_true] at ha
    exact ⟨of_decide_eq_true ha.1, x_stokb_ok ha.2.1⟩
  | some y :: r, pc, i + 1, ha, h => by
    simp only [x_rchk, Bool.and_eq_true] at ha
    have h1 := x_rchk_get r (pc + 1) i ha.2.2 (by simpa using h)
    rwa [show pc + 1 + i = pc + (i + 1) by omega] at h1
theorem x_tchk_get {cc : ByteArray} {nL : Nat} {x : xI} : ∀ (t : List (List (Option xI))) (pc k i : Nat) (r : List (Option xI)), x_tchk cc nL pc t = true → t[k]? = some r → r[i]? = some (some x) → decode cc (pc + 16 * k + i) = .ok (x.1, x.2.1) ∧ x_stok x.1 nL
  | [], _, _, _, _, _, h, _ => by simp at h
  | z :: t, pc, 0, i, r, ha, h, hr => by
    have e : z = r := by simpa using h
    subst e
    simp only [x_tchk, Bool.and_eq_true] at ha
    exact x_rchk_get z pc i ha.1 hr
  | z :: t, pc, k + 1, i, r, ha, h, hr => by
    simp only [x_tchk, Bool.and_eq_true] at ha
    have h1 := x_tchk_get t (pc + 16) k i r ha.2 (by simpa using h) hr
    rwa [show pc + 16 + 16 * k + i = pc + 16 * (k + 1) + i by omega] at h1
theorem x_tcons {cc : ByteArray} {nL pc : Nat} {r : List (Option xI)} {t : List (List (Option xI))} (h : x_rchk cc nL pc r = true) (h' : x_tchk cc nL (pc + 16) t = true) : x_tchk cc nL pc (r :: t) = true := by
  unfold x_tchk
  rw [h, h']
  rfl
theorem x_at_inv {t : List (List (Option xI))} {pc : Nat} {x : xI} (h : x_at t pc = some x) : ∃ r, t[pc / 16]? = some r ∧ r[pc % 16]? = some (some x) := by
  unfold x_at at h
  split at h
  · split at h
    · exact ⟨_, by assumption, by rw [← h]; assumption⟩
    · cases h
  · cases h
/-- what is to be known of a method -/
def xMok (fv : Value) (M : xM) : Prop := M.2.2.1 + 19 ≤ 40 ∧ plainName M.1.cls = true ∧ ∀ (pc : Nat) (x : xI), M.2.2.2.2 pc = some x → x_okI (osO fv) pcL pcC xTT pCl pTyf pTyl pP M pc x
theorem xMok_of {y : MethodName} {cc : ByteArray} {nL : Nat} {ret : Option FieldType} {t : List (List (Option xI))} (h1 : nL + 19 ≤ 40) (h2 : plainName y.cls = true) (h3 : x_tchk cc nL 0 t = true) (h4 : x_allt (xLnk fv (y, cc, nL, ret, x_at t)) t) : xMok fv (y, cc, nL, ret, x_at t) := by
  refine ⟨h1, h2, fun pc x hx => ?_⟩
  obtain ⟨r, e1, e2⟩ := x_at_inv hx
  have hd := x_tchk_get t 0 _ _ r h3 e1 e2
  rw [show 0 + 16 * (pc / 16) + pc % 16 = pc by omega] at hd
  refine ⟨hd.1, hd.2, ?_⟩
  have hl : x_needs x.1 = true → xLnk fv (y, cc, nL, ret, x_at t) x := fun hn => x_allt_get hn t _ _ r h4 e1 e2
  obtain ⟨i, n, q, c, ks⟩ := x
  cases i <;> first | trivial | exact hl rfl
theorem xab {p q : Prop} (h : ¬ p) (h' : p) : q := absurd h' h
theorem na_int : Jvm.Cond.arrayClass (newarray.typeOf .int) ∈ xTT ∧ newarray.typeOf .int ∈ pTyl := ⟨q50, (List.Mem.head _)⟩
theorem na_long : Jvm.Cond.arrayClass (newarray.typeOf .long) ∈ xTT ∧ newarray.typeOf .long ∈ pTyl := ⟨q132, (List.Mem.tail _ (List.Mem.head _))⟩
theorem na_byte : Jvm.Cond.arrayClass (newarray.typeOf .byte) ∈ xTT ∧ newarray.typeOf .byte ∈ pTyl := ⟨q895, (List.Mem.tail _ (List.Mem.tail _ (List.Mem.head _)))⟩
theorem na_boolean : Jvm.Cond.arrayClass (newarray.typeOf .boolean) ∈ xTT ∧ newarray.typeOf .boolean ∈ pTyl := ⟨q1350, (List.Mem.tail _ (List.Mem.tail _ (List.Mem.tail _ (List.Mem.head _))))⟩
theorem lkc0 : x_lkC (osO fv) xTT pCl pP "WorkMeter" 11 (1, 0, 5, 6) := ⟨pm1, rfl, q2, q33, ⟨nc7.1, nc7.2, pd2⟩, .inr ⟨.inr (.inl rfl), "WorkMeter", (List.Mem.head _)⟩, xab (by decide), fun _ => ⟨rfl, rfl, q32⟩, xab (by decide)⟩
theorem lpf1 : xPf ⟨"WorkMeter", "<init>", "()V"⟩ 12 11 0 3 := ⟨_, _, _, rfl, by decide, .inr (.inr (.inr ⟨rfl, .inl ⟨_, rfl⟩⟩)), .inr ⟨rfl, rfl, rfl, q410⟩⟩
theorem lpf2 : xPf ⟨"WorkMeter", "<init>", "()V"⟩ 16 11 1 3 := ⟨_, _, _, rfl, by decide, .inr (.inr (.inr ⟨rfl, .inl ⟨_, rfl⟩⟩)), .inr ⟨rfl, rfl, rfl, q411⟩⟩
theorem lpf3 : xPf ⟨"WorkMeter", "<init>", "()V"⟩ 19 11 2 3 := ⟨_, _, _, rfl, by decide, .inr (.inr (.inr ⟨rfl, .inl ⟨_, rfl⟩⟩)), .inr ⟨rfl, rfl, rfl, q412⟩⟩
theorem lkc4 : x_lkC (osO fv) xTT pCl pP "WorkMeter" 24 (15, 0, 5, 1) := ⟨pm15, rfl, q14, q366, ⟨nc2.1, nc2.2, pd2⟩, .inr ⟨.inr (.inl rfl), "WorkMeter", (List.Mem.tail _ (List.Mem.head _))⟩, xab (by decide), fun _ => ⟨rfl, rfl, q365⟩, xab (by decide)⟩
theorem lpf5 : xPf ⟨"WorkMeter", "<init>", "()V"⟩ 25 11 3 3 := ⟨_, _, _, rfl, by decide, .inr (.inr (.inr ⟨rfl, .inl ⟨_, rfl⟩⟩)), .inr ⟨rfl, rfl, rfl, q413⟩⟩
theorem lkc6 : x_lkC (osO fv) xTT pCl pP "WorkMeter$Meter" 11 (2, 0, 2, 9) := ⟨pm2, rfl, q3, q39, ⟨nc10.1, nc10.2, pd2⟩, .inl ⟨.inr (.inl rfl), q37⟩, xab (by decide), fun _ => ⟨rfl, rfl, q38⟩, xab (by decide)⟩
theorem lpf7 : xPf ⟨"WorkMeter$Meter", "<init>", "()V"⟩ 12 6 0 3 := ⟨_, _, _, rfl, by decide, .inr (.inr (.inr ⟨rfl, .inl ⟨_, rfl⟩⟩)), .inr ⟨rfl, rfl, rfl, q297⟩⟩
theorem lkc8 : x_lkC (osO fv) xTT pCl pP "WorkMeter$Meter" 20 (3, 0, 2, 0) := ⟨pm3, rfl, q5, q55, ⟨nc1.1, nc1.2, pd2⟩, .inl ⟨.inr (.inl rfl), q53⟩, xab (by decide), fun _ => ⟨rfl, rfl, q54⟩, xab (by decide)⟩
theorem lpf9 : xPf ⟨"WorkMeter$Meter", "<init>", "()V"⟩ 21 6 1 3 := ⟨_, _, _, rfl, by decide, .inr (.inr (.inr ⟨rfl, .inl ⟨_, rfl⟩⟩)), .inr ⟨rfl, rfl, rfl, q299⟩⟩
theorem lkc10 : x_lkC (osO fv) xTT pCl pP "WorkMeter$Meter" 27 (6, 0, 5, 10) := ⟨pm6, rfl, q7, q103, ⟨nc11.1, nc11.2, pd2⟩, .inr ⟨.inr (.inl rfl), "WorkMeter", (List.Mem.tail _ (List.Mem.tail _ (List.Mem.head _)))⟩, xab (by decide), fun _ => ⟨rfl, rfl, q102⟩, xab (by decide)⟩
theorem lpf11 : xPf ⟨"WorkMeter$Meter", "<init>", "()V"⟩ 28 6 2 3 := ⟨_, _, _, rfl, by decide, .inr (.inr (.inr ⟨rfl, .inl ⟨_, rfl⟩⟩)), .inr ⟨rfl, rfl, rfl, q301⟩⟩
theorem lkc12 : x_lkC (osO fv) xTT pCl pP "WorkMeter$Meter" 34 (7, 0, 5, 7) := ⟨pm7, rfl, q8, q137, ⟨nc8.1, nc8.2, pd2⟩, .inr ⟨.inr (.inl rfl), "WorkMeter", (List.Mem.tail _ (List.Mem.tail _ (List.Mem.tail _ (List.Mem.head _))))⟩, xab (by decide), fun _ => ⟨rfl, rfl, q136⟩, xab (by decide)⟩
theorem lpf13 : xPf ⟨"WorkMeter$Meter", "<init>", "()V"⟩ 35 6 3 3 := ⟨_, _, _, rfl, by decide, .inr (.inr (.inr ⟨rfl, .inl ⟨_, rfl⟩⟩)), .inr ⟨rfl, rfl, rfl, q303⟩⟩
theorem lkc14 : x_lkC (osO fv) xTT pCl pP "WorkMeter$Meter" 41 (8, 0, 5, 3) := ⟨pm8, rfl, q9, q157, ⟨nc4.1, nc4.2, pd2⟩, .inr ⟨.inr (.inl rfl), "WorkMeter", (List.Mem.tail _ (List.Mem.tail _ (List.Mem.tail _ (List.Mem.tail _ (List.Mem.head _)))))⟩, xab (by decide), fun _ => ⟨rfl, rfl, q156⟩, xab (by decide)⟩
theorem lpf15 : xPf ⟨"WorkMeter$Meter", "<init>", "()V"⟩ 42 6 4 3 := ⟨_, _, _, rfl, by decide, .inr (.inr (.inr ⟨rfl, .inl ⟨_, rfl⟩⟩)), .inr ⟨rfl, rfl, rfl, q305⟩⟩
theorem lkc16 : x_lkC (osO fv) xTT pCl pP "WorkMeter$Meter" 48 (9, 0, 2, 2) := ⟨pm9, rfl, q10, q202, ⟨nc3.1, nc3.2, pd2⟩, .inl ⟨.inr (.inl rfl), q200⟩, xab (by decide), fun _ => ⟨rfl, rfl, q201⟩, xab (by decide)⟩
theorem lpf17 : xPf ⟨"WorkMeter$Meter", "<init>", "()V"⟩ 49 6 5 3 := ⟨_, _, _, rfl, by decide, .inr (.inr (.inr ⟨rfl, .inl ⟨_, rfl⟩⟩)), .inr ⟨rfl, rfl, rfl, q307⟩⟩
theorem lkc18 : x_lkC (osO fv) xTT pCl pP "WorkMeter$Meter" 55 (12, 0, 5, 5) := ⟨pm12, rfl, q11, q235, ⟨nc6.1, nc6.2, pd2⟩, .inr ⟨.inr (.inl rfl), "WorkMeter", (List.Mem.tail _ (List.Mem.tail _ (List.Mem.tail _ (List.Mem.tail _ (List.Mem.tail _ (List.Mem.head _))))))⟩, xab (by decide), fun _ => ⟨rfl, rfl, q234⟩, xab (by decide)⟩
theorem lpf19 : xPf ⟨"WorkMeter$Meter", "<init>", "()V"⟩ 56 6 6 3 := ⟨_, _, _, rfl, by decide, .inr (.inr (.inr ⟨rfl, .inl ⟨_, rfl⟩⟩)), .inr ⟨rfl, rfl, rfl, q309⟩⟩
theorem lkc20 : x_lkC (osO fv) xTT pCl pP "WorkMeter$Meter" 62 (13, 0, 5, 4) := ⟨pm13, rfl, q12, q259, ⟨nc5.1, nc5.2, pd2⟩, .inr ⟨.inr (.inl rfl), "WorkMeter", (List.Mem.tail _ (List.Mem.tail _ (List.Mem.tail _ (List.Mem.tail _ (List.Mem.tail _ (List.Mem.tail _ (List.Mem.head _)))))))⟩, xab (by decide), fun _ => ⟨rfl, rfl, q258⟩, xab (by decide)⟩
theorem lpf21 : xPf ⟨"WorkMeter$Meter", "<init>", "()V"⟩ 63 6 7 3 := ⟨_, _, _, rfl, by decide, .inr (.inr (.inr ⟨rfl, .inl ⟨_, rfl⟩⟩)), .inr ⟨rfl, rfl, rfl, q311⟩⟩
theorem lkc22 : x_lkC (osO fv) xTT pCl pP "WorkMeter$Meter" 69 (14, 0, 5, 8) := ⟨pm14, rfl, q13, q273, ⟨nc9.1, nc9.2, pd2⟩, .inr ⟨.inr (.inl rfl), "WorkMeter", (List.Mem.tail _ (List.Mem.tail _ (List.Mem.tail _ (List.Mem.tail _ (List.Mem.tail _ (List.Mem.tail _ (List.Mem.tail _ (List.Mem.head _))))))))⟩, xab (by decide), fun _ => ⟨rfl, rfl, q272⟩, xab (by decide)⟩
theorem lpf23 : xPf ⟨"WorkMeter$Meter", "<init>", "()V"⟩ 70 6 8 3 := ⟨_, _, _, rfl, by decide, .inr (.inr (.inr ⟨rfl, .inl ⟨_, rfl⟩⟩)), .inr ⟨rfl, rfl, rfl, q313⟩⟩
theorem lpf24 : xPf ⟨"WorkMeter$Settings", "<init>", "()V"⟩ 11 9 0 3 := ⟨_, _, _, rfl, by decide, .inr (.inr (.inr ⟨rfl, .inr ⟨_, rfl⟩⟩)), .inr ⟨rfl, rfl, rfl, q46⟩⟩
theorem lgf25 : xGf "WorkMeter$Settings" 11 9 0 := ⟨_, _, _, rfl, by decide, .inl q46⟩
theorem lpf26 : xPf ⟨"WorkMeter$Calendar", "<init>", "()V"⟩ 11 0 0 3 := ⟨_, _, _, rfl, by decide, .inr (.inr (.inr ⟨rfl, .inr ⟨_, rfl⟩⟩)), .inr ⟨rfl, rfl, rfl, q64⟩⟩
theorem lpf27 : xPf ⟨"WorkMeter$Calendar", "<init>", "()V"⟩ 15 0 1 3 := ⟨_, _, _, rfl, by decide, .inr (.inr (.inr ⟨rfl, .inr ⟨_, rfl⟩⟩)), .inr ⟨rfl, rfl, rfl, q67⟩⟩
theorem lpf28 : xPf ⟨"WorkMeter$Calendar", "<init>", "()V"⟩ 18 0 2 3 := ⟨_, _, _, rfl, by decide, .inr (.inr (.inr ⟨rfl, .inr ⟨_, rfl⟩⟩)), .inr ⟨rfl, rfl, rfl, q69⟩⟩
theorem lpf29 : xPf ⟨"WorkMeter$Calendar", "<init>", "()V"⟩ 21 0 3 3 := ⟨_, _, _, rfl, by decide, .inr (.inr (.inr ⟨rfl, .inr ⟨_, rfl⟩⟩)), .inr ⟨rfl, rfl, rfl, q71⟩⟩
theorem lpf30 : xPf ⟨"WorkMeter$Calendar", "<init>", "()V"⟩ 24 0 4 3 := ⟨_, _, _, rfl, by decide, .inr (.inr (.inr ⟨rfl, .inr ⟨_, rfl⟩⟩)), .inr ⟨rfl, rfl, rfl, q74⟩⟩
theorem lpf31 : xPf ⟨"WorkMeter$Calendar", "<init>", "()V"⟩ 27 0 5 3 := ⟨_, _, _, rfl, by decide, .inr (.inr (.inr ⟨rfl, .inr ⟨_, rfl⟩⟩)), .inr ⟨rfl, rfl, rfl, q77⟩⟩
theorem lpf32 : xPf ⟨"WorkMeter$Calendar", "<init>", "()V"⟩ 30 0 6 3 := ⟨_, _, _, rfl, by decide, .inr (.inr (.inr ⟨rfl, .inr ⟨_, rfl⟩⟩)), .inr ⟨rfl, rfl, rfl, q78⟩⟩
theorem lkc33 : x_lkC (osO fv) xTT pCl pP "WorkMeter$Calendar" 33 (4, 0, 1, 0) := ⟨pm4, rfl, q5, q60, ⟨nc1.1, nc1.2, pd2⟩, .inl ⟨.inl rfl, q57⟩, fun _ => ⟨q58, q59, pF0, 8, rfl⟩, xab (by decide), xab (by decide)⟩
theorem lgf34 : xGf "WorkMeter$Calendar" 11 0 0 := ⟨_, _, _, rfl, by decide, .inl q64⟩
theorem lkc35 : x_lkC (osO fv) xTT pCl pP "WorkMeter$Calendar" 36 (5, 2, 3, 0) := ⟨pm5, rfl, q6, q63, ⟨nc14.1, nc14.2, pd54⟩, .inl ⟨.inr (.inr rfl), q61⟩, xab (by decide), xab (by decide), fun _ => q62⟩
theorem lgf36 : xGf "WorkMeter$Calendar" 21 0 3 := ⟨_, _, _, rfl, by decide, .inl q71⟩
theorem lgf37 : xGf "WorkMeter$Calendar" 24 0 4 := ⟨_, _, _, rfl, by decide, .inl q74⟩
theorem lpf38 : xPf ⟨"WorkMeter$Calendar", "clearAll", "()V"⟩ 42 0 7 0 := ⟨_, _, _, rfl, by decide, .inl ⟨rfl, rfl⟩, .inl ⟨rfl, .inl q79⟩⟩
theorem lpf39 : xPf ⟨"WorkMeter$Wave", "<init>", "()V"⟩ 11 10 0 3 := ⟨_, _, _, rfl, by decide, .inr (.inr (.inr ⟨rfl, .inr ⟨_, rfl⟩⟩)), .inr ⟨rfl, rfl, rfl, q105⟩⟩
theorem lpf40 : xPf ⟨"WorkMeter$Wave", "<init>", "()V"⟩ 15 10 1 3 := ⟨_, _, _, rfl, by decide, .inr (.inr (.inr ⟨rfl, .inr ⟨_, rfl⟩⟩)), .inr ⟨rfl, rfl, rfl, q106⟩⟩
theorem lpf41 : xPf ⟨"WorkMeter$Wave", "<init>", "()V"⟩ 18 10 2 3 := ⟨_, _, _, rfl, by decide, .inr (.inr (.inr ⟨rfl, .inr ⟨_, rfl⟩⟩)), .inr ⟨rfl, rfl, rfl, q107⟩⟩
theorem lpf42 : xPf ⟨"WorkMeter$Wave", "<init>", "()V"⟩ 22 10 3 0 := ⟨_, _, _, rfl, by decide, .inl ⟨rfl, rfl⟩, .inl ⟨rfl, .inl q108⟩⟩
theorem lpf43 : xPf ⟨"WorkMeter$Wave", "<init>", "()V"⟩ 26 10 4 0 := ⟨_, _, _, rfl, by decide, .inl ⟨rfl, rfl⟩, .inl ⟨rfl, .inl q110⟩⟩
theorem lpf44 : xPf ⟨"WorkMeter$Registers", "<init>", "()V"⟩ 11 7 0 3 := ⟨_, _, _, rfl, by decide, .inr (.inr (.inr ⟨rfl, .inr ⟨_, rfl⟩⟩)), .inr ⟨rfl, rfl, rfl, q139⟩⟩
theorem lpf45 : xPf ⟨"WorkMeter$Registers", "<init>", "()V"⟩ 15 7 1 3 := ⟨_, _, _, rfl, by decide, .inr (.inr (.inr ⟨rfl, .inr ⟨_, rfl⟩⟩)), .inr ⟨rfl, rfl, rfl, q140⟩⟩
theorem lpf46 : xPf ⟨"WorkMeter$Registers", "<init>", "()V"⟩ 18 7 2 3 := ⟨_, _, _, rfl, by decide, .inr (.inr (.inr ⟨rfl, .inr ⟨_, rfl⟩⟩)), .inr ⟨rfl, rfl, rfl, q141⟩⟩
theorem lpf47 : xPf ⟨"WorkMeter$Load", "<init>", "()V"⟩ 11 3 0 3 := ⟨_, _, _, rfl, by decide, .inr (.inr (.inr ⟨rfl, .inr ⟨_, rfl⟩⟩)), .inr ⟨rfl, rfl, rfl, q159⟩⟩
theorem lpf48 : xPf ⟨"WorkMeter$Load", "<init>", "()V"⟩ 15 3 1 3 := ⟨_, _, _, rfl, by decide, .inr (.inr (.inr ⟨rfl, .inr ⟨_, rfl⟩⟩)), .inr ⟨rfl, rfl, rfl, q160⟩⟩
theorem lpf49 : xPf ⟨"WorkMeter$Demand", "<init>", "()V"⟩ 9 2 0 3 := ⟨_, _, _, rfl, by decide, .inr (.inr (.inr ⟨rfl, .inr ⟨_, rfl⟩⟩)), .inr ⟨rfl, rfl, rfl, q213⟩⟩
theorem lpf50 : xPf ⟨"WorkMeter$Demand", "<init>", "()V"⟩ 15 2 1 3 := ⟨_, _, _, rfl, by decide, .inr (.inr (.inr ⟨rfl, .inr ⟨_, rfl⟩⟩)), .inr ⟨rfl, rfl, rfl, q216⟩⟩
theorem llc51 : ∃ v, Value.long (Int64.ofInt (-1)) = .long v ∧ Jvm.Cond.constantLong "WorkMeter$Demand" 19 v ∈ xTT := ⟨(-1 : Int64), congrArg _ (by decide +kernel), q204⟩
theorem lpf52 : xPf ⟨"WorkMeter$Demand", "<init>", "()V"⟩ 21 2 2 1 := ⟨_, _, _, rfl, by decide, .inr (.inl ⟨rfl, rfl⟩), .inl ⟨rfl, .inl q218⟩⟩
theorem lpf53 : xPf ⟨"WorkMeter$Demand", "<init>", "()V"⟩ 25 2 3 0 := ⟨_, _, _, rfl, by decide, .inl ⟨rfl, rfl⟩, .inl ⟨rfl, .inl q220⟩⟩
theorem lkc54 : x_lkC (osO fv) xTT pCl pP "WorkMeter$Demand" 29 (10, 0, 1, 2) := ⟨pm10, rfl, q10, q208, ⟨nc3.1, nc3.2, pd2⟩, .inl ⟨.inl rfl, q205⟩, fun _ => ⟨q206, q207, pF2, 4, rfl⟩, xab (by decide), xab (by decide)⟩
theorem lgf55 : xGf "WorkMeter$Demand" 9 2 0 := ⟨_, _, _, rfl, by decide, .inl q213⟩
theorem lkc56 : x_lkC (osO fv) xTT pCl pP "WorkMeter$Demand" 32 (11, 2, 3, 0) := ⟨pm11, rfl, q6, q211, ⟨nc14.1, nc14.2, pd56⟩, .inl ⟨.inr (.inr rfl), q209⟩, xab (by decide), xab (by decide), fun _ => q210⟩
theorem lgf57 : xGf "WorkMeter$Demand" 15 2 1 := ⟨_, _, _, rfl, by decide, .inl q216⟩
theorem lkc58 : x_lkC (osO fv) xTT pCl pP "WorkMeter$Demand" 38 (5, 2, 3, 0) := ⟨pm5, rfl, q6, q63, ⟨nc14.1, nc14.2, pd54⟩, .inl ⟨.inr (.inr rfl), q212⟩, xab (by decide), xab (by decide), fun _ => q62⟩
theorem lpf59 : xPf ⟨"WorkMeter$Marks", "<init>", "()V"⟩ 9 5 0 3 := ⟨_, _, _, rfl, by decide, .inr (.inr (.inr ⟨rfl, .inr ⟨_, rfl⟩⟩)), .inr ⟨rfl, rfl, rfl, q237⟩⟩
theorem lpf60 : xPf ⟨"WorkMeter$Marks", "<init>", "()V"⟩ 13 5 1 3 := ⟨_, _, _, rfl, by decide, .inr (.inr (.inr ⟨rfl, .inr ⟨_, rfl⟩⟩)), .inr ⟨rfl, rfl, rfl, q239⟩⟩
theorem lpf61 : xPf ⟨"WorkMeter$Marks", "<init>", "()V"⟩ 16 5 2 3 := ⟨_, _, _, rfl, by decide, .inr (.inr (.inr ⟨rfl, .inr ⟨_, rfl⟩⟩)), .inr ⟨rfl, rfl, rfl, q241⟩⟩
theorem lpf62 : xPf ⟨"WorkMeter$Logbook", "<init>", "()V"⟩ 9 4 0 3 := ⟨_, _, _, rfl, by decide, .inr (.inr (.inr ⟨rfl, .inr ⟨_, rfl⟩⟩)), .inr ⟨rfl, rfl, rfl, q261⟩⟩
theorem lpf63 : xPf ⟨"WorkMeter$CalendarText", "<init>", "()V"⟩ 11 1 0 3 := ⟨_, _, _, rfl, by decide, .inr (.inr (.inr ⟨rfl, .inr ⟨_, rfl⟩⟩)), .inr ⟨rfl, rfl, rfl, q370⟩⟩
theorem lkc64 : x_lkC (osO fv) xTT pCl pP "WorkMeter$CalendarText" 17 (3, 0, 2, 0) := ⟨pm3, rfl, q5, q55, ⟨nc1.1, nc1.2, pd2⟩, .inl ⟨.inr (.inl rfl), q369⟩, xab (by decide), fun _ => ⟨rfl, rfl, q54⟩, xab (by decide)⟩
theorem lpf65 : xPf ⟨"WorkMeter$CalendarText", "<init>", "()V"⟩ 18 1 1 3 := ⟨_, _, _, rfl, by decide, .inr (.inr (.inr ⟨rfl, .inl ⟨_, rfl⟩⟩)), .inr ⟨rfl, rfl, rfl, q371⟩⟩
theorem lpf66 : xPf ⟨"WorkMeter$CalendarText", "<init>", "()V"⟩ 22 1 2 3 := ⟨_, _, _, rfl, by decide, .inr (.inr (.inr ⟨rfl, .inr ⟨_, rfl⟩⟩)), .inr ⟨rfl, rfl, rfl, q373⟩⟩
theorem lpf67 : xPf ⟨"WorkMeter$CalendarText", "<init>", "()V"⟩ 25 1 5 0 := ⟨_, _, _, rfl, by decide, .inl ⟨rfl, rfl⟩, .inl ⟨rfl, .inl q379⟩⟩
theorem lgf68 : xGf "WorkMeter" 12 11 0 := ⟨_, _, _, rfl, by decide, .inl q410⟩
theorem lgf69 : xGf "WorkMeter" 29 6 8 := ⟨_, _, _, rfl, by decide, .inl q314⟩
theorem lkc70 : x_lkC (osO fv) xTT pCl pP "WorkMeter" 33 (17, 0, 1, 8) := ⟨pm17, rfl, q13, q433, ⟨nc9.1, nc9.2, pd3⟩, .inl ⟨.inl rfl, q430⟩, fun _ => ⟨q431, q432, pF8, 5, rfl⟩, xab (by decide), xab (by decide)⟩
theorem lgf71 : xGf "WorkMeter" 39 6 2 := ⟨_, _, _, rfl, by decide, .inl q302⟩
theorem lkc72 : x_lkC (osO fv) xTT pCl pP "WorkMeter" 43 (18, 2, 1, 10) := ⟨pm18, rfl, q7, q437, ⟨nc11.1, nc11.2, pd13⟩, .inl ⟨.inl rfl, q434⟩, fun _ => ⟨q435, q436, pF10, 7, rfl⟩, xab (by decide), xab (by decide)⟩
theorem lgf73 : xGf "WorkMeter$Seal" 7 8 0 := ⟨_, _, _, rfl, by decide, .inl q275⟩
theorem lgf74 : xGf "WorkMeter$Seal" 20 8 3 := ⟨_, _, _, rfl, by decide, .inl q283⟩
theorem lpf75 : xPf ⟨"WorkMeter$Seal", "refuses", "()Z"⟩ 20 8 3 0 := ⟨_, _, _, rfl, by decide, .inl ⟨rfl, rfl⟩, .inl ⟨rfl, .inl q283⟩⟩
theorem lpf76 : xPf ⟨"WorkMeter$Wave", "tellShape", "(II)Z"⟩ 22 10 3 0 := ⟨_, _, _, rfl, by decide, .inl ⟨rfl, rfl⟩, .inl ⟨rfl, .inl q108⟩⟩
theorem lpf77 : xPf ⟨"WorkMeter$Wave", "tellShape", "(II)Z"⟩ 26 10 4 0 := ⟨_, _, _, rfl, by decide, .inl ⟨rfl, rfl⟩, .inl ⟨rfl, .inl q110⟩⟩
theorem lpf78 : xPf ⟨"WorkMeter$Wave", "tellShape", "(II)Z"⟩ 35 10 5 0 := ⟨_, _, _, rfl, by decide, .inl ⟨rfl, rfl⟩, .inl ⟨rfl, .inl q112⟩⟩
theorem lpf79 : xPf ⟨"WorkMeter$Wave", "tellShape", "(II)Z"⟩ 38 10 6 1 := ⟨_, _, _, rfl, by decide, .inr (.inl ⟨rfl, rfl⟩), .inl ⟨rfl, .inl q115⟩⟩
theorem lgf80 : xGf "WorkMeter$Wave" 18 10 2 := ⟨_, _, _, rfl, by decide, .inl q107⟩
theorem lkc81 : x_lkC (osO fv) xTT pCl pP "WorkMeter$Wave" 42 (11, 2, 3, 0) := ⟨pm11, rfl, q6, q211, ⟨nc14.1, nc14.2, pd56⟩, .inl ⟨.inr (.inr rfl), q438⟩, xab (by decide), xab (by decide), fun _ => q210⟩
theorem lkc82 : x_lkC (osO fv) xTT pCl pP "WorkMeter" 49 (20, 2, 1, 10) := ⟨pm20, rfl, q7, q446, ⟨nc11.1, nc11.2, pd13⟩, .inl ⟨.inl rfl, q443⟩, fun _ => ⟨q444, q445, pF10, 7, rfl⟩, xab (by decide), xab (by decide)⟩
theorem lkc83 : x_lkC (osO fv) xTT pCl pP "WorkMeter" 52 (25, 1, 1, 6) := ⟨pm25, rfl, q2, q465, ⟨nc7.1, nc7.2, pd8⟩, .inl ⟨.inl rfl, q462⟩, fun _ => ⟨q463, q464, pF6, 16, rfl⟩, xab (by decide), xab (by decide)⟩
theorem lgf84 : xGf "WorkMeter" 56 10 5 := ⟨_, _, _, rfl, by decide, .inl q113⟩
theorem lgf85 : xGf "WorkMeter$Wave" 11 10 0 := ⟨_, _, _, rfl, by decide, .inl q105⟩
theorem lgf86 : xGf "WorkMeter$Wave" 35 10 5 := ⟨_, _, _, rfl, by decide, .inl q112⟩
theorem lgf87 : xGf "WorkMeter$Wave" 15 10 1 := ⟨_, _, _, rfl, by decide, .inl q106⟩
theorem lpf88 : xPf ⟨"WorkMeter$Wave", "takeSample", "(II)Z"⟩ 35 10 5 0 := ⟨_, _, _, rfl, by decide, .inl ⟨rfl, rfl⟩, .inl ⟨rfl, .inl q112⟩⟩
theorem lgf89 : xGf "WorkMeter$Wave" 22 10 3 := ⟨_, _, _, rfl, by decide, .inl q108⟩
theorem lgf90 : xGf "WorkMeter$Wave" 26 10 4 := ⟨_, _, _, rfl, by decide, .inl q110⟩
theorem lkc91 : x_lkC (osO fv) xTT pCl pP "WorkMeter$Wave" 48 (21, 0, 1, 10) := ⟨pm21, rfl, q7, q450, ⟨nc11.1, nc11.2, pd2⟩, .inl ⟨.inl rfl, q447⟩, fun _ => ⟨q449, qs0, pF10, 7, rfl⟩, xab (by decide), xab (by decide)⟩
theorem lkc92 : x_lkC (osO fv) xTT pCl pP "WorkMeter$Wave" 51 (22, 3, 1, 10) := ⟨pm22, rfl, q7, q454, ⟨nc11.1, nc11.2, pd16⟩, .inl ⟨.inl rfl, q451⟩, fun _ => ⟨q453, qs1, pF10, 7, rfl⟩, xab (by decide), xab (by decide)⟩
theorem lkc93 : x_lkC (osO fv) xTT pCl pP "WorkMeter$Wave" 55 (23, 1, 1, 10) := ⟨pm23, rfl, q7, q458, ⟨nc11.1, nc11.2, pd7⟩, .inl ⟨.inl rfl, q455⟩, fun _ => ⟨q457, qs2, pF10, 7, rfl⟩, xab (by decide), xab (by decide)⟩
theorem lpf94 : xPf ⟨"WorkMeter$Wave", "sumUp", "()V"⟩ 38 10 6 1 := ⟨_, _, _, rfl, by decide, .inr (.inl ⟨rfl, rfl⟩), .inl ⟨rfl, .inl q115⟩⟩
theorem lkc95 : x_lkC (osO fv) xTT pCl pP "WorkMeter$Wave" 59 (24, 1, 3, 0) := ⟨pm24, rfl, q7, q461, ⟨nc11.1, nc11.2, pd29⟩, .inl ⟨.inr (.inr rfl), q459⟩, xab (by decide), xab (by decide), fun _ => q460⟩
theorem lkc96 : x_lkC (osO fv) xTT pCl pP "WorkMeter$Meter" 214 (26, 1, 1, 6) := ⟨pm26, rfl, q2, q469, ⟨nc7.1, nc7.2, pd6⟩, .inl ⟨.inl rfl, q466⟩, fun _ => ⟨q468, qs3, pF6, 16, rfl⟩, xab (by decide), xab (by decide)⟩
theorem lgf97 : xGf "WorkMeter$Meter" 21 6 1 := ⟨_, _, _, rfl, by decide, .inl q299⟩
theorem lgf98 : xGf "WorkMeter$Meter" 102 6 9 := ⟨_, _, _, rfl, by decide, .inl q315⟩
theorem lkc99 : x_lkC (osO fv) xTT pCl pP "WorkMeter$Meter" 208 (27, 1, 1, 0) := ⟨pm27, rfl, q5, q473, ⟨nc1.1, nc1.2, pd6⟩, .inl ⟨.inl rfl, q470⟩, fun _ => ⟨q471, q472, pF0, 8, rfl⟩, xab (by decide), xab (by decide)⟩
theorem lgf100 : xGf "WorkMeter$Meter" 28 6 2 := ⟨_, _, _, rfl, by decide, .inl q301⟩
theorem lgf101 : xGf "WorkMeter$Meter" 12 6 0 := ⟨_, _, _, rfl, by decide, .inl q297⟩
theorem lkc102 : x_lkC (osO fv) xTT pCl pP "WorkMeter$Meter" 217 (33, 0, 1, 9) := ⟨pm33, rfl, q3, q498, ⟨nc10.1, nc10.2, pd0⟩, .inl ⟨.inl rfl, q495⟩, fun _ => ⟨q496, q497, pF9, 1, rfl⟩, xab (by decide), xab (by decide)⟩
theorem lkc103 : x_lkC (osO fv) xTT pCl pP "WorkMeter$Meter" 220 (34, 1, 1, 10) := ⟨pm34, rfl, q7, q502, ⟨nc11.1, nc11.2, pd6⟩, .inl ⟨.inl rfl, q499⟩, fun _ => ⟨q500, q501, pF10, 7, rfl⟩, xab (by decide), xab (by decide)⟩
theorem lkc104 : x_lkC (osO fv) xTT pCl pP "WorkMeter$Meter" 223 (35, 3, 1, 6) := ⟨pm35, rfl, q2, q506, ⟨nc7.1, nc7.2, pd14⟩, .inl ⟨.inl rfl, q503⟩, fun _ => ⟨q505, qs8, pF6, 16, rfl⟩, xab (by decide), xab (by decide)⟩
theorem lkc105 : x_lkC (osO fv) xTT pCl pP "WorkMeter$Meter" 227 (49, 2, 1, 6) := ⟨pm49, rfl, q2, q580, ⟨nc7.1, nc7.2, pd12⟩, .inl ⟨.inl rfl, q577⟩, fun _ => ⟨q579, qs11, pF6, 16, rfl⟩, xab (by decide), xab (by decide)⟩
theorem lgf106 : xGf "WorkMeter$Meter" 117 6 13 := ⟨_, _, _, rfl, by decide, .inl q323⟩
theorem lpf107 : xPf ⟨"WorkMeter$Meter", "meterStretch", "(I)I"⟩ 117 6 13 0 := ⟨_, _, _, rfl, by decide, .inl ⟨rfl, rfl⟩, .inl ⟨rfl, .inl q323⟩⟩
theorem lpf108 : xPf ⟨"WorkMeter$Meter", "meterStretch", "(I)I"⟩ 102 6 9 0 := ⟨_, _, _, rfl, by decide, .inl ⟨rfl, rfl⟩, .inl ⟨rfl, .inl q315⟩⟩
theorem lkc109 : x_lkC (osO fv) xTT pCl pP "WorkMeter$Meter" 230 (53, 0, 1, 6) := ⟨pm53, rfl, q2, q596, ⟨nc7.1, nc7.2, pd2⟩, .inl ⟨.inl rfl, q593⟩, fun _ => ⟨q594, q595, pF6, 16, rfl⟩, xab (by decide), xab (by decide)⟩
theorem lgf110 : xGf "WorkMeter$Meter" 56 6 6 := ⟨_, _, _, rfl, by decide, .inl q309⟩
theorem lkc111 : x_lkC (osO fv) xTT pCl pP "WorkMeter$Meter" 233 (38, 0, 1, 9) := ⟨pm38, rfl, q3, q525, ⟨nc10.1, nc10.2, pd0⟩, .inl ⟨.inl rfl, q522⟩, fun _ => ⟨q523, q524, pF9, 1, rfl⟩, xab (by decide), xab (by decide)⟩
theorem lgf112 : xGf "WorkMeter$Meter" 63 6 7 := ⟨_, _, _, rfl, by decide, .inl q311⟩
theorem lkc113 : x_lkC (osO fv) xTT pCl pP "WorkMeter$Meter" 236 (56, 5, 1, 5) := ⟨pm56, rfl, q11, q608, ⟨nc6.1, nc6.2, pd20⟩, .inl ⟨.inl rfl, q605⟩, fun _ => ⟨q606, q607, pF5, 4, rfl⟩, xab (by decide), xab (by decide)⟩
theorem lgf114 : xGf "WorkMeter$Meter" 42 6 4 := ⟨_, _, _, rfl, by decide, .inl q305⟩
theorem lgf115 : xGf "WorkMeter$Meter" 202 5 3 := ⟨_, _, _, rfl, by decide, .inl q244⟩
theorem lkc116 : x_lkC (osO fv) xTT pCl pP "WorkMeter$Meter" 240 (58, 2, 1, 3) := ⟨pm58, rfl, q9, q617, ⟨nc4.1, nc4.2, pd12⟩, .inl ⟨.inl rfl, q614⟩, fun _ => ⟨q615, q616, pF3, 10, rfl⟩, xab (by decide), xab (by decide)⟩
theorem lic117 : ∃ v, Value.int (Int32.ofInt 2000000000) = .int v ∧ Jvm.Cond.constant "WorkMeter$Meter" 243 v ∈ xTT := ⟨(2000000000 : Int32), congrArg _ (by decide +kernel), q507⟩
theorem lkc118 : x_lkC (osO fv) xTT pCl pP "WorkMeter$Meter" 211 (59, 1, 1, 6) := ⟨pm59, rfl, q2, q621, ⟨nc7.1, nc7.2, pd8⟩, .inl ⟨.inl rfl, q618⟩, fun _ => ⟨q620, qs12, pF6, 16, rfl⟩, xab (by decide), xab (by decide)⟩
theorem lic119 : ∃ v, Value.int (Int32.ofInt 86400) = .int v ∧ Jvm.Cond.constant "WorkMeter$Calendar" 67 v ∈ xTT := ⟨(86400 : Int32), congrArg _ (by decide +kernel), q474⟩
theorem lkc120 : x_lkC (osO fv) xTT pCl pP "WorkMeter$Calendar" 68 (28, 1, 1, 0) := ⟨pm28, rfl, q5, q478, ⟨nc1.1, nc1.2, pd6⟩, .inl ⟨.inl rfl, q475⟩, fun _ => ⟨q476, q477, pF0, 8, rfl⟩, xab (by decide), xab (by decide)⟩
theorem lkc121 : x_lkC (osO fv) xTT pCl pP "WorkMeter$Calendar" 71 (31, 2, 1, 0) := ⟨pm31, rfl, q5, q490, ⟨nc1.1, nc1.2, pd10⟩, .inl ⟨.inl rfl, q487⟩, fun _ => ⟨q489, qs6, pF0, 8, rfl⟩, xab (by decide), xab (by decide)⟩
theorem lkc122 : x_lkC (osO fv) xTT pCl pP "WorkMeter$Calendar" 60 (29, 1, 1, 0) := ⟨pm29, rfl, q5, q482, ⟨nc1.1, nc1.2, pd6⟩, .inl ⟨.inl rfl, q479⟩, fun _ => ⟨q481, qs4, pF0, 8, rfl⟩, xab (by decide), xab (by decide)⟩
theorem lgf123 : xGf "WorkMeter$Calendar" 30 0 6 := ⟨_, _, _, rfl, by decide, .inl q78⟩
theorem lkc124 : x_lkC (osO fv) xTT pCl pP "WorkMeter$Calendar" 64 (30, 1, 1, 0) := ⟨pm30, rfl, q5, q486, ⟨nc1.1, nc1.2, pd6⟩, .inl ⟨.inl rfl, q483⟩, fun _ => ⟨q485, qs5, pF0, 8, rfl⟩, xab (by decide), xab (by decide)⟩
theorem lgf125 : xGf "WorkMeter$Calendar" 42 0 7 := ⟨_, _, _, rfl, by decide, .inl q79⟩
theorem lgf126 : xGf "WorkMeter$Calendar" 27 0 5 := ⟨_, _, _, rfl, by decide, .inl q77⟩
theorem lkc127 : x_lkC (osO fv) xTT pCl pP "WorkMeter$Calendar" 52 (32, 2, 1, 0) := ⟨pm32, rfl, q5, q494, ⟨nc1.1, nc1.2, pd10⟩, .inl ⟨.inl rfl, q491⟩, fun _ => ⟨q493, qs7, pF0, 8, rfl⟩, xab (by decide), xab (by decide)⟩
theorem lgf128 : xGf "WorkMeter$Calendar" 18 0 2 := ⟨_, _, _, rfl, by decide, .inl q69⟩
theorem lgf129 : xGf "WorkMeter$Calendar" 15 0 1 := ⟨_, _, _, rfl, by decide, .inl q67⟩
theorem lkc130 : x_lkC (osO fv) xTT pCl pP "WorkMeter$Meter" 142 (36, 0, 1, 9) := ⟨pm36, rfl, q3, q511, ⟨nc10.1, nc10.2, pd0⟩, .inl ⟨.inl rfl, q508⟩, fun _ => ⟨q509, q510, pF9, 1, rfl⟩, xab (by decide), xab (by decide)⟩
theorem lkc131 : x_lkC (osO fv) xTT pCl pP "WorkMeter$Meter" 244 (37, 1, 1, 0) := ⟨pm37, rfl, q5, q521, ⟨nc1.1, nc1.2, pd6⟩, .inl ⟨.inl rfl, q518⟩, fun _ => ⟨q519, q520, pF0, 8, rfl⟩, xab (by decide), xab (by decide)⟩
theorem lkc132 : x_lkC (osO fv) xTT pCl pP "WorkMeter$Meter" 247 (39, 3, 1, 5) := ⟨pm39, rfl, q11, q529, ⟨nc6.1, nc6.2, pd14⟩, .inl ⟨.inl rfl, q526⟩, fun _ => ⟨q527, q528, pF5, 4, rfl⟩, xab (by decide), xab (by decide)⟩
theorem lkc133 : x_lkC (osO fv) xTT pCl pP "WorkMeter$Meter" 250 (41, 2, 1, 6) := ⟨pm41, rfl, q2, q539, ⟨nc7.1, nc7.2, pd10⟩, .inl ⟨.inl rfl, q536⟩, fun _ => ⟨q538, qs9, pF6, 16, rfl⟩, xab (by decide), xab (by decide)⟩
theorem lkc134 : x_lkC (osO fv) xTT pCl pP "WorkMeter$Marks" 35 (40, 1, 1, 5) := ⟨pm40, rfl, q11, q533, ⟨nc6.1, nc6.2, pd9⟩, .inl ⟨.inl rfl, q530⟩, fun _ => ⟨q531, q532, pF5, 4, rfl⟩, xab (by decide), xab (by decide)⟩
theorem lgf135 : xGf "WorkMeter$Marks" 16 5 2 := ⟨_, _, _, rfl, by decide, .inl q241⟩
theorem lgf136 : xGf "WorkMeter$Marks" 25 5 3 := ⟨_, _, _, rfl, by decide, .inl q243⟩
theorem lkc137 : x_lkC (osO fv) xTT pCl pP "WorkMeter$Meter" 256 (42, 0, 1, 10) := ⟨pm42, rfl, q7, q543, ⟨nc11.1, nc11.2, pd1⟩, .inl ⟨.inl rfl, q540⟩, fun _ => ⟨q541, q542, pF10, 7, rfl⟩, xab (by decide), xab (by decide)⟩
theorem lkc138 : x_lkC (osO fv) xTT pCl pP "WorkMeter$Meter" 267 (43, 1, 1, 9) := ⟨pm43, rfl, q3, q547, ⟨nc10.1, nc10.2, pd6⟩, .inl ⟨.inl rfl, q544⟩, fun _ => ⟨q545, q546, pF9, 1, rfl⟩, xab (by decide), xab (by decide)⟩
theorem lgf139 : xGf "WorkMeter$Meter" 110 6 11 := ⟨_, _, _, rfl, by decide, .inl q319⟩
theorem lgf140 : xGf "WorkMeter$Meter" 114 6 12 := ⟨_, _, _, rfl, by decide, .inl q321⟩
theorem lkc141 : x_lkC (osO fv) xTT pCl pP "WorkMeter$Meter" 270 (44, 0, 1, 6) := ⟨pm44, rfl, q2, q551, ⟨nc7.1, nc7.2, pd3⟩, .inl ⟨.inl rfl, q548⟩, fun _ => ⟨q550, qs10, pF6, 16, rfl⟩, xab (by decide), xab (by decide)⟩
theorem lgf142 : xGf "WorkMeter$Meter" 106 6 10 := ⟨_, _, _, rfl, by decide, .inl q317⟩
theorem lgf143 : xGf "WorkMeter$Meter" 35 6 3 := ⟨_, _, _, rfl, by decide, .inl q303⟩
theorem lkc144 : x_lkC (osO fv) xTT pCl pP "WorkMeter$Meter" 273 (47, 1, 1, 7) := ⟨pm47, rfl, q8, q566, ⟨nc8.1, nc8.2, pd7⟩, .inl ⟨.inl rfl, q563⟩, fun _ => ⟨q564, q565, pF7, 4, rfl⟩, xab (by decide), xab (by decide)⟩
theorem lkc145 : x_lkC (osO fv) xTT pCl pP "WorkMeter$Meter" 134 (48, 0, 1, 9) := ⟨pm48, rfl, q3, q570, ⟨nc10.1, nc10.2, pd0⟩, .inl ⟨.inl rfl, q567⟩, fun _ => ⟨q568, q569, pF9, 1, rfl⟩, xab (by decide), xab (by decide)⟩
theorem lkc146 : x_lkC (osO fv) xTT pCl pP "WorkMeter$Meter" 253 (45, 0, 1, 9) := ⟨pm45, rfl, q3, q555, ⟨nc10.1, nc10.2, pd0⟩, .inl ⟨.inl rfl, q552⟩, fun _ => ⟨q553, q554, pF9, 1, rfl⟩, xab (by decide), xab (by decide)⟩
theorem lkc147 : x_lkC (osO fv) xTT pCl pP "WorkMeter$Meter" 260 (46, 0, 1, 10) := ⟨pm46, rfl, q7, q559, ⟨nc11.1, nc11.2, pd1⟩, .inl ⟨.inl rfl, q556⟩, fun _ => ⟨q557, q558, pF10, 7, rfl⟩, xab (by decide), xab (by decide)⟩
theorem lgf148 : xGf "WorkMeter$Registers" 11 7 0 := ⟨_, _, _, rfl, by decide, .inl q139⟩
theorem lgf149 : xGf "WorkMeter$Meter" 120 6 14 := ⟨_, _, _, rfl, by decide, .inl q325⟩
theorem lpf150 : xPf ⟨"WorkMeter$Meter", "meterPower", "(II)V"⟩ 120 6 14 0 := ⟨_, _, _, rfl, by decide, .inl ⟨rfl, rfl⟩, .inl ⟨rfl, .inl q325⟩⟩
theorem lgf151 : xGf "WorkMeter$Meter" 283 10 6 := ⟨_, _, _, rfl, by decide, .inl q116⟩
theorem lkc152 : x_lkC (osO fv) xTT pCl pP "WorkMeter$Meter" 286 (50, 4, 1, 7) := ⟨pm50, rfl, q8, q584, ⟨nc8.1, nc8.2, pd24⟩, .inl ⟨.inl rfl, q581⟩, fun _ => ⟨q582, q583, pF7, 4, rfl⟩, xab (by decide), xab (by decide)⟩
theorem lpf153 : xPf ⟨"WorkMeter$Meter", "meterPower", "(II)V"⟩ 106 6 10 1 := ⟨_, _, _, rfl, by decide, .inr (.inl ⟨rfl, rfl⟩), .inl ⟨rfl, .inl q317⟩⟩
theorem lkc154 : x_lkC (osO fv) xTT pCl pP "WorkMeter$Meter" 290 (52, 2, 1, 3) := ⟨pm52, rfl, q9, q592, ⟨nc4.1, nc4.2, pd33⟩, .inl ⟨.inl rfl, q589⟩, fun _ => ⟨q590, q591, pF3, 10, rfl⟩, xab (by decide), xab (by decide)⟩
theorem lkc155 : x_lkC (osO fv) xTT pCl pP "WorkMeter$Registers" 31 (51, 2, 3, 0) := ⟨pm51, rfl, q7, q587, ⟨nc11.1, nc11.2, pd31⟩, .inl ⟨.inr (.inr rfl), q585⟩, xab (by decide), xab (by decide), fun _ => q586⟩
theorem lgf156 : xGf "WorkMeter$Load" 28 3 3 := ⟨_, _, _, rfl, by decide, .inl q164⟩
theorem lpf157 : xPf ⟨"WorkMeter$Load", "addPower", "(JJ)V"⟩ 28 3 3 1 := ⟨_, _, _, rfl, by decide, .inr (.inl ⟨rfl, rfl⟩), .inl ⟨rfl, .inl q164⟩⟩
theorem lgf158 : xGf "WorkMeter$Load" 32 3 4 := ⟨_, _, _, rfl, by decide, .inl q166⟩
theorem lpf159 : xPf ⟨"WorkMeter$Load", "addPower", "(JJ)V"⟩ 32 3 4 1 := ⟨_, _, _, rfl, by decide, .inr (.inl ⟨rfl, rfl⟩), .inl ⟨rfl, .inl q166⟩⟩
theorem lgf160 : xGf "WorkMeter$Load" 35 3 5 := ⟨_, _, _, rfl, by decide, .inl q168⟩
theorem lpf161 : xPf ⟨"WorkMeter$Load", "addPower", "(JJ)V"⟩ 35 3 5 1 := ⟨_, _, _, rfl, by decide, .inr (.inl ⟨rfl, rfl⟩), .inl ⟨rfl, .inl q168⟩⟩
theorem lpf162 : xPf ⟨"WorkMeter$Meter", "settleSwitch", "()V"⟩ 114 6 12 2 := ⟨_, _, _, rfl, by decide, .inr (.inr (.inl ⟨rfl, rfl⟩)), .inl ⟨rfl, .inl q321⟩⟩
theorem lkc163 : x_lkC (osO fv) xTT pCl pP "WorkMeter$Meter" 165 (54, 2, 1, 6) := ⟨pm54, rfl, q2, q600, ⟨nc7.1, nc7.2, pd12⟩, .inl ⟨.inl rfl, q597⟩, fun _ => ⟨q598, q599, pF6, 16, rfl⟩, xab (by decide), xab (by decide)⟩
theorem lkc164 : x_lkC (osO fv) xTT pCl pP "WorkMeter$Meter" 126 (55, 3, 1, 4) := ⟨pm55, rfl, q12, q604, ⟨nc5.1, nc5.2, pd16⟩, .inl ⟨.inl rfl, q601⟩, fun _ => ⟨q602, q603, pF4, 2, rfl⟩, xab (by decide), xab (by decide)⟩
theorem lgf165 : xGf "WorkMeter$Logbook" 19 4 1 := ⟨_, _, _, rfl, by decide, .inl q262⟩
theorem lgf166 : xGf "WorkMeter$Logbook" 9 4 0 := ⟨_, _, _, rfl, by decide, .inl q261⟩
theorem lpf167 : xPf ⟨"WorkMeter$Logbook", "add", "(III)V"⟩ 19 4 1 0 := ⟨_, _, _, rfl, by decide, .inl ⟨rfl, rfl⟩, .inl ⟨rfl, .inl q262⟩⟩
theorem lkc168 : x_lkC (osO fv) xTT pCl pP "WorkMeter$Marks" 39 (57, 4, 1, 5) := ⟨pm57, rfl, q11, q612, ⟨nc6.1, nc6.2, pd28⟩, .inl ⟨.inl rfl, q609⟩, fun _ => ⟨q610, q611, pF5, 4, rfl⟩, xab (by decide), xab (by decide)⟩
theorem lgf169 : xGf "WorkMeter$Marks" 13 5 1 := ⟨_, _, _, rfl, by decide, .inl q239⟩
theorem lpf170 : xPf ⟨"WorkMeter$Marks", "turn", "(IZLWorkMeter$Logbook;I)V"⟩ 25 5 3 0 := ⟨_, _, _, rfl, by decide, .inl ⟨rfl, rfl⟩, .inl ⟨rfl, .inl q243⟩⟩
theorem lgf171 : xGf "WorkMeter$Marks" 9 5 0 := ⟨_, _, _, rfl, by decide, .inl q237⟩
theorem lkc172 : x_lkC (osO fv) xTT pCl pP "WorkMeter$Marks" 29 (55, 3, 1, 4) := ⟨pm55, rfl, q12, q604, ⟨nc5.1, nc5.2, pd16⟩, .inl ⟨.inl rfl, q613⟩, fun _ => ⟨q602, q603, pF4, 2, rfl⟩, xab (by decide), xab (by decide)⟩
theorem lgf173 : xGf "WorkMeter$Load" 38 3 6 := ⟨_, _, _, rfl, by decide, .inl q170⟩
theorem lpf174 : xPf ⟨"WorkMeter$Load", "addMetered", "(II)V"⟩ 38 3 6 0 := ⟨_, _, _, rfl, by decide, .inl ⟨rfl, rfl⟩, .inl ⟨rfl, .inl q170⟩⟩
theorem lgf175 : xGf "WorkMeter$Load" 44 3 8 := ⟨_, _, _, rfl, by decide, .inl q174⟩
theorem lpf176 : xPf ⟨"WorkMeter$Load", "addMetered", "(II)V"⟩ 44 3 8 0 := ⟨_, _, _, rfl, by decide, .inl ⟨rfl, rfl⟩, .inl ⟨rfl, .inl q174⟩⟩
theorem lkc177 : x_lkC (osO fv) xTT pCl pP "WorkMeter$Meter" 145 (60, 3, 1, 3) := ⟨pm60, rfl, q9, q625, ⟨nc4.1, nc4.2, pd16⟩, .inl ⟨.inl rfl, q622⟩, fun _ => ⟨q623, q624, pF3, 10, rfl⟩, xab (by decide), xab (by decide)⟩
theorem lgf178 : xGf "WorkMeter$Meter" 49 6 5 := ⟨_, _, _, rfl, by decide, .inl q307⟩
theorem lkc179 : x_lkC (osO fv) xTT pCl pP "WorkMeter$Meter" 294 (63, 0, 1, 9) := ⟨pm63, rfl, q3, q637, ⟨nc10.1, nc10.2, pd0⟩, .inl ⟨.inl rfl, q634⟩, fun _ => ⟨q635, q636, pF9, 1, rfl⟩, xab (by decide), xab (by decide)⟩
theorem lkc180 : x_lkC (osO fv) xTT pCl pP "WorkMeter$Meter" 297 (64, 4, 1, 2) := ⟨pm64, rfl, q10, q641, ⟨nc3.1, nc3.2, pd40⟩, .inl ⟨.inl rfl, q638⟩, fun _ => ⟨q639, q640, pF2, 4, rfl⟩, xab (by decide), xab (by decide)⟩
theorem lgf181 : xGf "WorkMeter$Load" 41 3 7 := ⟨_, _, _, rfl, by decide, .inl q172⟩
theorem lkc182 : x_lkC (osO fv) xTT pCl pP "WorkMeter$Load" 56 (61, 1, 1, 3) := ⟨pm61, rfl, q9, q629, ⟨nc4.1, nc4.2, pd6⟩, .inl ⟨.inl rfl, q626⟩, fun _ => ⟨q627, q628, pF3, 10, rfl⟩, xab (by decide), xab (by decide)⟩
theorem lkc183 : x_lkC (osO fv) xTT pCl pP "WorkMeter$Load" 60 (62, 2, 1, 3) := ⟨pm62, rfl, q9, q633, ⟨nc4.1, nc4.2, pd12⟩, .inl ⟨.inl rfl, q630⟩, fun _ => ⟨q632, qs13, pF3, 10, rfl⟩, xab (by decide), xab (by decide)⟩
theorem lpf184 : xPf ⟨"WorkMeter$Load", "endBlock", "(III)V"⟩ 28 3 3 1 := ⟨_, _, _, rfl, by decide, .inr (.inl ⟨rfl, rfl⟩), .inl ⟨rfl, .inl q164⟩⟩
theorem lpf185 : xPf ⟨"WorkMeter$Load", "endBlock", "(III)V"⟩ 32 3 4 1 := ⟨_, _, _, rfl, by decide, .inr (.inl ⟨rfl, rfl⟩), .inl ⟨rfl, .inl q166⟩⟩
theorem lpf186 : xPf ⟨"WorkMeter$Load", "endBlock", "(III)V"⟩ 35 3 5 1 := ⟨_, _, _, rfl, by decide, .inr (.inl ⟨rfl, rfl⟩), .inl ⟨rfl, .inl q168⟩⟩
theorem lpf187 : xPf ⟨"WorkMeter$Load", "endBlock", "(III)V"⟩ 38 3 6 0 := ⟨_, _, _, rfl, by decide, .inl ⟨rfl, rfl⟩, .inl ⟨rfl, .inl q170⟩⟩
theorem lpf188 : xPf ⟨"WorkMeter$Load", "endBlock", "(III)V"⟩ 41 3 7 0 := ⟨_, _, _, rfl, by decide, .inl ⟨rfl, rfl⟩, .inl ⟨rfl, .inl q172⟩⟩
theorem lpf189 : xPf ⟨"WorkMeter$Load", "endBlock", "(III)V"⟩ 44 3 8 0 := ⟨_, _, _, rfl, by decide, .inl ⟨rfl, rfl⟩, .inl ⟨rfl, .inl q174⟩⟩
theorem lpf190 : xPf ⟨"WorkMeter$Load", "endBlock", "(III)V"⟩ 47 3 9 0 := ⟨_, _, _, rfl, by decide, .inl ⟨rfl, rfl⟩, .inl ⟨rfl, .inl q175⟩⟩
theorem lgf191 : xGf "WorkMeter$Load" 47 3 9 := ⟨_, _, _, rfl, by decide, .inl q175⟩
theorem lgf192 : xGf "WorkMeter$Load" 24 3 2 := ⟨_, _, _, rfl, by decide, .inl q162⟩
theorem lgf193 : xGf "WorkMeter$Load" 15 3 1 := ⟨_, _, _, rfl, by decide, .inl q160⟩
theorem lgf194 : xGf "WorkMeter$Load" 11 3 0 := ⟨_, _, _, rfl, by decide, .inl q159⟩
theorem lpf195 : xPf ⟨"WorkMeter$Load", "addLine", "(II)V"⟩ 24 3 2 0 := ⟨_, _, _, rfl, by decide, .inl ⟨rfl, rfl⟩, .inl ⟨rfl, .inl q162⟩⟩
theorem lkc196 : x_lkC (osO fv) xTT pCl pP "WorkMeter$Demand" 47 (65, 3, 3, 0) := ⟨pm65, rfl, q10, q644, ⟨nc3.1, nc3.2, pd39⟩, .inl ⟨.inr (.inr rfl), q642⟩, xab (by decide), xab (by decide), fun _ => q643⟩
theorem lkc197 : x_lkC (osO fv) xTT pCl pP "WorkMeter$Demand" 51 (68, 2, 1, 3) := ⟨pm68, rfl, q9, q658, ⟨nc4.1, nc4.2, pd11⟩, .inl ⟨.inl rfl, q655⟩, fun _ => ⟨q656, q657, pF3, 10, rfl⟩, xab (by decide), xab (by decide)⟩
theorem lpf198 : xPf ⟨"WorkMeter$Demand", "blockEnded", "(LWorkMeter$Load;III)V"⟩ 21 2 2 1 := ⟨_, _, _, rfl, by decide, .inr (.inl ⟨rfl, rfl⟩), .inl ⟨rfl, .inl q218⟩⟩
theorem lkc199 : x_lkC (osO fv) xTT pCl pP "WorkMeter$Demand" 57 (67, 2, 1, 3) := ⟨pm67, rfl, q9, q653, ⟨nc4.1, nc4.2, pd11⟩, .inl ⟨.inl rfl, q650⟩, fun _ => ⟨q651, q652, pF3, 10, rfl⟩, xab (by decide), xab (by decide)⟩
theorem lpf200 : xPf ⟨"WorkMeter$Demand", "blockEnded", "(LWorkMeter$Load;III)V"⟩ 25 2 3 0 := ⟨_, _, _, rfl, by decide, .inl ⟨rfl, rfl⟩, .inl ⟨rfl, .inl q220⟩⟩
theorem lgf201 : xGf "WorkMeter$Demand" 21 2 2 := ⟨_, _, _, rfl, by decide, .inl q218⟩
theorem lgf202 : xGf "WorkMeter$Demand" 25 2 3 := ⟨_, _, _, rfl, by decide, .inl q220⟩
theorem lkc203 : x_lkC (osO fv) xTT pCl pP "WorkMeter$Demand" 60 (66, 0, 1, 3) := ⟨pm66, rfl, q9, q648, ⟨nc4.1, nc4.2, pd0⟩, .inl ⟨.inl rfl, q645⟩, fun _ => ⟨q646, q647, pF3, 10, rfl⟩, xab (by decide), xab (by decide)⟩
theorem llc204 : ∃ v, Value.long (Int64.ofInt 192) = .long v ∧ Jvm.Cond.constantLong "WorkMeter$Demand" 64 v ∈ xTT := ⟨(192 : Int64), congrArg _ (by decide +kernel), q654⟩
theorem lkc205 : x_lkC (osO fv) xTT pCl pP "WorkMeter$Load" 64 (67, 2, 1, 3) := ⟨pm67, rfl, q9, q653, ⟨nc4.1, nc4.2, pd11⟩, .inl ⟨.inl rfl, q659⟩, fun _ => ⟨q651, q652, pF3, 10, rfl⟩, xab (by decide), xab (by decide)⟩
theorem llc206 : ∃ v, Value.long (Int64.ofInt (-1)) = .long v ∧ Jvm.Cond.constantLong "WorkMeter" 60 v ∈ xTT := ⟨(-1 : Int64), congrArg _ (by decide +kernel), q664⟩
theorem lkc207 : x_lkC (osO fv) xTT pCl pP "WorkMeter" 62 (70, 1, 1, 6) := ⟨pm70, rfl, q2, q668, ⟨nc7.1, nc7.2, pd7⟩, .inl ⟨.inl rfl, q665⟩, fun _ => ⟨q666, q667, pF6, 16, rfl⟩, xab (by decide), xab (by decide)⟩
theorem lkc208 : x_lkC (osO fv) xTT pCl pP "WorkMeter$Meter" 130 (71, 2, 1, 7) := ⟨pm71, rfl, q8, q672, ⟨nc8.1, nc8.2, pd11⟩, .inl ⟨.inl rfl, q669⟩, fun _ => ⟨q670, q671, pF7, 4, rfl⟩, xab (by decide), xab (by decide)⟩
theorem lkc209 : x_lkC (osO fv) xTT pCl pP "WorkMeter$Registers" 43 (72, 3, 3, 0) := ⟨pm72, rfl, q8, q675, ⟨nc8.1, nc8.2, pd55⟩, .inl ⟨.inr (.inr rfl), q673⟩, xab (by decide), xab (by decide), fun _ => q674⟩
theorem lkc210 : x_lkC (osO fv) xTT pCl pP "WorkMeter" 66 (74, 2, 1, 6) := ⟨pm74, rfl, q2, q683, ⟨nc7.1, nc7.2, pd13⟩, .inl ⟨.inl rfl, q680⟩, fun _ => ⟨q681, q682, pF6, 16, rfl⟩, xab (by decide), xab (by decide)⟩
theorem lkc211 : x_lkC (osO fv) xTT pCl pP "WorkMeter$Meter" 138 (75, 2, 1, 9) := ⟨pm75, rfl, q3, q687, ⟨nc10.1, nc10.2, pd13⟩, .inl ⟨.inl rfl, q684⟩, fun _ => ⟨q685, q686, pF9, 1, rfl⟩, xab (by decide), xab (by decide)⟩
theorem lkc212 : x_lkC (osO fv) xTT pCl pP "WorkMeter$Meter" 148 (77, 2, 1, 9) := ⟨pm77, rfl, q3, q698, ⟨nc10.1, nc10.2, pd12⟩, .inl ⟨.inl rfl, q695⟩, fun _ => ⟨q696, q697, pF9, 1, rfl⟩, xab (by decide), xab (by decide)⟩
theorem lkc213 : x_lkC (osO fv) xTT pCl pP "WorkMeter$Settings" 24 (76, 1, 3, 0) := ⟨pm76, rfl, q3, q690, ⟨nc10.1, nc10.2, pd6⟩, .inl ⟨.inr (.inr rfl), q688⟩, xab (by decide), xab (by decide), fun _ => q689⟩
theorem lkc214 : x_lkC (osO fv) xTT pCl pP "WorkMeter" 69 (79, 1, 3, 0) := ⟨pm79, rfl, q1, q705, ⟨nc0.1, nc0.2, pd9⟩, .inl ⟨.inr (.inr rfl), q703⟩, xab (by decide), xab (by decide), fun _ => q704⟩
theorem lkc215 : x_lkC (osO fv) xTT pCl pP "WorkMeter" 73 (80, 1, 3, 0) := ⟨pm80, rfl, q1, q708, ⟨nc0.1, nc0.2, pd9⟩, .inl ⟨.inr (.inr rfl), q706⟩, xab (by decide), xab (by decide), fun _ => q707⟩
theorem lic216 : ∃ v, Value.int (Int32.ofInt 86400) = .int v ∧ Jvm.Cond.constant "WorkMeter" 76 v ∈ xTT := ⟨(86400 : Int32), congrArg _ (by decide +kernel), q709⟩
theorem lgf217 : xGf "WorkMeter" 77 6 1 := ⟨_, _, _, rfl, by decide, .inl q300⟩
theorem lkc218 : x_lkC (osO fv) xTT pCl pP "WorkMeter" 81 (81, 3, 1, 0) := ⟨pm81, rfl, q5, q713, ⟨nc1.1, nc1.2, pd14⟩, .inl ⟨.inl rfl, q710⟩, fun _ => ⟨q711, q712, pF0, 8, rfl⟩, xab (by decide), xab (by decide)⟩
theorem lkc219 : x_lkC (osO fv) xTT pCl pP "WorkMeter$Calendar" 56 (82, 2, 1, 0) := ⟨pm82, rfl, q5, q717, ⟨nc1.1, nc1.2, pd13⟩, .inl ⟨.inl rfl, q714⟩, fun _ => ⟨q715, q716, pF0, 8, rfl⟩, xab (by decide), xab (by decide)⟩
theorem lkc220 : x_lkC (osO fv) xTT pCl pP "WorkMeter" 87 (84, 1, 1, 0) := ⟨pm84, rfl, q5, q725, ⟨nc1.1, nc1.2, pd6⟩, .inl ⟨.inl rfl, q722⟩, fun _ => ⟨q723, q724, pF0, 8, rfl⟩, xab (by decide), xab (by decide)⟩
theorem lgf221 : xGf "WorkMeter" 25 11 3 := ⟨_, _, _, rfl, by decide, .inl q413⟩
theorem lkc222 : x_lkC (osO fv) xTT pCl pP "WorkMeter" 91 (86, 0, 1, 1) := ⟨pm86, rfl, q14, q733, ⟨nc2.1, nc2.2, pd3⟩, .inl ⟨.inl rfl, q730⟩, fun _ => ⟨q731, q732, pF1, 11, rfl⟩, xab (by decide), xab (by decide)⟩
theorem lkc223 : x_lkC (osO fv) xTT pCl pP "WorkMeter" 94 (87, 1, 1, 1) := ⟨pm87, rfl, q14, q737, ⟨nc2.1, nc2.2, pd8⟩, .inl ⟨.inl rfl, q734⟩, fun _ => ⟨q735, q736, pF1, 11, rfl⟩, xab (by decide), xab (by decide)⟩
theorem lgf224 : xGf "WorkMeter" 97 1 3 := ⟨_, _, _, rfl, by decide, .inl q376⟩
theorem lgf225 : xGf "WorkMeter$CalendarText" 29 1 3 := ⟨_, _, _, rfl, by decide, .inl q375⟩
theorem lgf226 : xGf "WorkMeter$CalendarText" 11 1 0 := ⟨_, _, _, rfl, by decide, .inl q370⟩
theorem lpf227 : xPf ⟨"WorkMeter$CalendarText", "putBytes", "(I)V"⟩ 29 1 3 0 := ⟨_, _, _, rfl, by decide, .inl ⟨rfl, rfl⟩, .inl ⟨rfl, .inl q375⟩⟩
theorem lkc228 : x_lkC (osO fv) xTT pCl pP "WorkMeter" 100 (89, 1, 1, 1) := ⟨pm89, rfl, q14, q745, ⟨nc2.1, nc2.2, pd9⟩, .inl ⟨.inl rfl, q742⟩, fun _ => ⟨q743, q744, pF1, 11, rfl⟩, xab (by decide), xab (by decide)⟩
theorem lpf229 : xPf ⟨"WorkMeter$CalendarText", "cutTo", "(I)Z"⟩ 29 1 3 0 := ⟨_, _, _, rfl, by decide, .inl ⟨rfl, rfl⟩, .inl ⟨rfl, .inl q375⟩⟩
theorem lkc230 : x_lkC (osO fv) xTT pCl pP "WorkMeter" 103 (91, 0, 1, 1) := ⟨pm91, rfl, q14, q753, ⟨nc2.1, nc2.2, pd2⟩, .inl ⟨.inl rfl, q750⟩, fun _ => ⟨q751, q752, pF1, 11, rfl⟩, xab (by decide), xab (by decide)⟩
theorem lkc231 : x_lkC (osO fv) xTT pCl pP "WorkMeter" 106 (92, 0, 1, 1) := ⟨pm92, rfl, q14, q757, ⟨nc2.1, nc2.2, pd0⟩, .inl ⟨.inl rfl, q754⟩, fun _ => ⟨q755, q756, pF1, 11, rfl⟩, xab (by decide), xab (by decide)⟩
theorem lgf232 : xGf "WorkMeter" 110 1 1 := ⟨_, _, _, rfl, by decide, .inl q372⟩
theorem lkc233 : x_lkC (osO fv) xTT pCl pP "WorkMeter" 113 (111, 1, 1, 0) := ⟨pm111, rfl, q5, q889, ⟨nc1.1, nc1.2, pd36⟩, .inl ⟨.inl rfl, q886⟩, fun _ => ⟨q887, q888, pF0, 8, rfl⟩, xab (by decide), xab (by decide)⟩
theorem lgf234 : xGf "WorkMeter" 117 1 6 := ⟨_, _, _, rfl, by decide, .inl q382⟩
theorem lgf235 : xGf "WorkMeter" 121 6 0 := ⟨_, _, _, rfl, by decide, .inl q298⟩
theorem lgf236 : xGf "WorkMeter" 125 1 2 := ⟨_, _, _, rfl, by decide, .inl q374⟩
theorem lkc237 : x_lkC (osO fv) xTT pCl pP "WorkMeter" 129 (112, 1, 1, 9) := ⟨pm112, rfl, q3, q894, ⟨nc10.1, nc10.2, pd52⟩, .inl ⟨.inl rfl, q891⟩, fun _ => ⟨q892, q893, pF9, 1, rfl⟩, xab (by decide), xab (by decide)⟩
theorem lpf238 : xPf ⟨"WorkMeter$CalendarText", "forget", "()V"⟩ 29 1 3 0 := ⟨_, _, _, rfl, by decide, .inl ⟨rfl, rfl⟩, .inl ⟨rfl, .inl q375⟩⟩
theorem lpf239 : xPf ⟨"WorkMeter$CalendarText", "forget", "()V"⟩ 32 1 4 0 := ⟨_, _, _, rfl, by decide, .inl ⟨rfl, rfl⟩, .inl ⟨rfl, .inl q377⟩⟩
theorem lpf240 : xPf ⟨"WorkMeter$CalendarText", "forget", "()V"⟩ 25 1 5 0 := ⟨_, _, _, rfl, by decide, .inl ⟨rfl, rfl⟩, .inl ⟨rfl, .inl q379⟩⟩
theorem lgf241 : xGf "WorkMeter$CalendarText" 18 1 1 := ⟨_, _, _, rfl, by decide, .inl q371⟩
theorem lkc242 : x_lkC (osO fv) xTT pCl pP "WorkMeter$CalendarText" 35 (4, 0, 1, 0) := ⟨pm4, rfl, q5, q60, ⟨nc1.1, nc1.2, pd2⟩, .inl ⟨.inl rfl, q758⟩, fun _ => ⟨q58, q59, pF0, 8, rfl⟩, xab (by decide), xab (by decide)⟩
theorem lpf243 : xPf ⟨"WorkMeter$CalendarText", "readAll", "()I"⟩ 32 1 4 0 := ⟨_, _, _, rfl, by decide, .inl ⟨rfl, rfl⟩, .inl ⟨rfl, .inl q377⟩⟩
theorem lpf244 : xPf ⟨"WorkMeter$CalendarText", "readAll", "()I"⟩ 25 1 5 0 := ⟨_, _, _, rfl, by decide, .inl ⟨rfl, rfl⟩, .inl ⟨rfl, .inl q379⟩⟩
theorem lpf245 : xPf ⟨"WorkMeter$CalendarText", "readAll", "()I"⟩ 38 1 6 2 := ⟨_, _, _, rfl, by decide, .inr (.inr (.inl ⟨rfl, rfl⟩)), .inl ⟨rfl, .inl q381⟩⟩
theorem lpf246 : xPf ⟨"WorkMeter$CalendarText", "readAll", "()I"⟩ 42 1 7 0 := ⟨_, _, _, rfl, by decide, .inl ⟨rfl, rfl⟩, .inl ⟨rfl, .inl q383⟩⟩
theorem lpf247 : xPf ⟨"WorkMeter$CalendarText", "readAll", "()I"⟩ 45 1 9 0 := ⟨_, _, _, rfl, by decide, .inl ⟨rfl, rfl⟩, .inl ⟨rfl, .inl q385⟩⟩
theorem lpf248 : xPf ⟨"WorkMeter$CalendarText", "readAll", "()I"⟩ 48 1 10 0 := ⟨_, _, _, rfl, by decide, .inl ⟨rfl, rfl⟩, .inl ⟨rfl, .inl q386⟩⟩
theorem lkc249 : x_lkC (osO fv) xTT pCl pP "WorkMeter$CalendarText" 51 (93, 0, 1, 1) := ⟨pm93, rfl, q14, q762, ⟨nc2.1, nc2.2, pd2⟩, .inl ⟨.inl rfl, q759⟩, fun _ => ⟨q761, qs14, pF1, 11, rfl⟩, xab (by decide), xab (by decide)⟩
theorem lgf250 : xGf "WorkMeter$CalendarText" 42 1 7 := ⟨_, _, _, rfl, by decide, .inl q383⟩
theorem lgf251 : xGf "WorkMeter$CalendarText" 32 1 4 := ⟨_, _, _, rfl, by decide, .inl q377⟩
theorem lkc252 : x_lkC (osO fv) xTT pCl pP "WorkMeter$CalendarText" 54 (94, 0, 1, 1) := ⟨pm94, rfl, q14, q766, ⟨nc2.1, nc2.2, pd3⟩, .inl ⟨.inl rfl, q763⟩, fun _ => ⟨q765, qs15, pF1, 11, rfl⟩, xab (by decide), xab (by decide)⟩
theorem lkc253 : x_lkC (osO fv) xTT pCl pP "WorkMeter$CalendarText" 58 (105, 1, 1, 1) := ⟨pm105, rfl, q14, q860, ⟨nc2.1, nc2.2, pd5⟩, .inl ⟨.inl rfl, q857⟩, fun _ => ⟨q859, qs25, pF1, 11, rfl⟩, xab (by decide), xab (by decide)⟩
theorem lpf254 : xPf ⟨"WorkMeter$CalendarText", "readAll", "()I"⟩ 29 1 3 0 := ⟨_, _, _, rfl, by decide, .inl ⟨rfl, rfl⟩, .inl ⟨rfl, .inl q375⟩⟩
theorem lpf255 : xPf ⟨"WorkMeter$CalendarText", "skipBlanks", "()V"⟩ 42 1 7 0 := ⟨_, _, _, rfl, by decide, .inl ⟨rfl, rfl⟩, .inl ⟨rfl, .inl q383⟩⟩
theorem lkc256 : x_lkC (osO fv) xTT pCl pP "WorkMeter$CalendarText" 62 (95, 0, 1, 1) := ⟨pm95, rfl, q14, q770, ⟨nc2.1, nc2.2, pd0⟩, .inl ⟨.inl rfl, q767⟩, fun _ => ⟨q769, qs16, pF1, 11, rfl⟩, xab (by decide), xab (by decide)⟩
theorem lkc257 : x_lkC (osO fv) xTT pCl pP "WorkMeter$CalendarText" 68 (96, 2, 1, 1) := ⟨pm96, rfl, q14, q775, ⟨nc2.1, nc2.2, pd50⟩, .inl ⟨.inl rfl, q772⟩, fun _ => ⟨q774, qs17, pF1, 11, rfl⟩, xab (by decide), xab (by decide)⟩
theorem lkc258 : x_lkC (osO fv) xTT pCl pP "WorkMeter$CalendarText" 72 (97, 0, 1, 1) := ⟨pm97, rfl, q14, q827, ⟨nc2.1, nc2.2, pd3⟩, .inl ⟨.inl rfl, q824⟩, fun _ => ⟨q826, qs18, pF1, 11, rfl⟩, xab (by decide), xab (by decide)⟩
theorem lkc259 : x_lkC (osO fv) xTT pCl pP "WorkMeter$CalendarText" 77 (106, 0, 1, 1) := ⟨pm106, rfl, q14, q867, ⟨nc2.1, nc2.2, pd3⟩, .inl ⟨.inl rfl, q864⟩, fun _ => ⟨q866, qs26, pF1, 11, rfl⟩, xab (by decide), xab (by decide)⟩
theorem lkc260 : x_lkC (osO fv) xTT pCl pP "WorkMeter$CalendarText" 82 (107, 0, 1, 1) := ⟨pm107, rfl, q14, q872, ⟨nc2.1, nc2.2, pd3⟩, .inl ⟨.inl rfl, q869⟩, fun _ => ⟨q871, qs27, pF1, 11, rfl⟩, xab (by decide), xab (by decide)⟩
theorem lkc261 : x_lkC (osO fv) xTT pCl pP "WorkMeter$CalendarText" 87 (110, 0, 1, 1) := ⟨pm110, rfl, q14, q885, ⟨nc2.1, nc2.2, pd3⟩, .inl ⟨.inl rfl, q882⟩, fun _ => ⟨q884, qs28, pF1, 11, rfl⟩, xab (by decide), xab (by decide)⟩
theorem lkc262 : x_lkC (osO fv) xTT pCl pP "WorkMeter$CalendarText" 90 (102, 2, 1, 1) := ⟨pm102, rfl, q14, q848, ⟨nc2.1, nc2.2, pd13⟩, .inl ⟨.inl rfl, q845⟩, fun _ => ⟨q847, qs22, pF1, 11, rfl⟩, xab (by decide), xab (by decide)⟩
theorem lkc263 : x_lkC (osO fv) xTT pCl pP "WorkMeter$CalendarText" 94 (98, 1, 1, 1) := ⟨pm98, rfl, q14, q831, ⟨nc2.1, nc2.2, pd49⟩, .inl ⟨.inl rfl, q828⟩, fun _ => ⟨q830, qs19, pF1, 11, rfl⟩, xab (by decide), xab (by decide)⟩
theorem lgf264 : xGf "WorkMeter$CalendarText" 45 1 9 := ⟨_, _, _, rfl, by decide, .inl q385⟩
theorem lkc265 : x_lkC (osO fv) xTT pCl pP "WorkMeter$CalendarText" 98 (99, 2, 1, 1) := ⟨pm99, rfl, q14, q835, ⟨nc2.1, nc2.2, pd10⟩, .inl ⟨.inl rfl, q832⟩, fun _ => ⟨q834, qs20, pF1, 11, rfl⟩, xab (by decide), xab (by decide)⟩
theorem lpf266 : xPf ⟨"WorkMeter$CalendarText", "readTable", "()Z"⟩ 45 1 9 0 := ⟨_, _, _, rfl, by decide, .inl ⟨rfl, rfl⟩, .inl ⟨rfl, .inl q385⟩⟩
theorem lkc267 : x_lkC (osO fv) xTT pCl pP "WorkMeter$CalendarText" 102 (103, 0, 1, 1) := ⟨pm103, rfl, q14, q852, ⟨nc2.1, nc2.2, pd3⟩, .inl ⟨.inl rfl, q849⟩, fun _ => ⟨q851, qs23, pF1, 11, rfl⟩, xab (by decide), xab (by decide)⟩
theorem lkc268 : x_lkC (osO fv) xTT pCl pP "WorkMeter$CalendarText" 105 (104, 1, 1, 1) := ⟨pm104, rfl, q14, q856, ⟨nc2.1, nc2.2, pd9⟩, .inl ⟨.inl rfl, q853⟩, fun _ => ⟨q855, qs24, pF1, 11, rfl⟩, xab (by decide), xab (by decide)⟩
theorem lpf269 : xPf ⟨"WorkMeter$CalendarText", "passWord", "(Ljava/lang/String;)V"⟩ 42 1 7 0 := ⟨_, _, _, rfl, by decide, .inl ⟨rfl, rfl⟩, .inl ⟨rfl, .inl q383⟩⟩
theorem lkc270 : x_lkC (osO fv) xTT pCl pP "WorkMeter$CalendarText" 109 (100, 1, 1, 1) := ⟨pm100, rfl, q14, q839, ⟨nc2.1, nc2.2, pd6⟩, .inl ⟨.inl rfl, q836⟩, fun _ => ⟨q838, qs21, pF1, 11, rfl⟩, xab (by decide), xab (by decide)⟩
theorem lgf271 : xGf "WorkMeter$CalendarText" 116 1 8 := ⟨_, _, _, rfl, by decide, .inl q384⟩
theorem lpf272 : xPf ⟨"WorkMeter$CalendarText", "readNumber", "(I)I"⟩ 116 1 8 0 := ⟨_, _, _, rfl, by decide, .inl ⟨rfl, rfl⟩, .inl ⟨rfl, .inl q384⟩⟩
theorem lkc273 : x_lkC (osO fv) xTT pCl pP "WorkMeter$CalendarText" 149 (101, 1, 3, 0) := ⟨pm101, rfl, q14, q842, ⟨nc2.1, nc2.2, pd9⟩, .inl ⟨.inr (.inr rfl), q840⟩, xab (by decide), xab (by decide), fun _ => q841⟩
theorem lic274 : ∃ v, Value.int (Int32.ofInt 1000000) = .int v ∧ Jvm.Cond.constant "WorkMeter$CalendarText" 152 v ∈ xTT := ⟨(1000000 : Int32), congrArg _ (by decide +kernel), q843⟩
theorem lpf275 : xPf ⟨"WorkMeter$CalendarText", "readNumber", "(I)I"⟩ 42 1 7 0 := ⟨_, _, _, rfl, by decide, .inl ⟨rfl, rfl⟩, .inl ⟨rfl, .inl q383⟩⟩
theorem lpf276 : xPf ⟨"WorkMeter$CalendarText", "fail", "(II)Z"⟩ 32 1 4 0 := ⟨_, _, _, rfl, by decide, .inl ⟨rfl, rfl⟩, .inl ⟨rfl, .inl q377⟩⟩
theorem lpf277 : xPf ⟨"WorkMeter$CalendarText", "fail", "(II)Z"⟩ 25 1 5 0 := ⟨_, _, _, rfl, by decide, .inl ⟨rfl, rfl⟩, .inl ⟨rfl, .inl q379⟩⟩
theorem lgf278 : xGf "WorkMeter$CalendarText" 113 0 0 := ⟨_, _, _, rfl, by decide, .inl q65⟩
theorem lkc279 : x_lkC (osO fv) xTT pCl pP "WorkMeter$CalendarText" 119 (82, 2, 1, 0) := ⟨pm82, rfl, q5, q717, ⟨nc1.1, nc1.2, pd13⟩, .inl ⟨.inl rfl, q861⟩, fun _ => ⟨q715, q716, pF0, 8, rfl⟩, xab (by decide), xab (by decide)⟩
theorem lkc280 : x_lkC (osO fv) xTT pCl pP "WorkMeter$CalendarText" 122 (81, 3, 1, 0) := ⟨pm81, rfl, q5, q713, ⟨nc1.1, nc1.2, pd14⟩, .inl ⟨.inl rfl, q862⟩, fun _ => ⟨q711, q712, pF0, 8, rfl⟩, xab (by decide), xab (by decide)⟩
theorem lpf281 : xPf ⟨"WorkMeter$CalendarText", "readSign", "(C)Z"⟩ 42 1 7 0 := ⟨_, _, _, rfl, by decide, .inl ⟨rfl, rfl⟩, .inl ⟨rfl, .inl q383⟩⟩
theorem lgf282 : xGf "WorkMeter$CalendarText" 48 1 10 := ⟨_, _, _, rfl, by decide, .inl q386⟩
theorem lpf283 : xPf ⟨"WorkMeter$CalendarText", "readSeason", "()Z"⟩ 48 1 10 0 := ⟨_, _, _, rfl, by decide, .inl ⟨rfl, rfl⟩, .inl ⟨rfl, .inl q386⟩⟩
theorem lgf284 : xGf "WorkMeter$CalendarText" 126 0 3 := ⟨_, _, _, rfl, by decide, .inl q72⟩
theorem lgf285 : xGf "WorkMeter$CalendarText" 129 0 4 := ⟨_, _, _, rfl, by decide, .inl q75⟩
theorem lgf286 : xGf "WorkMeter$CalendarText" 132 0 7 := ⟨_, _, _, rfl, by decide, .inl q80⟩
theorem lkc287 : x_lkC (osO fv) xTT pCl pP "WorkMeter$CalendarText" 135 (108, 1, 1, 0) := ⟨pm108, rfl, q5, q876, ⟨nc1.1, nc1.2, pd9⟩, .inl ⟨.inl rfl, q873⟩, fun _ => ⟨q874, q875, pF0, 8, rfl⟩, xab (by decide), xab (by decide)⟩
theorem lkc288 : x_lkC (osO fv) xTT pCl pP "WorkMeter$CalendarText" 138 (109, 2, 1, 0) := ⟨pm109, rfl, q5, q880, ⟨nc1.1, nc1.2, pd13⟩, .inl ⟨.inl rfl, q877⟩, fun _ => ⟨q878, q879, pF0, 8, rfl⟩, xab (by decide), xab (by decide)⟩
theorem lpf289 : xPf ⟨"WorkMeter$Calendar", "putSpecial", "(II)Z"⟩ 42 0 7 0 := ⟨_, _, _, rfl, by decide, .inl ⟨rfl, rfl⟩, .inl ⟨rfl, .inl q79⟩⟩
theorem lgf290 : xGf "WorkMeter$CalendarText" 38 1 6 := ⟨_, _, _, rfl, by decide, .inl q381⟩
theorem lgf291 : xGf "WorkMeter$CalendarText" 22 1 2 := ⟨_, _, _, rfl, by decide, .inl q373⟩
theorem lpf292 : xPf ⟨"WorkMeter$CalendarText", "readPrices", "()Z"⟩ 38 1 6 2 := ⟨_, _, _, rfl, by decide, .inr (.inr (.inl ⟨rfl, rfl⟩)), .inl ⟨rfl, .inl q381⟩⟩
theorem lpf293 : xPf ⟨"WorkMeter$Calendar", "copyFrom", "(LWorkMeter$Calendar;)V"⟩ 42 0 7 0 := ⟨_, _, _, rfl, by decide, .inl ⟨rfl, rfl⟩, .inl ⟨rfl, .inl q79⟩⟩
theorem lgf294 : xGf "WorkMeter" 135 1 4 := ⟨_, _, _, rfl, by decide, .inl q378⟩
theorem lgf295 : xGf "WorkMeter" 138 1 5 := ⟨_, _, _, rfl, by decide, .inl q380⟩
theorem lkc296 : x_lkC (osO fv) xTT pCl pP "WorkMeter" 141 (115, 1, 1, 8) := ⟨pm115, rfl, q13, q907, ⟨nc9.1, nc9.2, pd9⟩, .inl ⟨.inl rfl, q904⟩, fun _ => ⟨q905, q906, pF8, 5, rfl⟩, xab (by decide), xab (by decide)⟩
theorem lkc297 : x_lkC (osO fv) xTT pCl pP "WorkMeter" 144 (54, 2, 1, 6) := ⟨pm54, rfl, q2, q600, ⟨nc7.1, nc7.2, pd12⟩, .inl ⟨.inl rfl, q908⟩, fun _ => ⟨q598, q599, pF6, 16, rfl⟩, xab (by decide), xab (by decide)⟩
theorem lpf298 : xPf ⟨"WorkMeter$Seal", "close", "(I)Z"⟩ 7 8 0 2 := ⟨_, _, _, rfl, by decide, .inr (.inr (.inl ⟨rfl, rfl⟩)), .inl ⟨rfl, .inl q275⟩⟩
theorem lpf299 : xPf ⟨"WorkMeter$Seal", "close", "(I)Z"⟩ 13 8 1 0 := ⟨_, _, _, rfl, by decide, .inl ⟨rfl, rfl⟩, .inl ⟨rfl, .inl q278⟩⟩
theorem lkc300 : x_lkC (osO fv) xTT pCl pP "WorkMeter" 148 (117, 1, 1, 6) := ⟨pm117, rfl, q2, q916, ⟨nc7.1, nc7.2, pd9⟩, .inl ⟨.inl rfl, q913⟩, fun _ => ⟨q914, q915, pF6, 16, rfl⟩, xab (by decide), xab (by decide)⟩
theorem lgf301 : xGf "WorkMeter$Meter" 70 6 8 := ⟨_, _, _, rfl, by decide, .inl q313⟩
theorem lgf302 : xGf "WorkMeter$Meter" 152 8 0 := ⟨_, _, _, rfl, by decide, .inl q276⟩
theorem lkc303 : x_lkC (osO fv) xTT pCl pP "WorkMeter$Meter" 155 (118, 1, 1, 8) := ⟨pm118, rfl, q13, q920, ⟨nc9.1, nc9.2, pd6⟩, .inl ⟨.inl rfl, q917⟩, fun _ => ⟨q918, q919, pF8, 5, rfl⟩, xab (by decide), xab (by decide)⟩
theorem lgf304 : xGf "WorkMeter$Meter" 159 8 1 := ⟨_, _, _, rfl, by decide, .inl q279⟩
theorem lkc305 : x_lkC (osO fv) xTT pCl pP "WorkMeter$Meter" 162 (119, 0, 1, 8) := ⟨pm119, rfl, q13, q925, ⟨nc9.1, nc9.2, pd2⟩, .inl ⟨.inl rfl, q922⟩, fun _ => ⟨q923, q924, pF8, 5, rfl⟩, xab (by decide), xab (by decide)⟩
theorem lgf306 : xGf "WorkMeter$Meter" 168 8 2 := ⟨_, _, _, rfl, by decide, .inl q281⟩
theorem lpf307 : xPf ⟨"WorkMeter$Meter", "tryCode", "(I)Z"⟩ 168 8 2 0 := ⟨_, _, _, rfl, by decide, .inl ⟨rfl, rfl⟩, .inl ⟨rfl, .inl q281⟩⟩
theorem lkc308 : x_lkC (osO fv) xTT pCl pP "WorkMeter$Meter" 171 (120, 0, 1, 8) := ⟨pm120, rfl, q13, q929, ⟨nc9.1, nc9.2, pd3⟩, .inl ⟨.inl rfl, q926⟩, fun _ => ⟨q927, q928, pF8, 5, rfl⟩, xab (by decide), xab (by decide)⟩
theorem lkc309 : x_lkC (osO fv) xTT pCl pP "WorkMeter$Meter" 175 (121, 1, 1, 8) := ⟨pm121, rfl, q13, q933, ⟨nc9.1, nc9.2, pd8⟩, .inl ⟨.inl rfl, q930⟩, fun _ => ⟨q931, q932, pF8, 5, rfl⟩, xab (by decide), xab (by decide)⟩
theorem lgf310 : xGf "WorkMeter$Seal" 23 8 4 := ⟨_, _, _, rfl, by decide, .inl q285⟩
theorem lpf311 : xPf ⟨"WorkMeter$Seal", "breakOpen", "()V"⟩ 7 8 0 2 := ⟨_, _, _, rfl, by decide, .inr (.inr (.inl ⟨rfl, rfl⟩)), .inl ⟨rfl, .inl q275⟩⟩
theorem lpf312 : xPf ⟨"WorkMeter$Seal", "breakOpen", "()V"⟩ 17 8 2 0 := ⟨_, _, _, rfl, by decide, .inl ⟨rfl, rfl⟩, .inl ⟨rfl, .inl q280⟩⟩
theorem lpf313 : xPf ⟨"WorkMeter$Seal", "breakOpen", "()V"⟩ 23 8 4 0 := ⟨_, _, _, rfl, by decide, .inl ⟨rfl, rfl⟩, .inl ⟨rfl, .inl q285⟩⟩
theorem lgf314 : xGf "WorkMeter$Seal" 17 8 2 := ⟨_, _, _, rfl, by decide, .inl q280⟩
theorem lpf315 : xPf ⟨"WorkMeter$Seal", "lock", "(I)V"⟩ 17 8 2 0 := ⟨_, _, _, rfl, by decide, .inl ⟨rfl, rfl⟩, .inl ⟨rfl, .inl q280⟩⟩
theorem lpf316 : xPf ⟨"WorkMeter$Seal", "lock", "(I)V"⟩ 23 8 4 0 := ⟨_, _, _, rfl, by decide, .inl ⟨rfl, rfl⟩, .inl ⟨rfl, .inl q285⟩⟩
theorem lkc317 : x_lkC (osO fv) xTT pCl pP "WorkMeter" 151 (123, 1, 3, 0) := ⟨pm123, rfl, q1, q940, ⟨nc0.1, nc0.2, pd9⟩, .inl ⟨.inr (.inr rfl), q938⟩, xab (by decide), xab (by decide), fun _ => q939⟩
theorem lgf318 : xGf "WorkMeter" 154 0 3 := ⟨_, _, _, rfl, by decide, .inl q73⟩
theorem lgf319 : xGf "WorkMeter" 157 0 4 := ⟨_, _, _, rfl, by decide, .inl q76⟩
theorem lkc320 : x_lkC (osO fv) xTT pCl pP "WorkMeter" 160 (126, 1, 1, 0) := ⟨pm126, rfl, q5, q952, ⟨nc1.1, nc1.2, pd9⟩, .inl ⟨.inl rfl, q949⟩, fun _ => ⟨q950, q951, pF0, 8, rfl⟩, xab (by decide), xab (by decide)⟩
theorem lkc321 : x_lkC (osO fv) xTT pCl pP "WorkMeter" 163 (109, 2, 1, 0) := ⟨pm109, rfl, q5, q880, ⟨nc1.1, nc1.2, pd13⟩, .inl ⟨.inl rfl, q953⟩, fun _ => ⟨q878, q879, pF0, 8, rfl⟩, xab (by decide), xab (by decide)⟩
theorem lpf322 : xPf ⟨"WorkMeter$Calendar", "dropSpecial", "(I)Z"⟩ 42 0 7 0 := ⟨_, _, _, rfl, by decide, .inl ⟨rfl, rfl⟩, .inl ⟨rfl, .inl q79⟩⟩
theorem lkc323 : x_lkC (osO fv) xTT pCl pP "WorkMeter" 166 (128, 1, 3, 0) := ⟨pm128, rfl, q1, q960, ⟨nc0.1, nc0.2, pd9⟩, .inl ⟨.inr (.inr rfl), q958⟩, xab (by decide), xab (by decide), fun _ => q959⟩
theorem lkc324 : x_lkC (osO fv) xTT pCl pP "WorkMeter" 169 (129, 1, 1, 6) := ⟨pm129, rfl, q2, q965, ⟨nc7.1, nc7.2, pd6⟩, .inl ⟨.inl rfl, q962⟩, fun _ => ⟨q963, q964, pF6, 16, rfl⟩, xab (by decide), xab (by decide)⟩
theorem lic325 : ∃ v, Value.int (Int32.ofInt 2000000000) = .int v ∧ Jvm.Cond.constant "WorkMeter" 176 v ∈ xTT := ⟨(2000000000 : Int32), congrArg _ (by decide +kernel), q961⟩
theorem lpf326 : xPf ⟨"WorkMeter$Meter", "moveClock", "(I)I"⟩ 102 6 9 0 := ⟨_, _, _, rfl, by decide, .inl ⟨rfl, rfl⟩, .inl ⟨rfl, .inl q315⟩⟩
theorem lpf327 : xPf ⟨"WorkMeter$Meter", "moveClock", "(I)I"⟩ 179 3 9 0 := ⟨_, _, _, rfl, by decide, .inl ⟨rfl, rfl⟩, .inl ⟨rfl, .inl q176⟩⟩
theorem lic328 : ∃ v, Value.int (Int32.ofInt 100000) = .int v ∧ Jvm.Cond.constant "WorkMeter" 172 v ∈ xTT := ⟨(100000 : Int32), congrArg _ (by decide +kernel), q970⟩
theorem lgf329 : xGf "WorkMeter" 173 6 9 := ⟨_, _, _, rfl, by decide, .inl q316⟩
theorem lkc330 : x_lkC (osO fv) xTT pCl pP "WorkMeter" 177 (131, 1, 1, 6) := ⟨pm131, rfl, q2, q974, ⟨nc7.1, nc7.2, pd8⟩, .inl ⟨.inl rfl, q971⟩, fun _ => ⟨q972, q973, pF6, 16, rfl⟩, xab (by decide), xab (by decide)⟩
theorem lkc331 : x_lkC (osO fv) xTT pCl pP "WorkMeter$Meter" 189 (132, 2, 1, 5) := ⟨pm132, rfl, q11, q978, ⟨nc6.1, nc6.2, pd42⟩, .inl ⟨.inl rfl, q975⟩, fun _ => ⟨q976, q977, pF5, 4, rfl⟩, xab (by decide), xab (by decide)⟩
theorem lpf332 : xPf ⟨"WorkMeter$Meter", "goOff", "(I)V"⟩ 193 10 5 0 := ⟨_, _, _, rfl, by decide, .inl ⟨rfl, rfl⟩, .inl ⟨rfl, .inl q114⟩⟩
theorem lkc333 : x_lkC (osO fv) xTT pCl pP "WorkMeter$Meter" 205 (133, 2, 1, 3) := ⟨pm133, rfl, q9, q982, ⟨nc4.1, nc4.2, pd12⟩, .inl ⟨.inl rfl, q979⟩, fun _ => ⟨q980, q981, pF3, 10, rfl⟩, xab (by decide), xab (by decide)⟩
theorem lgf334 : xGf "WorkMeter$Meter" 123 6 15 := ⟨_, _, _, rfl, by decide, .inl q327⟩
theorem lpf335 : xPf ⟨"WorkMeter$Meter", "goOff", "(I)V"⟩ 123 6 15 0 := ⟨_, _, _, rfl, by decide, .inl ⟨rfl, rfl⟩, .inl ⟨rfl, .inl q327⟩⟩
theorem lpf336 : xPf ⟨"WorkMeter$Meter", "goOff", "(I)V"⟩ 102 6 9 0 := ⟨_, _, _, rfl, by decide, .inl ⟨rfl, rfl⟩, .inl ⟨rfl, .inl q315⟩⟩
theorem lpf337 : xPf ⟨"WorkMeter$Load", "addOff", "(II)V"⟩ 41 3 7 0 := ⟨_, _, _, rfl, by decide, .inl ⟨rfl, rfl⟩, .inl ⟨rfl, .inl q172⟩⟩
theorem lpf338 : xPf ⟨"WorkMeter$Load", "addOff", "(II)V"⟩ 44 3 8 0 := ⟨_, _, _, rfl, by decide, .inl ⟨rfl, rfl⟩, .inl ⟨rfl, .inl q174⟩⟩
theorem lgf339 : xGf "WorkMeter" 182 6 6 := ⟨_, _, _, rfl, by decide, .inl q310⟩
theorem lkc340 : x_lkC (osO fv) xTT pCl pP "WorkMeter" 186 (40, 1, 1, 5) := ⟨pm40, rfl, q11, q533, ⟨nc6.1, nc6.2, pd9⟩, .inl ⟨.inl rfl, q987⟩, fun _ => ⟨q531, q532, pF5, 4, rfl⟩, xab (by decide), xab (by decide)⟩
theorem lgf341 : xGf "WorkMeter" 189 6 7 := ⟨_, _, _, rfl, by decide, .inl q312⟩
theorem lkc342 : x_lkC (osO fv) xTT pCl pP "WorkMeter" 193 (57, 4, 1, 5) := ⟨pm57, rfl, q11, q612, ⟨nc6.1, nc6.2, pd28⟩, .inl ⟨.inl rfl, q988⟩, fun _ => ⟨q610, q611, pF5, 4, rfl⟩, xab (by decide), xab (by decide)⟩
theorem lgf343 : xGf "WorkMeter" 197 6 11 := ⟨_, _, _, rfl, by decide, .inl q320⟩
theorem lpf344 : xPf ⟨"WorkMeter", "prepaid", "(Z)Z"⟩ 197 6 11 2 := ⟨_, _, _, rfl, by decide, .inr (.inr (.inl ⟨rfl, rfl⟩)), .inl ⟨rfl, .inl q320⟩⟩
theorem lkc345 : x_lkC (osO fv) xTT pCl pP "WorkMeter" 200 (53, 0, 1, 6) := ⟨pm53, rfl, q2, q596, ⟨nc7.1, nc7.2, pd2⟩, .inl ⟨.inl rfl, q993⟩, fun _ => ⟨q594, q595, pF6, 16, rfl⟩, xab (by decide), xab (by decide)⟩
theorem lic346 : ∃ v, Value.int (Int32.ofInt 1000000000) = .int v ∧ Jvm.Cond.constant "WorkMeter" 203 v ∈ xTT := ⟨(1000000000 : Int32), congrArg _ (by decide +kernel), q998⟩
theorem llc347 : ∃ v, Value.long (Int64.ofInt (-10000000000)) = .long v ∧ Jvm.Cond.constantLong "WorkMeter" 204 v ∈ xTT := ⟨(-10000000000 : Int64), congrArg _ (by decide +kernel), q999⟩
theorem lgf348 : xGf "WorkMeter" 206 6 10 := ⟨_, _, _, rfl, by decide, .inl q318⟩
theorem lpf349 : xPf ⟨"WorkMeter", "pay", "(I)J"⟩ 206 6 10 1 := ⟨_, _, _, rfl, by decide, .inr (.inl ⟨rfl, rfl⟩), .inl ⟨rfl, .inl q318⟩⟩
theorem lkc350 : x_lkC (osO fv) xTT pCl pP "WorkMeter" 210 (138, 0, 1, 6) := ⟨pm138, rfl, q2, q1007, ⟨nc7.1, nc7.2, pd2⟩, .inl ⟨.inl rfl, q1004⟩, fun _ => ⟨q1005, q1006, pF6, 16, rfl⟩, xab (by decide), xab (by decide)⟩
theorem lgf351 : xGf "WorkMeter" 213 6 3 := ⟨_, _, _, rfl, by decide, .inl q304⟩
theorem lgf352 : xGf "WorkMeter" 217 7 3 := ⟨_, _, _, rfl, by decide, .inl q143⟩
theorem lkc353 : x_lkC (osO fv) xTT pCl pP "WorkMeter$Meter" 182 (139, 2, 1, 7) := ⟨pm139, rfl, q8, q1011, ⟨nc8.1, nc8.2, pd25⟩, .inl ⟨.inl rfl, q1008⟩, fun _ => ⟨q1009, q1010, pF7, 4, rfl⟩, xab (by decide), xab (by decide)⟩
theorem lkc354 : x_lkC (osO fv) xTT pCl pP "WorkMeter$Meter" 186 (10, 0, 1, 2) := ⟨pm10, rfl, q10, q208, ⟨nc3.1, nc3.2, pd2⟩, .inl ⟨.inl rfl, q1013⟩, fun _ => ⟨q206, q207, pF2, 4, rfl⟩, xab (by decide), xab (by decide)⟩
theorem lgf355 : xGf "WorkMeter$Registers" 27 7 3 := ⟨_, _, _, rfl, by decide, .inl q142⟩
theorem lgf356 : xGf "WorkMeter$Registers" 18 7 2 := ⟨_, _, _, rfl, by decide, .inl q141⟩
theorem lgf357 : xGf "WorkMeter$Registers" 15 7 1 := ⟨_, _, _, rfl, by decide, .inl q140⟩
theorem lgf358 : xGf "WorkMeter$Registers" 47 2 0 := ⟨_, _, _, rfl, by decide, .inl q214⟩
theorem lpf359 : xPf ⟨"WorkMeter$Registers", "keepBill", "(ILWorkMeter$Demand;)V"⟩ 27 7 3 0 := ⟨_, _, _, rfl, by decide, .inl ⟨rfl, rfl⟩, .inl ⟨rfl, .inl q142⟩⟩
theorem lgf360 : xGf "WorkMeter" 222 10 3 := ⟨_, _, _, rfl, by decide, .inl q109⟩
theorem lkc361 : x_lkC (osO fv) xTT pCl pP "WorkMeter" 225 (141, 2, 1, 10) := ⟨pm141, rfl, q7, q1021, ⟨nc11.1, nc11.2, pd11⟩, .inl ⟨.inl rfl, q1018⟩, fun _ => ⟨q1019, q1020, pF10, 7, rfl⟩, xab (by decide), xab (by decide)⟩
theorem lkc362 : x_lkC (osO fv) xTT pCl pP "WorkMeter$Wave" 63 (51, 2, 3, 0) := ⟨pm51, rfl, q7, q587, ⟨nc11.1, nc11.2, pd31⟩, .inl ⟨.inr (.inr rfl), q1022⟩, xab (by decide), xab (by decide), fun _ => q586⟩
theorem lkc363 : x_lkC (osO fv) xTT pCl pP "WorkMeter$Wave" 67 (142, 2, 1, 10) := ⟨pm142, rfl, q7, q1026, ⟨nc11.1, nc11.2, pd11⟩, .inl ⟨.inl rfl, q1023⟩, fun _ => ⟨q1025, qs29, pF10, 7, rfl⟩, xab (by decide), xab (by decide)⟩
theorem lkc364 : x_lkC (osO fv) xTT pCl pP "WorkMeter$Wave" 71 (143, 2, 3, 0) := ⟨pm143, rfl, q7, q1031, ⟨nc11.1, nc11.2, pd32⟩, .inl ⟨.inr (.inr rfl), q1029⟩, xab (by decide), xab (by decide), fun _ => q1030⟩
theorem llc365 : ∃ v, Value.long (Int64.ofInt (-1)) = .long v ∧ Jvm.Cond.constantLong "WorkMeter$Wave" 75 v ∈ xTT := ⟨(-1 : Int64), congrArg _ (by decide +kernel), q1033⟩
theorem llc366 : ∃ v, Value.long (Int64.ofInt 1000) = .long v ∧ Jvm.Cond.constantLong "WorkMeter$Wave" 77 v ∈ xTT := ⟨(1000 : Int64), congrArg _ (by decide +kernel), q1032⟩
theorem lkc367 : x_lkC (osO fv) xTT pCl pP "WorkMeter" 229 (145, 1, 3, 0) := ⟨pm145, rfl, q1, q1040, ⟨nc0.1, nc0.2, pd9⟩, .inl ⟨.inr (.inr rfl), q1038⟩, xab (by decide), xab (by decide), fun _ => q1039⟩
theorem lkc368 : x_lkC (osO fv) xTT pCl pP "WorkMeter" 232 (146, 1, 3, 0) := ⟨pm146, rfl, q1, q1043, ⟨nc0.1, nc0.2, pd9⟩, .inl ⟨.inr (.inr rfl), q1041⟩, xab (by decide), xab (by decide), fun _ => q1042⟩
theorem lkc369 : x_lkC (osO fv) xTT pCl pP "WorkMeter" 235 (71, 2, 1, 7) := ⟨pm71, rfl, q8, q672, ⟨nc8.1, nc8.2, pd11⟩, .inl ⟨.inl rfl, q1044⟩, fun _ => ⟨q670, q671, pF7, 4, rfl⟩, xab (by decide), xab (by decide)⟩
theorem lkc370 : x_lkC (osO fv) xTT pCl pP "WorkMeter" 238 (48, 0, 1, 9) := ⟨pm48, rfl, q3, q570, ⟨nc10.1, nc10.2, pd0⟩, .inl ⟨.inl rfl, q1049⟩, fun _ => ⟨q568, q569, pF9, 1, rfl⟩, xab (by decide), xab (by decide)⟩
theorem lkc371 : x_lkC (osO fv) xTT pCl pP "WorkMeter" 241 (27, 1, 1, 0) := ⟨pm27, rfl, q5, q473, ⟨nc1.1, nc1.2, pd6⟩, .inl ⟨.inl rfl, q1054⟩, fun _ => ⟨q471, q472, pF0, 8, rfl⟩, xab (by decide), xab (by decide)⟩
theorem lkc372 : x_lkC (osO fv) xTT pCl pP "WorkMeter" 244 (150, 1, 3, 0) := ⟨pm150, rfl, q1, q1061, ⟨nc0.1, nc0.2, pd9⟩, .inl ⟨.inr (.inr rfl), q1059⟩, xab (by decide), xab (by decide), fun _ => q1060⟩
theorem lkc373 : x_lkC (osO fv) xTT pCl pP "WorkMeter" 247 (28, 1, 1, 0) := ⟨pm28, rfl, q5, q478, ⟨nc1.1, nc1.2, pd6⟩, .inl ⟨.inl rfl, q1062⟩, fun _ => ⟨q476, q477, pF0, 8, rfl⟩, xab (by decide), xab (by decide)⟩
theorem lgf374 : xGf "WorkMeter" 250 0 0 := ⟨_, _, _, rfl, by decide, .inl q66⟩
theorem lgf375 : xGf "WorkMeter" 253 0 1 := ⟨_, _, _, rfl, by decide, .inl q68⟩
theorem lgf376 : xGf "WorkMeter" 256 0 2 := ⟨_, _, _, rfl, by decide, .inl q70⟩
theorem lkc377 : x_lkC (osO fv) xTT pCl pP "WorkMeter" 259 (153, 1, 1, 0) := ⟨pm153, rfl, q5, q1074, ⟨nc1.1, nc1.2, pd6⟩, .inl ⟨.inl rfl, q1071⟩, fun _ => ⟨q1072, q1073, pF0, 8, rfl⟩, xab (by decide), xab (by decide)⟩
theorem lic378 : ∃ v, Value.int (Int32.ofInt 2000000000) = .int v ∧ Jvm.Cond.constant "WorkMeter$Calendar" 74 v ∈ xTT := ⟨(2000000000 : Int32), congrArg _ (by decide +kernel), q1075⟩
theorem lkc379 : x_lkC (osO fv) xTT pCl pP "WorkMeter$Calendar" 80 (27, 1, 1, 0) := ⟨pm27, rfl, q5, q473, ⟨nc1.1, nc1.2, pd6⟩, .inl ⟨.inl rfl, q1077⟩, fun _ => ⟨q471, q472, pF0, 8, rfl⟩, xab (by decide), xab (by decide)⟩
theorem lkc380 : x_lkC (osO fv) xTT pCl pP "WorkMeter$Calendar" 83 (37, 1, 1, 0) := ⟨pm37, rfl, q5, q521, ⟨nc1.1, nc1.2, pd6⟩, .inl ⟨.inl rfl, q1078⟩, fun _ => ⟨q519, q520, pF0, 8, rfl⟩, xab (by decide), xab (by decide)⟩
theorem lgf381 : xGf "WorkMeter" 262 5 0 := ⟨_, _, _, rfl, by decide, .inl q238⟩
theorem lgf382 : xGf "WorkMeter" 265 5 1 := ⟨_, _, _, rfl, by decide, .inl q240⟩
theorem lgf383 : xGf "WorkMeter" 266 5 2 := ⟨_, _, _, rfl, by decide, .inl q242⟩
theorem lgf384 : xGf "WorkMeter" 269 6 4 := ⟨_, _, _, rfl, by decide, .inl q306⟩
theorem lkc385 : x_lkC (osO fv) xTT pCl pP "WorkMeter" 273 (66, 0, 1, 3) := ⟨pm66, rfl, q9, q648, ⟨nc4.1, nc4.2, pd0⟩, .inl ⟨.inl rfl, q1087⟩, fun _ => ⟨q646, q647, pF3, 10, rfl⟩, xab (by decide), xab (by decide)⟩
theorem lkc386 : x_lkC (osO fv) xTT pCl pP "WorkMeter" 278 (67, 2, 1, 3) := ⟨pm67, rfl, q9, q653, ⟨nc4.1, nc4.2, pd11⟩, .inl ⟨.inl rfl, q1088⟩, fun _ => ⟨q651, q652, pF3, 10, rfl⟩, xab (by decide), xab (by decide)⟩
theorem lgf387 : xGf "WorkMeter" 281 3 3 := ⟨_, _, _, rfl, by decide, .inl q165⟩
theorem lgf388 : xGf "WorkMeter" 284 3 4 := ⟨_, _, _, rfl, by decide, .inl q167⟩
theorem lgf389 : xGf "WorkMeter" 287 3 5 := ⟨_, _, _, rfl, by decide, .inl q169⟩
theorem lgf390 : xGf "WorkMeter" 290 3 6 := ⟨_, _, _, rfl, by decide, .inl q171⟩
theorem lgf391 : xGf "WorkMeter" 293 3 7 := ⟨_, _, _, rfl, by decide, .inl q173⟩
theorem lkc392 : x_lkC (osO fv) xTT pCl pP "WorkMeter" 296 (36, 0, 1, 9) := ⟨pm36, rfl, q3, q511, ⟨nc10.1, nc10.2, pd0⟩, .inl ⟨.inl rfl, q1093⟩, fun _ => ⟨q509, q510, pF9, 1, rfl⟩, xab (by decide), xab (by decide)⟩
theorem lkc393 : x_lkC (osO fv) xTT pCl pP "WorkMeter" 299 (61, 1, 1, 3) := ⟨pm61, rfl, q9, q629, ⟨nc4.1, nc4.2, pd6⟩, .inl ⟨.inl rfl, q1094⟩, fun _ => ⟨q627, q628, pF3, 10, rfl⟩, xab (by decide), xab (by decide)⟩
theorem lgf394 : xGf "WorkMeter" 302 6 5 := ⟨_, _, _, rfl, by decide, .inl q308⟩
theorem lgf395 : xGf "WorkMeter" 306 2 2 := ⟨_, _, _, rfl, by decide, .inl q219⟩
theorem lgf396 : xGf "WorkMeter" 311 2 3 := ⟨_, _, _, rfl, by decide, .inl q221⟩
theorem lgf397 : xGf "WorkMeter" 314 2 0 := ⟨_, _, _, rfl, by decide, .inl q215⟩
theorem lgf398 : xGf "WorkMeter" 318 2 1 := ⟨_, _, _, rfl, by decide, .inl q217⟩
theorem lkc399 : x_lkC (osO fv) xTT pCl pP "WorkMeter" 321 (160, 1, 1, 7) := ⟨pm160, rfl, q8, q1110, ⟨nc8.1, nc8.2, pd9⟩, .inl ⟨.inl rfl, q1107⟩, fun _ => ⟨q1108, q1109, pF7, 4, rfl⟩, xab (by decide), xab (by decide)⟩
theorem lkc400 : x_lkC (osO fv) xTT pCl pP "WorkMeter" 324 (161, 3, 1, 7) := ⟨pm161, rfl, q8, q1115, ⟨nc8.1, nc8.2, pd15⟩, .inl ⟨.inl rfl, q1112⟩, fun _ => ⟨q1113, q1114, pF7, 4, rfl⟩, xab (by decide), xab (by decide)⟩
theorem lkc401 : x_lkC (osO fv) xTT pCl pP "WorkMeter$Registers" 56 (162, 1, 1, 7) := ⟨pm162, rfl, q8, q1119, ⟨nc8.1, nc8.2, pd6⟩, .inl ⟨.inl rfl, q1116⟩, fun _ => ⟨q1118, qs30, pF7, 4, rfl⟩, xab (by decide), xab (by decide)⟩
theorem lkc402 : x_lkC (osO fv) xTT pCl pP "WorkMeter" 328 (164, 1, 1, 7) := ⟨pm164, rfl, q8, q1127, ⟨nc8.1, nc8.2, pd7⟩, .inl ⟨.inl rfl, q1124⟩, fun _ => ⟨q1125, q1126, pF7, 4, rfl⟩, xab (by decide), xab (by decide)⟩
theorem lkc403 : x_lkC (osO fv) xTT pCl pP "WorkMeter" 331 (165, 2, 1, 7) := ⟨pm165, rfl, q8, q1131, ⟨nc8.1, nc8.2, pd11⟩, .inl ⟨.inl rfl, q1128⟩, fun _ => ⟨q1129, q1130, pF7, 4, rfl⟩, xab (by decide), xab (by decide)⟩
theorem lkc404 : x_lkC (osO fv) xTT pCl pP "WorkMeter" 334 (167, 2, 1, 7) := ⟨pm167, rfl, q8, q1139, ⟨nc8.1, nc8.2, pd26⟩, .inl ⟨.inl rfl, q1136⟩, fun _ => ⟨q1137, q1138, pF7, 4, rfl⟩, xab (by decide), xab (by decide)⟩
theorem llc405 : ∃ v, Value.long (Int64.ofInt 100) = .long v ∧ Jvm.Cond.constantLong "WorkMeter" 338 v ∈ xTT := ⟨(100 : Int64), congrArg _ (by decide +kernel), q1149⟩
theorem lkc406 : x_lkC (osO fv) xTT pCl pP "WorkMeter" 340 (169, 2, 3, 0) := ⟨pm169, rfl, q1, q1152, ⟨nc0.1, nc0.2, pd32⟩, .inl ⟨.inr (.inr rfl), q1150⟩, xab (by decide), xab (by decide), fun _ => q1151⟩
theorem lkc407 : x_lkC (osO fv) xTT pCl pP "WorkMeter$Registers" 60 (161, 3, 1, 7) := ⟨pm161, rfl, q8, q1115, ⟨nc8.1, nc8.2, pd15⟩, .inl ⟨.inl rfl, q1140⟩, fun _ => ⟨q1113, q1114, pF7, 4, rfl⟩, xab (by decide), xab (by decide)⟩
theorem lkc408 : x_lkC (osO fv) xTT pCl pP "WorkMeter$Registers" 64 (43, 1, 1, 9) := ⟨pm43, rfl, q3, q547, ⟨nc10.1, nc10.2, pd6⟩, .inl ⟨.inl rfl, q1141⟩, fun _ => ⟨q545, q546, pF9, 1, rfl⟩, xab (by decide), xab (by decide)⟩
theorem lkc409 : x_lkC (osO fv) xTT pCl pP "WorkMeter$Registers" 69 (165, 2, 1, 7) := ⟨pm165, rfl, q8, q1131, ⟨nc8.1, nc8.2, pd11⟩, .inl ⟨.inl rfl, q1142⟩, fun _ => ⟨q1129, q1130, pF7, 4, rfl⟩, xab (by decide), xab (by decide)⟩
theorem lkc410 : x_lkC (osO fv) xTT pCl pP "WorkMeter$Registers" 77 (168, 1, 1, 9) := ⟨pm168, rfl, q3, q1147, ⟨nc10.1, nc10.2, pd6⟩, .inl ⟨.inl rfl, q1144⟩, fun _ => ⟨q1145, q1146, pF9, 1, rfl⟩, xab (by decide), xab (by decide)⟩
theorem llc411 : ∃ v, Value.long (Int64.ofInt 100) = .long v ∧ Jvm.Cond.constantLong "WorkMeter$Registers" 80 v ∈ xTT := ⟨(100 : Int64), congrArg _ (by decide +kernel), q1148⟩
theorem lgf412 : xGf "WorkMeter" 19 11 2 := ⟨_, _, _, rfl, by decide, .inl q412⟩
theorem lkc413 : x_lkC (osO fv) xTT pCl pP "WorkMeter" 344 (171, 1, 1, 6) := ⟨pm171, rfl, q2, q1160, ⟨nc7.1, nc7.2, pd44⟩, .inl ⟨.inl rfl, q1157⟩, fun _ => ⟨q1158, q1159, pF6, 16, rfl⟩, xab (by decide), xab (by decide)⟩
theorem lkc414 : x_lkC (osO fv) xTT pCl pP "WorkMeter" 347 (180, 0, 1, 2) := ⟨pm180, rfl, q10, q1202, ⟨nc3.1, nc3.2, pd1⟩, .inl ⟨.inl rfl, q1199⟩, fun _ => ⟨q1200, q1201, pF2, 4, rfl⟩, xab (by decide), xab (by decide)⟩
theorem lgf415 : xGf "WorkMeter" 351 5 3 := ⟨_, _, _, rfl, by decide, .inl q245⟩
theorem lgf416 : xGf "WorkMeter" 354 6 12 := ⟨_, _, _, rfl, by decide, .inl q322⟩
theorem lkc417 : x_lkC (osO fv) xTT pCl pP "WorkMeter$Meter" 74 (172, 1, 1, 9) := ⟨pm172, rfl, q3, q1164, ⟨nc10.1, nc10.2, pd47⟩, .inl ⟨.inl rfl, q1161⟩, fun _ => ⟨q1162, q1163, pF9, 1, rfl⟩, xab (by decide), xab (by decide)⟩
theorem lkc418 : x_lkC (osO fv) xTT pCl pP "WorkMeter$Meter" 78 (111, 1, 1, 0) := ⟨pm111, rfl, q5, q889, ⟨nc1.1, nc1.2, pd36⟩, .inl ⟨.inl rfl, q1165⟩, fun _ => ⟨q887, q888, pF0, 8, rfl⟩, xab (by decide), xab (by decide)⟩
theorem lkc419 : x_lkC (osO fv) xTT pCl pP "WorkMeter$Meter" 81 (173, 1, 1, 10) := ⟨pm173, rfl, q7, q1169, ⟨nc11.1, nc11.2, pd48⟩, .inl ⟨.inl rfl, q1166⟩, fun _ => ⟨q1167, q1168, pF10, 7, rfl⟩, xab (by decide), xab (by decide)⟩
theorem lkc420 : x_lkC (osO fv) xTT pCl pP "WorkMeter$Meter" 84 (174, 1, 1, 7) := ⟨pm174, rfl, q8, q1174, ⟨nc8.1, nc8.2, pd45⟩, .inl ⟨.inl rfl, q1171⟩, fun _ => ⟨q1172, q1173, pF7, 4, rfl⟩, xab (by decide), xab (by decide)⟩
theorem lkc421 : x_lkC (osO fv) xTT pCl pP "WorkMeter$Meter" 87 (175, 1, 1, 3) := ⟨pm175, rfl, q9, q1178, ⟨nc4.1, nc4.2, pd38⟩, .inl ⟨.inl rfl, q1175⟩, fun _ => ⟨q1176, q1177, pF3, 10, rfl⟩, xab (by decide), xab (by decide)⟩
theorem lkc422 : x_lkC (osO fv) xTT pCl pP "WorkMeter$Meter" 90 (176, 1, 1, 2) := ⟨pm176, rfl, q10, q1183, ⟨nc3.1, nc3.2, pd37⟩, .inl ⟨.inl rfl, q1180⟩, fun _ => ⟨q1181, q1182, pF2, 4, rfl⟩, xab (by decide), xab (by decide)⟩
theorem lkc423 : x_lkC (osO fv) xTT pCl pP "WorkMeter$Meter" 93 (177, 1, 1, 5) := ⟨pm177, rfl, q11, q1188, ⟨nc6.1, nc6.2, pd43⟩, .inl ⟨.inl rfl, q1185⟩, fun _ => ⟨q1186, q1187, pF5, 4, rfl⟩, xab (by decide), xab (by decide)⟩
theorem lkc424 : x_lkC (osO fv) xTT pCl pP "WorkMeter$Meter" 96 (178, 1, 1, 4) := ⟨pm178, rfl, q12, q1193, ⟨nc5.1, nc5.2, pd41⟩, .inl ⟨.inl rfl, q1190⟩, fun _ => ⟨q1191, q1192, pF4, 2, rfl⟩, xab (by decide), xab (by decide)⟩
theorem lkc425 : x_lkC (osO fv) xTT pCl pP "WorkMeter$Meter" 99 (179, 1, 1, 8) := ⟨pm179, rfl, q13, q1198, ⟨nc9.1, nc9.2, pd46⟩, .inl ⟨.inl rfl, q1195⟩, fun _ => ⟨q1196, q1197, pF8, 5, rfl⟩, xab (by decide), xab (by decide)⟩
theorem lpf426 : xPf ⟨"WorkMeter$Meter", "copyFrom", "(LWorkMeter$Meter;)V"⟩ 102 6 9 0 := ⟨_, _, _, rfl, by decide, .inl ⟨rfl, rfl⟩, .inl ⟨rfl, .inl q315⟩⟩
theorem lpf427 : xPf ⟨"WorkMeter$Meter", "copyFrom", "(LWorkMeter$Meter;)V"⟩ 106 6 10 1 := ⟨_, _, _, rfl, by decide, .inr (.inl ⟨rfl, rfl⟩), .inl ⟨rfl, .inl q317⟩⟩
theorem lpf428 : xPf ⟨"WorkMeter$Meter", "copyFrom", "(LWorkMeter$Meter;)V"⟩ 110 6 11 2 := ⟨_, _, _, rfl, by decide, .inr (.inr (.inl ⟨rfl, rfl⟩)), .inl ⟨rfl, .inl q319⟩⟩
theorem lpf429 : xPf ⟨"WorkMeter$Meter", "copyFrom", "(LWorkMeter$Meter;)V"⟩ 114 6 12 2 := ⟨_, _, _, rfl, by decide, .inr (.inr (.inl ⟨rfl, rfl⟩)), .inl ⟨rfl, .inl q321⟩⟩
theorem lpf430 : xPf ⟨"WorkMeter$Meter", "copyFrom", "(LWorkMeter$Meter;)V"⟩ 117 6 13 0 := ⟨_, _, _, rfl, by decide, .inl ⟨rfl, rfl⟩, .inl ⟨rfl, .inl q323⟩⟩
theorem lpf431 : xPf ⟨"WorkMeter$Meter", "copyFrom", "(LWorkMeter$Meter;)V"⟩ 120 6 14 0 := ⟨_, _, _, rfl, by decide, .inl ⟨rfl, rfl⟩, .inl ⟨rfl, .inl q325⟩⟩
theorem lpf432 : xPf ⟨"WorkMeter$Meter", "copyFrom", "(LWorkMeter$Meter;)V"⟩ 123 6 15 0 := ⟨_, _, _, rfl, by decide, .inl ⟨rfl, rfl⟩, .inl ⟨rfl, .inl q327⟩⟩
theorem lpf433 : xPf ⟨"WorkMeter$Wave", "copyFrom", "(LWorkMeter$Wave;)V"⟩ 22 10 3 0 := ⟨_, _, _, rfl, by decide, .inl ⟨rfl, rfl⟩, .inl ⟨rfl, .inl q108⟩⟩
theorem lpf434 : xPf ⟨"WorkMeter$Wave", "copyFrom", "(LWorkMeter$Wave;)V"⟩ 26 10 4 0 := ⟨_, _, _, rfl, by decide, .inl ⟨rfl, rfl⟩, .inl ⟨rfl, .inl q110⟩⟩
theorem lpf435 : xPf ⟨"WorkMeter$Wave", "copyFrom", "(LWorkMeter$Wave;)V"⟩ 35 10 5 0 := ⟨_, _, _, rfl, by decide, .inl ⟨rfl, rfl⟩, .inl ⟨rfl, .inl q112⟩⟩
theorem lgf436 : xGf "WorkMeter$Wave" 38 10 6 := ⟨_, _, _, rfl, by decide, .inl q115⟩
theorem lpf437 : xPf ⟨"WorkMeter$Wave", "copyFrom", "(LWorkMeter$Wave;)V"⟩ 38 10 6 1 := ⟨_, _, _, rfl, by decide, .inr (.inl ⟨rfl, rfl⟩), .inl ⟨rfl, .inl q115⟩⟩
theorem lpf438 : xPf ⟨"WorkMeter$Registers", "copyFrom", "(LWorkMeter$Registers;)V"⟩ 27 7 3 0 := ⟨_, _, _, rfl, by decide, .inl ⟨rfl, rfl⟩, .inl ⟨rfl, .inl q142⟩⟩
theorem lpf439 : xPf ⟨"WorkMeter$Load", "copyFrom", "(LWorkMeter$Load;)V"⟩ 24 3 2 0 := ⟨_, _, _, rfl, by decide, .inl ⟨rfl, rfl⟩, .inl ⟨rfl, .inl q162⟩⟩
theorem lpf440 : xPf ⟨"WorkMeter$Load", "copyFrom", "(LWorkMeter$Load;)V"⟩ 28 3 3 1 := ⟨_, _, _, rfl, by decide, .inr (.inl ⟨rfl, rfl⟩), .inl ⟨rfl, .inl q164⟩⟩
theorem lpf441 : xPf ⟨"WorkMeter$Load", "copyFrom", "(LWorkMeter$Load;)V"⟩ 32 3 4 1 := ⟨_, _, _, rfl, by decide, .inr (.inl ⟨rfl, rfl⟩), .inl ⟨rfl, .inl q166⟩⟩
theorem lpf442 : xPf ⟨"WorkMeter$Load", "copyFrom", "(LWorkMeter$Load;)V"⟩ 35 3 5 1 := ⟨_, _, _, rfl, by decide, .inr (.inl ⟨rfl, rfl⟩), .inl ⟨rfl, .inl q168⟩⟩
theorem lpf443 : xPf ⟨"WorkMeter$Load", "copyFrom", "(LWorkMeter$Load;)V"⟩ 38 3 6 0 := ⟨_, _, _, rfl, by decide, .inl ⟨rfl, rfl⟩, .inl ⟨rfl, .inl q170⟩⟩
theorem lpf444 : xPf ⟨"WorkMeter$Load", "copyFrom", "(LWorkMeter$Load;)V"⟩ 41 3 7 0 := ⟨_, _, _, rfl, by decide, .inl ⟨rfl, rfl⟩, .inl ⟨rfl, .inl q172⟩⟩
theorem lpf445 : xPf ⟨"WorkMeter$Load", "copyFrom", "(LWorkMeter$Load;)V"⟩ 44 3 8 0 := ⟨_, _, _, rfl, by decide, .inl ⟨rfl, rfl⟩, .inl ⟨rfl, .inl q174⟩⟩
theorem lpf446 : xPf ⟨"WorkMeter$Load", "copyFrom", "(LWorkMeter$Load;)V"⟩ 47 3 9 0 := ⟨_, _, _, rfl, by decide, .inl ⟨rfl, rfl⟩, .inl ⟨rfl, .inl q175⟩⟩
theorem lpf447 : xPf ⟨"WorkMeter$Demand", "copyFrom", "(LWorkMeter$Demand;)V"⟩ 21 2 2 1 := ⟨_, _, _, rfl, by decide, .inr (.inl ⟨rfl, rfl⟩), .inl ⟨rfl, .inl q218⟩⟩
theorem lpf448 : xPf ⟨"WorkMeter$Demand", "copyFrom", "(LWorkMeter$Demand;)V"⟩ 25 2 3 0 := ⟨_, _, _, rfl, by decide, .inl ⟨rfl, rfl⟩, .inl ⟨rfl, .inl q220⟩⟩
theorem lpf449 : xPf ⟨"WorkMeter$Marks", "copyFrom", "(LWorkMeter$Marks;)V"⟩ 25 5 3 0 := ⟨_, _, _, rfl, by decide, .inl ⟨rfl, rfl⟩, .inl ⟨rfl, .inl q243⟩⟩
theorem lpf450 : xPf ⟨"WorkMeter$Logbook", "copyFrom", "(LWorkMeter$Logbook;)V"⟩ 19 4 1 0 := ⟨_, _, _, rfl, by decide, .inl ⟨rfl, rfl⟩, .inl ⟨rfl, .inl q262⟩⟩
theorem lpf451 : xPf ⟨"WorkMeter$Seal", "copyFrom", "(LWorkMeter$Seal;)V"⟩ 7 8 0 2 := ⟨_, _, _, rfl, by decide, .inr (.inr (.inl ⟨rfl, rfl⟩)), .inl ⟨rfl, .inl q275⟩⟩
theorem lgf452 : xGf "WorkMeter$Seal" 13 8 1 := ⟨_, _, _, rfl, by decide, .inl q278⟩
theorem lpf453 : xPf ⟨"WorkMeter$Seal", "copyFrom", "(LWorkMeter$Seal;)V"⟩ 13 8 1 0 := ⟨_, _, _, rfl, by decide, .inl ⟨rfl, rfl⟩, .inl ⟨rfl, .inl q278⟩⟩
theorem lpf454 : xPf ⟨"WorkMeter$Seal", "copyFrom", "(LWorkMeter$Seal;)V"⟩ 17 8 2 0 := ⟨_, _, _, rfl, by decide, .inl ⟨rfl, rfl⟩, .inl ⟨rfl, .inl q280⟩⟩
theorem lpf455 : xPf ⟨"WorkMeter$Seal", "copyFrom", "(LWorkMeter$Seal;)V"⟩ 20 8 3 0 := ⟨_, _, _, rfl, by decide, .inl ⟨rfl, rfl⟩, .inl ⟨rfl, .inl q283⟩⟩
theorem lpf456 : xPf ⟨"WorkMeter$Seal", "copyFrom", "(LWorkMeter$Seal;)V"⟩ 23 8 4 0 := ⟨_, _, _, rfl, by decide, .inl ⟨rfl, rfl⟩, .inl ⟨rfl, .inl q285⟩⟩
theorem lkc457 : x_lkC (osO fv) xTT pCl pP "WorkMeter" 357 (182, 3, 1, 0) := ⟨pm182, rfl, q5, q1211, ⟨nc1.1, nc1.2, pd22⟩, .inl ⟨.inl rfl, q1208⟩, fun _ => ⟨q1209, q1210, pF0, 8, rfl⟩, xab (by decide), xab (by decide)⟩
theorem lkc458 : x_lkC (osO fv) xTT pCl pP "WorkMeter$Calendar" 86 (43, 1, 1, 9) := ⟨pm43, rfl, q3, q547, ⟨nc10.1, nc10.2, pd6⟩, .inl ⟨.inl rfl, q1212⟩, fun _ => ⟨q545, q546, pF9, 1, rfl⟩, xab (by decide), xab (by decide)⟩
theorem lic459 : ∃ v, Value.int (Int32.ofInt 85500) = .int v ∧ Jvm.Cond.constant "WorkMeter" 361 v ∈ xTT := ⟨(85500 : Int32), congrArg _ (by decide +kernel), q1217⟩
theorem lkc460 : x_lkC (osO fv) xTT pCl pP "WorkMeter" 362 (185, 1, 1, 6) := ⟨pm185, rfl, q2, q1225, ⟨nc7.1, nc7.2, pd6⟩, .inl ⟨.inl rfl, q1222⟩, fun _ => ⟨q1223, q1224, pF6, 16, rfl⟩, xab (by decide), xab (by decide)⟩
theorem lgf461 : xGf "WorkMeter" 365 3 1 := ⟨_, _, _, rfl, by decide, .inl q161⟩
theorem lkc462 : x_lkC (osO fv) xTT pCl pP "WorkMeter" 368 (188, 1, 1, 3) := ⟨pm188, rfl, q9, q1237, ⟨nc4.1, nc4.2, pd6⟩, .inl ⟨.inl rfl, q1234⟩, fun _ => ⟨q1235, q1236, pF3, 10, rfl⟩, xab (by decide), xab (by decide)⟩
theorem lkc463 : x_lkC (osO fv) xTT pCl pP "WorkMeter" 371 (68, 2, 1, 3) := ⟨pm68, rfl, q9, q658, ⟨nc4.1, nc4.2, pd11⟩, .inl ⟨.inl rfl, q1240⟩, fun _ => ⟨q656, q657, pF3, 10, rfl⟩, xab (by decide), xab (by decide)⟩
theorem lkc464 : x_lkC (osO fv) xTT pCl pP "WorkMeter$Load" 68 (68, 2, 1, 3) := ⟨pm68, rfl, q9, q658, ⟨nc4.1, nc4.2, pd11⟩, .inl ⟨.inl rfl, q1238⟩, fun _ => ⟨q656, q657, pF3, 10, rfl⟩, xab (by decide), xab (by decide)⟩
theorem lkc465 : x_lkC (osO fv) xTT pCl pP "WorkMeter$Load" 71 (66, 0, 1, 3) := ⟨pm66, rfl, q9, q648, ⟨nc4.1, nc4.2, pd0⟩, .inl ⟨.inl rfl, q1239⟩, fun _ => ⟨q646, q647, pF3, 10, rfl⟩, xab (by decide), xab (by decide)⟩
theorem lkc466 : x_lkC (osO fv) xTT pCl pP "WorkMeter" 374 (191, 0, 1, 4) := ⟨pm191, rfl, q12, q1252, ⟨nc5.1, nc5.2, pd0⟩, .inl ⟨.inl rfl, q1249⟩, fun _ => ⟨q1250, q1251, pF4, 2, rfl⟩, xab (by decide), xab (by decide)⟩
theorem lkc467 : x_lkC (osO fv) xTT pCl pP "WorkMeter" 377 (192, 2, 1, 4) := ⟨pm192, rfl, q12, q1257, ⟨nc5.1, nc5.2, pd10⟩, .inl ⟨.inl rfl, q1254⟩, fun _ => ⟨q1255, q1256, pF4, 2, rfl⟩, xab (by decide), xab (by decide)⟩
theorem lkc468 : x_lkC (osO fv) xTT pCl pP "WorkMeter" 380 (194, 2, 1, 0) := ⟨pm194, rfl, q5, q1265, ⟨nc1.1, nc1.2, pd10⟩, .inl ⟨.inl rfl, q1262⟩, fun _ => ⟨q1263, q1264, pF0, 8, rfl⟩, xab (by decide), xab (by decide)⟩
theorem lgf469 : xGf "WorkMeter" 16 11 1 := ⟨_, _, _, rfl, by decide, .inl q411⟩
theorem lpf470 : xPf ⟨"WorkMeter", "image", "(Z)Z"⟩ 383 11 4 2 := ⟨_, _, _, rfl, by decide, .inr (.inr (.inl ⟨rfl, rfl⟩)), .inl ⟨rfl, .inl q414⟩⟩
theorem lgf471 : xGf "WorkMeter" 383 11 4 := ⟨_, _, _, rfl, by decide, .inl q414⟩
theorem lkc472 : x_lkC (osO fv) xTT pCl pP "WorkMeter" 386 (197, 1, 1, 11) := ⟨pm197, rfl, q1, q1277, ⟨nc0.1, nc0.2, pd7⟩, .inl ⟨.inl rfl, q1274⟩, fun _ => ⟨q1276, qs31, pF11, 5, rfl⟩, xab (by decide), xab (by decide)⟩
theorem lkc473 : x_lkC (osO fv) xTT pCl pP "WorkMeter" 389 (198, 1, 1, 11) := ⟨pm198, rfl, q1, q1281, ⟨nc0.1, nc0.2, pd7⟩, .inl ⟨.inl rfl, q1278⟩, fun _ => ⟨q1280, qs32, pF11, 5, rfl⟩, xab (by decide), xab (by decide)⟩
theorem lkc474 : x_lkC (osO fv) xTT pCl pP "WorkMeter" 392 (199, 1, 1, 11) := ⟨pm199, rfl, q1, q1285, ⟨nc0.1, nc0.2, pd7⟩, .inl ⟨.inl rfl, q1282⟩, fun _ => ⟨q1284, qs33, pF11, 5, rfl⟩, xab (by decide), xab (by decide)⟩
theorem lkc475 : x_lkC (osO fv) xTT pCl pP "WorkMeter" 395 (200, 1, 3, 0) := ⟨pm200, rfl, q1, q1289, ⟨nc0.1, nc0.2, pd6⟩, .inl ⟨.inr (.inr rfl), q1287⟩, xab (by decide), xab (by decide), fun _ => q1288⟩
theorem lkc476 : x_lkC (osO fv) xTT pCl pP "WorkMeter" 398 (168, 1, 1, 9) := ⟨pm168, rfl, q3, q1147, ⟨nc10.1, nc10.2, pd6⟩, .inl ⟨.inl rfl, q1290⟩, fun _ => ⟨q1145, q1146, pF9, 1, rfl⟩, xab (by decide), xab (by decide)⟩
theorem lgf477 : xGf "WorkMeter" 401 6 13 := ⟨_, _, _, rfl, by decide, .inl q324⟩
theorem lgf478 : xGf "WorkMeter" 402 6 14 := ⟨_, _, _, rfl, by decide, .inl q326⟩
theorem lgf479 : xGf "WorkMeter" 405 6 15 := ⟨_, _, _, rfl, by decide, .inl q328⟩
theorem lgf480 : xGf "WorkMeter" 408 4 1 := ⟨_, _, _, rfl, by decide, .inl q263⟩
theorem lgf481 : xGf "WorkMeter" 411 3 2 := ⟨_, _, _, rfl, by decide, .inl q163⟩
theorem lgf482 : xGf "WorkMeter" 412 10 4 := ⟨_, _, _, rfl, by decide, .inl q111⟩
theorem lgf483 : xGf "WorkMeter" 415 0 7 := ⟨_, _, _, rfl, by decide, .inl q81⟩
theorem lgf484 : xGf "WorkMeter" 418 8 0 := ⟨_, _, _, rfl, by decide, .inl q277⟩
theorem lgf485 : xGf "WorkMeter" 421 8 2 := ⟨_, _, _, rfl, by decide, .inl q282⟩
theorem lkc486 : x_lkC (osO fv) xTT pCl pP "WorkMeter" 424 (118, 1, 1, 8) := ⟨pm118, rfl, q13, q920, ⟨nc9.1, nc9.2, pd6⟩, .inl ⟨.inl rfl, q1286⟩, fun _ => ⟨q918, q919, pF8, 5, rfl⟩, xab (by decide), xab (by decide)⟩
theorem lgf487 : xGf "WorkMeter" 427 8 3 := ⟨_, _, _, rfl, by decide, .inl q284⟩
theorem lpf488 : xPf ⟨"WorkMeterModel", "<init>", "()V"⟩ 9 12 0 3 := ⟨_, _, _, rfl, by decide, .inr (.inr (.inr ⟨rfl, .inr ⟨_, rfl⟩⟩)), .inr ⟨rfl, rfl, rfl, q1304⟩⟩
theorem lpf489 : xPf ⟨"WorkMeterModel", "<init>", "()V"⟩ 13 12 1 3 := ⟨_, _, _, rfl, by decide, .inr (.inr (.inr ⟨rfl, .inr ⟨_, rfl⟩⟩)), .inr ⟨rfl, rfl, rfl, q1305⟩⟩
theorem lpf490 : xPf ⟨"WorkMeterModel", "<init>", "()V"⟩ 16 12 2 3 := ⟨_, _, _, rfl, by decide, .inr (.inr (.inr ⟨rfl, .inr ⟨_, rfl⟩⟩)), .inr ⟨rfl, rfl, rfl, q1306⟩⟩
theorem lpf491 : xPf ⟨"WorkMeterModel", "<init>", "()V"⟩ 19 12 4 3 := ⟨_, _, _, rfl, by decide, .inr (.inr (.inr ⟨rfl, .inr ⟨_, rfl⟩⟩)), .inr ⟨rfl, rfl, rfl, q1308⟩⟩
theorem lpf492 : xPf ⟨"WorkMeterModel", "<init>", "()V"⟩ 23 12 7 0 := ⟨_, _, _, rfl, by decide, .inl ⟨rfl, rfl⟩, .inl ⟨rfl, .inl q1311⟩⟩
theorem lpf493 : xPf ⟨"WorkMeterModel", "<init>", "()V"⟩ 27 12 11 3 := ⟨_, _, _, rfl, by decide, .inr (.inr (.inr ⟨rfl, .inr ⟨_, rfl⟩⟩)), .inr ⟨rfl, rfl, rfl, q1315⟩⟩
theorem lpf494 : xPf ⟨"WorkMeterModel", "<init>", "()V"⟩ 31 12 12 3 := ⟨_, _, _, rfl, by decide, .inr (.inr (.inr ⟨rfl, .inr ⟨_, rfl⟩⟩)), .inr ⟨rfl, rfl, rfl, q1316⟩⟩
theorem lgf495 : xGf "WorkMeterModel" 9 12 0 := ⟨_, _, _, rfl, by decide, .inl q1304⟩
theorem llc496 : ∃ v, Value.long (Int64.ofInt 8) = .long v ∧ Jvm.Cond.constantLong "WorkMeterModel" 34 v ∈ xTT := ⟨(8 : Int64), congrArg _ (by decide +kernel), q1297⟩
theorem llc497 : ∃ v, Value.long (Int64.ofInt 1000) = .long v ∧ Jvm.Cond.constantLong "WorkMeterModel" 36 v ∈ xTT := ⟨(1000 : Int64), congrArg _ (by decide +kernel), q1298⟩
theorem llc498 : ∃ v, Value.long (Int64.ofInt 100) = .long v ∧ Jvm.Cond.constantLong "WorkMeterModel" 38 v ∈ xTT := ⟨(100 : Int64), congrArg _ (by decide +kernel), q1299⟩
theorem llc499 : ∃ v, Value.long (Int64.ofInt 3) = .long v ∧ Jvm.Cond.constantLong "WorkMeterModel" 40 v ∈ xTT := ⟨(3 : Int64), congrArg _ (by decide +kernel), q1300⟩
theorem llc500 : ∃ v, Value.long (Int64.ofInt 900) = .long v ∧ Jvm.Cond.constantLong "WorkMeterModel" 42 v ∈ xTT := ⟨(900 : Int64), congrArg _ (by decide +kernel), q1301⟩
theorem llc501 : ∃ v, Value.long (Int64.ofInt 40) = .long v ∧ Jvm.Cond.constantLong "WorkMeterModel" 44 v ∈ xTT := ⟨(40 : Int64), congrArg _ (by decide +kernel), q1302⟩
theorem llc502 : ∃ v, Value.long (Int64.ofInt (-1)) = .long v ∧ Jvm.Cond.constantLong "WorkMeterModel" 46 v ∈ xTT := ⟨(-1 : Int64), congrArg _ (by decide +kernel), q1303⟩
theorem lkc503 : x_lkC (osO fv) xTT pCl pP "WorkMeterModel" 50 (203, 0, 1, 12) := ⟨pm203, rfl, q15, q1358, ⟨nc13.1, nc13.2, pd3⟩, .inl ⟨.inl rfl, q1355⟩, fun _ => ⟨q1357, qs34, pF12, 15, rfl⟩, xab (by decide), xab (by decide)⟩
theorem lkc504 : x_lkC (osO fv) xTT pCl pP "WorkMeterModel" 54 (204, 3, 3, 0) := ⟨pm204, rfl, q15, q1361, ⟨nc13.1, nc13.2, pd35⟩, .inl ⟨.inr (.inr rfl), q1359⟩, xab (by decide), xab (by decide), fun _ => q1360⟩
theorem llc505 : ∃ v, Value.long (Int64.ofInt 4) = .long v ∧ Jvm.Cond.constantLong "WorkMeterModel" 58 v ∈ xTT := ⟨(4 : Int64), congrArg _ (by decide +kernel), q1362⟩
theorem llc506 : ∃ v, Value.long (Int64.ofInt 16) = .long v ∧ Jvm.Cond.constantLong "WorkMeterModel" 60 v ∈ xTT := ⟨(16 : Int64), congrArg _ (by decide +kernel), q1363⟩
theorem llc507 : ∃ v, Value.long (Int64.ofInt (-500)) = .long v ∧ Jvm.Cond.constantLong "WorkMeterModel" 62 v ∈ xTT := ⟨(-500 : Int64), congrArg _ (by decide +kernel), q1368⟩
theorem llc508 : ∃ v, Value.long (Int64.ofInt 500) = .long v ∧ Jvm.Cond.constantLong "WorkMeterModel" 64 v ∈ xTT := ⟨(500 : Int64), congrArg _ (by decide +kernel), q1369⟩
theorem lkc509 : x_lkC (osO fv) xTT pCl pP "WorkMeterModel" 66 (206, 0, 1, 12) := ⟨pm206, rfl, q15, q1373, ⟨nc13.1, nc13.2, pd0⟩, .inl ⟨.inl rfl, q1370⟩, fun _ => ⟨q1372, qs35, pF12, 15, rfl⟩, xab (by decide), xab (by decide)⟩
theorem lkc510 : x_lkC (osO fv) xTT pCl pP "WorkMeterModel" 70 (207, 3, 3, 0) := ⟨pm207, rfl, q15, q1376, ⟨nc13.1, nc13.2, pd14⟩, .inl ⟨.inr (.inr rfl), q1374⟩, xab (by decide), xab (by decide), fun _ => q1375⟩
theorem lkc511 : x_lkC (osO fv) xTT pCl pP "WorkMeterModel" 74 (208, 0, 1, 12) := ⟨pm208, rfl, q15, q1380, ⟨nc13.1, nc13.2, pd2⟩, .inl ⟨.inl rfl, q1377⟩, fun _ => ⟨q1379, qs36, pF12, 15, rfl⟩, xab (by decide), xab (by decide)⟩
theorem lkc512 : x_lkC (osO fv) xTT pCl pP "WorkMeterModel" 101 (209, 1, 1, 12) := ⟨pm209, rfl, q15, q1384, ⟨nc13.1, nc13.2, pd7⟩, .inl ⟨.inl rfl, q1381⟩, fun _ => ⟨q1383, qs37, pF12, 15, rfl⟩, xab (by decide), xab (by decide)⟩
theorem lkc513 : x_lkC (osO fv) xTT pCl pP "WorkMeterModel" 95 (214, 1, 3, 0) := ⟨pm214, rfl, q15, q1403, ⟨nc13.1, nc13.2, pd29⟩, .inl ⟨.inr (.inr rfl), q1401⟩, xab (by decide), xab (by decide), fun _ => q1402⟩
theorem lkc514 : x_lkC (osO fv) xTT pCl pP "WorkMeterModel" 258 (215, 1, 3, 0) := ⟨pm215, rfl, q15, q1408, ⟨nc13.1, nc13.2, pd29⟩, .inl ⟨.inr (.inr rfl), q1406⟩, xab (by decide), xab (by decide), fun _ => q1407⟩
theorem lkc515 : x_lkC (osO fv) xTT pCl pP "WorkMeterModel" 276 (216, 3, 1, 12) := ⟨pm216, rfl, q15, q1412, ⟨nc13.1, nc13.2, pd34⟩, .inl ⟨.inl rfl, q1409⟩, fun _ => ⟨q1411, qs42, pF12, 15, rfl⟩, xab (by decide), xab (by decide)⟩
theorem lkc516 : x_lkC (osO fv) xTT pCl pP "WorkMeterModel" 280 (222, 0, 1, 12) := ⟨pm222, rfl, q15, q1436, ⟨nc13.1, nc13.2, pd2⟩, .inl ⟨.inl rfl, q1433⟩, fun _ => ⟨q1435, qs47, pF12, 15, rfl⟩, xab (by decide), xab (by decide)⟩
theorem lkc517 : x_lkC (osO fv) xTT pCl pP "WorkMeterModel" 283 (224, 0, 1, 12) := ⟨pm224, rfl, q15, q1445, ⟨nc13.1, nc13.2, pd2⟩, .inl ⟨.inl rfl, q1442⟩, fun _ => ⟨q1444, qs49, pF12, 15, rfl⟩, xab (by decide), xab (by decide)⟩
theorem lkc518 : x_lkC (osO fv) xTT pCl pP "WorkMeterModel" 286 (230, 0, 1, 12) := ⟨pm230, rfl, q15, q1469, ⟨nc13.1, nc13.2, pd2⟩, .inl ⟨.inl rfl, q1466⟩, fun _ => ⟨q1468, qs55, pF12, 15, rfl⟩, xab (by decide), xab (by decide)⟩
theorem lkc519 : x_lkC (osO fv) xTT pCl pP "WorkMeterModel" 80 (210, 1, 1, 12) := ⟨pm210, rfl, q15, q1388, ⟨nc13.1, nc13.2, pd7⟩, .inl ⟨.inl rfl, q1385⟩, fun _ => ⟨q1387, qs38, pF12, 15, rfl⟩, xab (by decide), xab (by decide)⟩
theorem lkc520 : x_lkC (osO fv) xTT pCl pP "WorkMeterModel" 84 (212, 1, 1, 12) := ⟨pm212, rfl, q15, q1396, ⟨nc13.1, nc13.2, pd7⟩, .inl ⟨.inl rfl, q1393⟩, fun _ => ⟨q1395, qs40, pF12, 15, rfl⟩, xab (by decide), xab (by decide)⟩
theorem lkc521 : x_lkC (osO fv) xTT pCl pP "WorkMeterModel" 87 (213, 2, 1, 12) := ⟨pm213, rfl, q15, q1400, ⟨nc13.1, nc13.2, pd11⟩, .inl ⟨.inl rfl, q1397⟩, fun _ => ⟨q1399, qs41, pF12, 15, rfl⟩, xab (by decide), xab (by decide)⟩
theorem lkc522 : x_lkC (osO fv) xTT pCl pP "WorkMeterModel" 77 (211, 0, 1, 12) := ⟨pm211, rfl, q15, q1392, ⟨nc13.1, nc13.2, pd0⟩, .inl ⟨.inl rfl, q1389⟩, fun _ => ⟨q1391, qs39, pF12, 15, rfl⟩, xab (by decide), xab (by decide)⟩
theorem llc523 : ∃ v, Value.long (Int64.ofInt 3000000000) = .long v ∧ Jvm.Cond.constantLong "WorkMeterModel" 91 v ∈ xTT := ⟨(3000000000 : Int64), congrArg _ (by decide +kernel), q1404⟩
theorem llc524 : ∃ v, Value.long (Int64.ofInt 2) = .long v ∧ Jvm.Cond.constantLong "WorkMeterModel" 93 v ∈ xTT := ⟨(2 : Int64), congrArg _ (by decide +kernel), q1405⟩
theorem lkc525 : x_lkC (osO fv) xTT pCl pP "WorkMeterModel" 147 (217, 1, 1, 12) := ⟨pm217, rfl, q15, q1416, ⟨nc13.1, nc13.2, pd6⟩, .inl ⟨.inl rfl, q1413⟩, fun _ => ⟨q1415, qs43, pF12, 15, rfl⟩, xab (by decide), xab (by decide)⟩
theorem lkc526 : x_lkC (osO fv) xTT pCl pP "WorkMeterModel" 254 (220, 3, 1, 12) := ⟨pm220, rfl, q15, q1429, ⟨nc13.1, nc13.2, pd21⟩, .inl ⟨.inl rfl, q1426⟩, fun _ => ⟨q1428, qs46, pF12, 15, rfl⟩, xab (by decide), xab (by decide)⟩
theorem lkc527 : x_lkC (osO fv) xTT pCl pP "WorkMeterModel" 104 (221, 2, 3, 0) := ⟨pm221, rfl, q15, q1432, ⟨nc13.1, nc13.2, pd31⟩, .inl ⟨.inr (.inr rfl), q1430⟩, xab (by decide), xab (by decide), fun _ => q1431⟩
theorem lic528 : ∃ v, Value.int (Int32.ofInt 86400) = .int v ∧ Jvm.Cond.constant "WorkMeterModel" 119 v ∈ xTT := ⟨(86400 : Int32), congrArg _ (by decide +kernel), q1417⟩
theorem lkc529 : x_lkC (osO fv) xTT pCl pP "WorkMeterModel" 120 (218, 1, 1, 12) := ⟨pm218, rfl, q15, q1421, ⟨nc13.1, nc13.2, pd6⟩, .inl ⟨.inl rfl, q1418⟩, fun _ => ⟨q1420, qs44, pF12, 15, rfl⟩, xab (by decide), xab (by decide)⟩
theorem lkc530 : x_lkC (osO fv) xTT pCl pP "WorkMeterModel" 115 (219, 1, 1, 12) := ⟨pm219, rfl, q15, q1425, ⟨nc13.1, nc13.2, pd6⟩, .inl ⟨.inl rfl, q1422⟩, fun _ => ⟨q1424, qs45, pF12, 15, rfl⟩, xab (by decide), xab (by decide)⟩
theorem lkc531 : x_lkC (osO fv) xTT pCl pP "WorkMeterModel" 244 (223, 2, 1, 12) := ⟨pm223, rfl, q15, q1440, ⟨nc13.1, nc13.2, pd23⟩, .inl ⟨.inl rfl, q1437⟩, fun _ => ⟨q1439, qs48, pF12, 15, rfl⟩, xab (by decide), xab (by decide)⟩
theorem llc532 : ∃ v, Value.long (Int64.ofInt 39) = .long v ∧ Jvm.Cond.constantLong "WorkMeterModel" 48 v ∈ xTT := ⟨(39 : Int64), congrArg _ (by decide +kernel), q1441⟩
theorem lkc533 : x_lkC (osO fv) xTT pCl pP "WorkMeterModel" 261 (225, 0, 1, 12) := ⟨pm225, rfl, q15, q1449, ⟨nc13.1, nc13.2, pd3⟩, .inl ⟨.inl rfl, q1446⟩, fun _ => ⟨q1448, qs50, pF12, 15, rfl⟩, xab (by decide), xab (by decide)⟩
theorem lkc534 : x_lkC (osO fv) xTT pCl pP "WorkMeterModel" 264 (226, 0, 1, 12) := ⟨pm226, rfl, q15, q1453, ⟨nc13.1, nc13.2, pd3⟩, .inl ⟨.inl rfl, q1450⟩, fun _ => ⟨q1452, qs51, pF12, 15, rfl⟩, xab (by decide), xab (by decide)⟩
theorem lkc535 : x_lkC (osO fv) xTT pCl pP "WorkMeterModel" 267 (227, 0, 1, 12) := ⟨pm227, rfl, q15, q1457, ⟨nc13.1, nc13.2, pd3⟩, .inl ⟨.inl rfl, q1454⟩, fun _ => ⟨q1456, qs52, pF12, 15, rfl⟩, xab (by decide), xab (by decide)⟩
theorem lkc536 : x_lkC (osO fv) xTT pCl pP "WorkMeterModel" 270 (228, 1, 1, 12) := ⟨pm228, rfl, q15, q1461, ⟨nc13.1, nc13.2, pd8⟩, .inl ⟨.inl rfl, q1458⟩, fun _ => ⟨q1460, qs53, pF12, 15, rfl⟩, xab (by decide), xab (by decide)⟩
theorem lkc537 : x_lkC (osO fv) xTT pCl pP "WorkMeterModel" 273 (229, 1, 1, 12) := ⟨pm229, rfl, q15, q1465, ⟨nc13.1, nc13.2, pd8⟩, .inl ⟨.inl rfl, q1462⟩, fun _ => ⟨q1464, qs54, pF12, 15, rfl⟩, xab (by decide), xab (by decide)⟩
theorem lkc538 : x_lkC (osO fv) xTT pCl pP "WorkMeterModel" 289 (231, 0, 1, 12) := ⟨pm231, rfl, q15, q1473, ⟨nc13.1, nc13.2, pd1⟩, .inl ⟨.inl rfl, q1470⟩, fun _ => ⟨q1472, qs56, pF12, 15, rfl⟩, xab (by decide), xab (by decide)⟩
theorem llc539 : ∃ v, Value.long (Int64.ofInt 2000000000) = .long v ∧ Jvm.Cond.constantLong "WorkMeterModel" 145 v ∈ xTT := ⟨(2000000000 : Int64), congrArg _ (by decide +kernel), q1474⟩
theorem lkc540 : x_lkC (osO fv) xTT pCl pP "WorkMeterModel" 292 (232, 1, 1, 12) := ⟨pm232, rfl, q15, q1478, ⟨nc13.1, nc13.2, pd30⟩, .inl ⟨.inl rfl, q1475⟩, fun _ => ⟨q1477, qs57, pF12, 15, rfl⟩, xab (by decide), xab (by decide)⟩
theorem lkc541 : x_lkC (osO fv) xTT pCl pP "WorkMeterModel" 298 (233, 0, 1, 12) := ⟨pm233, rfl, q15, q1482, ⟨nc13.1, nc13.2, pd2⟩, .inl ⟨.inl rfl, q1479⟩, fun _ => ⟨q1481, qs58, pF12, 15, rfl⟩, xab (by decide), xab (by decide)⟩
theorem llc542 : ∃ v, Value.long (Int64.ofInt 64) = .long v ∧ Jvm.Cond.constantLong "WorkMeterModel" 296 v ∈ xTT := ⟨(64 : Int64), congrArg _ (by decide +kernel), q1483⟩
theorem lkc543 : x_lkC (osO fv) xTT pCl pP "WorkMeterModel" 301 (234, 2, 1, 12) := ⟨pm234, rfl, q15, q1487, ⟨nc13.1, nc13.2, pd11⟩, .inl ⟨.inl rfl, q1484⟩, fun _ => ⟨q1486, qs59, pF12, 15, rfl⟩, xab (by decide), xab (by decide)⟩
theorem lkc544 : x_lkC (osO fv) xTT pCl pP "WorkMeterModel" 303 (235, 0, 1, 12) := ⟨pm235, rfl, q15, q1491, ⟨nc13.1, nc13.2, pd0⟩, .inl ⟨.inl rfl, q1488⟩, fun _ => ⟨q1490, qs60, pF12, 15, rfl⟩, xab (by decide), xab (by decide)⟩
theorem lkc545 : x_lkC (osO fv) xTT pCl pP "WorkMeterModel" 306 (236, 0, 1, 12) := ⟨pm236, rfl, q15, q1495, ⟨nc13.1, nc13.2, pd2⟩, .inl ⟨.inl rfl, q1492⟩, fun _ => ⟨q1494, qs61, pF12, 15, rfl⟩, xab (by decide), xab (by decide)⟩
theorem llc546 : ∃ v, Value.long (Int64.ofInt 192) = .long v ∧ Jvm.Cond.constantLong "WorkMeterModel" 309 v ∈ xTT := ⟨(192 : Int64), congrArg _ (by decide +kernel), q1496⟩
theorem llc547 : ∃ v, Value.long (Int64.ofInt (-10000000000)) = .long v ∧ Jvm.Cond.constantLong "WorkMeterModel" 99 v ∈ xTT := ⟨(-10000000000 : Int64), congrArg _ (by decide +kernel), q1501⟩
theorem lkc548 : x_lkC (osO fv) xTT pCl pP "WorkMeterModel" 108 (238, 1, 1, 12) := ⟨pm238, rfl, q15, q1505, ⟨nc13.1, nc13.2, pd7⟩, .inl ⟨.inl rfl, q1502⟩, fun _ => ⟨q1504, qs62, pF12, 15, rfl⟩, xab (by decide), xab (by decide)⟩
theorem lkc549 : x_lkC (osO fv) xTT pCl pP "WorkMeterModel" 111 (239, 2, 3, 0) := ⟨pm239, rfl, q15, q1508, ⟨nc13.1, nc13.2, pd32⟩, .inl ⟨.inr (.inr rfl), q1506⟩, xab (by decide), xab (by decide), fun _ => q1507⟩
theorem lkc550 : x_lkC (osO fv) xTT pCl pP "WorkMeterModel" 125 (241, 1, 3, 0) := ⟨pm241, rfl, q15, q1515, ⟨nc13.1, nc13.2, pd9⟩, .inl ⟨.inr (.inr rfl), q1513⟩, xab (by decide), xab (by decide), fun _ => q1514⟩
theorem llc551 : ∃ v, Value.long (Int64.ofInt 86399) = .long v ∧ Jvm.Cond.constantLong "WorkMeterModel" 128 v ∈ xTT := ⟨(86399 : Int64), congrArg _ (by decide +kernel), q1517⟩
theorem lkc552 : x_lkC (osO fv) xTT pCl pP "WorkMeterModel" 130 (242, 1, 3, 0) := ⟨pm242, rfl, q15, q1520, ⟨nc13.1, nc13.2, pd9⟩, .inl ⟨.inr (.inr rfl), q1518⟩, xab (by decide), xab (by decide), fun _ => q1519⟩
theorem lkc553 : x_lkC (osO fv) xTT pCl pP "WorkMeterModel" 133 (243, 3, 1, 12) := ⟨pm243, rfl, q15, q1524, ⟨nc13.1, nc13.2, pd14⟩, .inl ⟨.inl rfl, q1521⟩, fun _ => ⟨q1523, qs63, pF12, 15, rfl⟩, xab (by decide), xab (by decide)⟩
theorem llc554 : ∃ v, Value.long (Int64.ofInt 7) = .long v ∧ Jvm.Cond.constantLong "WorkMeterModel" 123 v ∈ xTT := ⟨(7 : Int64), congrArg _ (by decide +kernel), q1516⟩
theorem lkc555 : x_lkC (osO fv) xTT pCl pP "WorkMeterModel" 136 (246, 1, 3, 0) := ⟨pm246, rfl, q15, q1535, ⟨nc13.1, nc13.2, pd9⟩, .inl ⟨.inr (.inr rfl), q1533⟩, xab (by decide), xab (by decide), fun _ => q1534⟩
theorem llc556 : ∃ v, Value.long (Int64.ofInt 364) = .long v ∧ Jvm.Cond.constantLong "WorkMeterModel" 138 v ∈ xTT := ⟨(364 : Int64), congrArg _ (by decide +kernel), q1536⟩
theorem llc557 : ∃ v, Value.long (Int64.ofInt 6) = .long v ∧ Jvm.Cond.constantLong "WorkMeterModel" 140 v ∈ xTT := ⟨(6 : Int64), congrArg _ (by decide +kernel), q1541⟩
theorem lkc558 : x_lkC (osO fv) xTT pCl pP "WorkMeterModel" 142 (249, 0, 1, 12) := ⟨pm249, rfl, q15, q1549, ⟨nc13.1, nc13.2, pd0⟩, .inl ⟨.inl rfl, q1546⟩, fun _ => ⟨q1548, qs64, pF12, 15, rfl⟩, xab (by decide), xab (by decide)⟩
theorem llc559 : ∃ v, Value.long (Int64.ofInt 23148) = .long v ∧ Jvm.Cond.constantLong "WorkMeterModel" 150 v ∈ xTT := ⟨(23148 : Int64), congrArg _ (by decide +kernel), q1558⟩
theorem lkc560 : x_lkC (osO fv) xTT pCl pP "WorkMeterModel" 154 (255, 0, 1, 12) := ⟨pm255, rfl, q15, q1574, ⟨nc13.1, nc13.2, pd0⟩, .inl ⟨.inl rfl, q1571⟩, fun _ => ⟨q1573, qs65, pF12, 15, rfl⟩, xab (by decide), xab (by decide)⟩
theorem llc561 : ∃ v, Value.long (Int64.ofInt 86400) = .long v ∧ Jvm.Cond.constantLong "WorkMeterModel" 152 v ∈ xTT := ⟨(86400 : Int64), congrArg _ (by decide +kernel), q1575⟩
theorem lgf562 : xGf "WorkMeterModel" 157 12 5 := ⟨_, _, _, rfl, by decide, .inl q1309⟩
theorem lkc563 : x_lkC (osO fv) xTT pCl pP "WorkMeterModel" 160 (257, 1, 1, 12) := ⟨pm257, rfl, q15, q1583, ⟨nc13.1, nc13.2, pd8⟩, .inl ⟨.inl rfl, q1580⟩, fun _ => ⟨q1582, qs66, pF12, 15, rfl⟩, xab (by decide), xab (by decide)⟩
theorem lgf564 : xGf "WorkMeterModel" 19 12 4 := ⟨_, _, _, rfl, by decide, .inl q1308⟩
theorem lpf565 : xPf ⟨"WorkMeterModel", "comes", "(I)V"⟩ 157 12 5 0 := ⟨_, _, _, rfl, by decide, .inl ⟨rfl, rfl⟩, .inl ⟨rfl, .inl q1309⟩⟩
theorem lpf566 : xPf ⟨"WorkMeterModel", "end", "(I)Z"⟩ 157 12 5 0 := ⟨_, _, _, rfl, by decide, .inl ⟨rfl, rfl⟩, .inl ⟨rfl, .inl q1309⟩⟩
theorem lgf567 : xGf "WorkMeterModel" 164 12 6 := ⟨_, _, _, rfl, by decide, .inl q1310⟩
theorem lgf568 : xGf "WorkMeterModel" 23 12 7 := ⟨_, _, _, rfl, by decide, .inl q1311⟩
theorem lpf569 : xPf ⟨"WorkMeterModel", "calendar", "()I"⟩ 164 12 6 0 := ⟨_, _, _, rfl, by decide, .inl ⟨rfl, rfl⟩, .inl ⟨rfl, .inl q1310⟩⟩
theorem lpf570 : xPf ⟨"WorkMeterModel", "calendar", "()I"⟩ 23 12 7 0 := ⟨_, _, _, rfl, by decide, .inl ⟨rfl, rfl⟩, .inl ⟨rfl, .inl q1311⟩⟩
theorem lpf571 : xPf ⟨"WorkMeterModel", "calendar", "()I"⟩ 157 12 5 0 := ⟨_, _, _, rfl, by decide, .inl ⟨rfl, rfl⟩, .inl ⟨rfl, .inl q1309⟩⟩
theorem lgf572 : xGf "WorkMeterModel" 13 12 1 := ⟨_, _, _, rfl, by decide, .inl q1305⟩
theorem lkc573 : x_lkC (osO fv) xTT pCl pP "WorkMeterModel" 232 (261, 2, 3, 0) := ⟨pm261, rfl, q15, q1598, ⟨nc13.1, nc13.2, pd57⟩, .inl ⟨.inr (.inr rfl), q1596⟩, xab (by decide), xab (by decide), fun _ => q1597⟩
theorem lpf574 : xPf ⟨"WorkMeterModel", "calendar", "()I"⟩ 167 12 9 2 := ⟨_, _, _, rfl, by decide, .inr (.inr (.inl ⟨rfl, rfl⟩)), .inl ⟨rfl, .inl q1313⟩⟩
theorem lpf575 : xPf ⟨"WorkMeterModel", "calendar", "()I"⟩ 171 12 8 0 := ⟨_, _, _, rfl, by decide, .inl ⟨rfl, rfl⟩, .inl ⟨rfl, .inl q1312⟩⟩
theorem lkc576 : x_lkC (osO fv) xTT pCl pP "WorkMeterModel" 236 (262, 0, 1, 12) := ⟨pm262, rfl, q15, q1602, ⟨nc13.1, nc13.2, pd2⟩, .inl ⟨.inl rfl, q1599⟩, fun _ => ⟨q1601, qs67, pF12, 15, rfl⟩, xab (by decide), xab (by decide)⟩
theorem lkc577 : x_lkC (osO fv) xTT pCl pP "WorkMeterModel" 173 (263, 0, 1, 12) := ⟨pm263, rfl, q15, q1606, ⟨nc13.1, nc13.2, pd2⟩, .inl ⟨.inl rfl, q1603⟩, fun _ => ⟨q1605, qs68, pF12, 15, rfl⟩, xab (by decide), xab (by decide)⟩
theorem lgf578 : xGf "WorkMeterModel" 171 12 8 := ⟨_, _, _, rfl, by decide, .inl q1312⟩
theorem lgf579 : xGf "WorkMeterModel" 167 12 9 := ⟨_, _, _, rfl, by decide, .inl q1313⟩
theorem lkc580 : x_lkC (osO fv) xTT pCl pP "WorkMeterModel" 239 (264, 0, 1, 12) := ⟨pm264, rfl, q15, q1610, ⟨nc13.1, nc13.2, pd2⟩, .inl ⟨.inl rfl, q1607⟩, fun _ => ⟨q1609, qs69, pF12, 15, rfl⟩, xab (by decide), xab (by decide)⟩
theorem lgf581 : xGf "WorkMeterModel" 27 12 11 := ⟨_, _, _, rfl, by decide, .inl q1315⟩
theorem lgf582 : xGf "WorkMeterModel" 31 12 12 := ⟨_, _, _, rfl, by decide, .inl q1316⟩
theorem lpf583 : xPf ⟨"WorkMeterModel", "clears", "()V"⟩ 199 12 13 0 := ⟨_, _, _, rfl, by decide, .inl ⟨rfl, rfl⟩, .inl ⟨rfl, .inl q1317⟩⟩
theorem lpf584 : xPf ⟨"WorkMeterModel", "clears", "()V"⟩ 202 12 14 2 := ⟨_, _, _, rfl, by decide, .inr (.inr (.inl ⟨rfl, rfl⟩)), .inl ⟨rfl, .inl q1318⟩⟩
theorem lpf585 : xPf ⟨"WorkMeterModel", "blanks", "()V"⟩ 171 12 8 0 := ⟨_, _, _, rfl, by decide, .inl ⟨rfl, rfl⟩, .inl ⟨rfl, .inl q1312⟩⟩
theorem lkc586 : x_lkC (osO fv) xTT pCl pP "WorkMeterModel" 220 (265, 0, 1, 12) := ⟨pm265, rfl, q15, q1614, ⟨nc13.1, nc13.2, pd0⟩, .inl ⟨.inl rfl, q1611⟩, fun _ => ⟨q1613, qs70, pF12, 15, rfl⟩, xab (by decide), xab (by decide)⟩
theorem lkc587 : x_lkC (osO fv) xTT pCl pP "WorkMeterModel" 184 (268, 2, 1, 12) := ⟨pm268, rfl, q15, q1628, ⟨nc13.1, nc13.2, pd12⟩, .inl ⟨.inl rfl, q1625⟩, fun _ => ⟨q1627, qs73, pF12, 15, rfl⟩, xab (by decide), xab (by decide)⟩
theorem lgf588 : xGf "WorkMeterModel" 199 12 13 := ⟨_, _, _, rfl, by decide, .inl q1317⟩
theorem lgf589 : xGf "WorkMeterModel" 202 12 14 := ⟨_, _, _, rfl, by decide, .inl q1318⟩
theorem lkc590 : x_lkC (osO fv) xTT pCl pP "WorkMeterModel" 192 (267, 0, 1, 12) := ⟨pm267, rfl, q15, q1622, ⟨nc13.1, nc13.2, pd0⟩, .inl ⟨.inl rfl, q1619⟩, fun _ => ⟨q1621, qs72, pF12, 15, rfl⟩, xab (by decide), xab (by decide)⟩
theorem lpf591 : xPf ⟨"WorkMeterModel", "line", "()V"⟩ 171 12 8 0 := ⟨_, _, _, rfl, by decide, .inl ⟨rfl, rfl⟩, .inl ⟨rfl, .inl q1312⟩⟩
theorem lkc592 : x_lkC (osO fv) xTT pCl pP "WorkMeterModel" 223 (269, 0, 1, 12) := ⟨pm269, rfl, q15, q1632, ⟨nc13.1, nc13.2, pd2⟩, .inl ⟨.inl rfl, q1629⟩, fun _ => ⟨q1631, qs74, pF12, 15, rfl⟩, xab (by decide), xab (by decide)⟩
theorem lkc593 : x_lkC (osO fv) xTT pCl pP "WorkMeterModel" 226 (274, 0, 1, 12) := ⟨pm274, rfl, q15, q1655, ⟨nc13.1, nc13.2, pd2⟩, .inl ⟨.inl rfl, q1652⟩, fun _ => ⟨q1654, qs79, pF12, 15, rfl⟩, xab (by decide), xab (by decide)⟩
theorem lpf594 : xPf ⟨"WorkMeterModel", "line", "()V"⟩ 199 12 13 0 := ⟨_, _, _, rfl, by decide, .inl ⟨rfl, rfl⟩, .inl ⟨rfl, .inl q1317⟩⟩
theorem lkc595 : x_lkC (osO fv) xTT pCl pP "WorkMeterModel" 229 (275, 0, 1, 12) := ⟨pm275, rfl, q15, q1659, ⟨nc13.1, nc13.2, pd2⟩, .inl ⟨.inl rfl, q1656⟩, fun _ => ⟨q1658, qs80, pF12, 15, rfl⟩, xab (by decide), xab (by decide)⟩
theorem lpf596 : xPf ⟨"WorkMeterModel", "line", "()V"⟩ 202 12 14 2 := ⟨_, _, _, rfl, by decide, .inr (.inr (.inl ⟨rfl, rfl⟩)), .inl ⟨rfl, .inl q1318⟩⟩
theorem lkc597 : x_lkC (osO fv) xTT pCl pP "WorkMeterModel" 205 (270, 2, 1, 12) := ⟨pm270, rfl, q15, q1636, ⟨nc13.1, nc13.2, pd10⟩, .inl ⟨.inl rfl, q1633⟩, fun _ => ⟨q1635, qs75, pF12, 15, rfl⟩, xab (by decide), xab (by decide)⟩
theorem lkc598 : x_lkC (osO fv) xTT pCl pP "WorkMeterModel" 212 (272, 1, 1, 12) := ⟨pm272, rfl, q15, q1647, ⟨nc13.1, nc13.2, pd4⟩, .inl ⟨.inl rfl, q1644⟩, fun _ => ⟨q1646, qs77, pF12, 15, rfl⟩, xab (by decide), xab (by decide)⟩
theorem lkc599 : x_lkC (osO fv) xTT pCl pP "WorkMeterModel" 195 (266, 8, 1, 12) := ⟨pm266, rfl, q15, q1618, ⟨nc13.1, nc13.2, pd19⟩, .inl ⟨.inl rfl, q1615⟩, fun _ => ⟨q1617, qs71, pF12, 15, rfl⟩, xab (by decide), xab (by decide)⟩
theorem llc600 : ∃ v, Value.long (Int64.ofInt 97) = .long v ∧ Jvm.Cond.constantLong "WorkMeterModel" 188 v ∈ xTT := ⟨(97 : Int64), congrArg _ (by decide +kernel), q1623⟩
theorem llc601 : ∃ v, Value.long (Int64.ofInt 122) = .long v ∧ Jvm.Cond.constantLong "WorkMeterModel" 190 v ∈ xTT := ⟨(122 : Int64), congrArg _ (by decide +kernel), q1624⟩
theorem lpf602 : xPf ⟨"WorkMeterModel", "wrong", "(II)V"⟩ 167 12 9 2 := ⟨_, _, _, rfl, by decide, .inr (.inr (.inl ⟨rfl, rfl⟩)), .inl ⟨rfl, .inl q1313⟩⟩
theorem lpf603 : xPf ⟨"WorkMeterModel", "wrong", "(II)V"⟩ 164 12 6 0 := ⟨_, _, _, rfl, by decide, .inl ⟨rfl, rfl⟩, .inl ⟨rfl, .inl q1310⟩⟩
theorem lpf604 : xPf ⟨"WorkMeterModel", "wrong", "(II)V"⟩ 23 12 7 0 := ⟨_, _, _, rfl, by decide, .inl ⟨rfl, rfl⟩, .inl ⟨rfl, .inl q1311⟩⟩
theorem lgf605 : xGf "WorkMeterModel" 180 12 10 := ⟨_, _, _, rfl, by decide, .inl q1314⟩
theorem lkc606 : x_lkC (osO fv) xTT pCl pP "WorkMeterModel" 209 (271, 0, 1, 12) := ⟨pm271, rfl, q15, q1643, ⟨nc13.1, nc13.2, pd3⟩, .inl ⟨.inl rfl, q1640⟩, fun _ => ⟨q1642, qs76, pF12, 15, rfl⟩, xab (by decide), xab (by decide)⟩
theorem lkc607 : x_lkC (osO fv) xTT pCl pP "WorkMeterModel" 216 (273, 2, 1, 12) := ⟨pm273, rfl, q15, q1651, ⟨nc13.1, nc13.2, pd13⟩, .inl ⟨.inl rfl, q1648⟩, fun _ => ⟨q1650, qs78, pF12, 15, rfl⟩, xab (by decide), xab (by decide)⟩
theorem lpf608 : xPf ⟨"WorkMeterModel", "number", "(II)I"⟩ 180 12 10 0 := ⟨_, _, _, rfl, by decide, .inl ⟨rfl, rfl⟩, .inl ⟨rfl, .inl q1314⟩⟩
theorem llc609 : ∃ v, Value.long (Int64.ofInt 48) = .long v ∧ Jvm.Cond.constantLong "WorkMeterModel" 176 v ∈ xTT := ⟨(48 : Int64), congrArg _ (by decide +kernel), q1637⟩
theorem llc610 : ∃ v, Value.long (Int64.ofInt 57) = .long v ∧ Jvm.Cond.constantLong "WorkMeterModel" 178 v ∈ xTT := ⟨(57 : Int64), congrArg _ (by decide +kernel), q1638⟩
theorem lic611 : ∃ v, Value.int (Int32.ofInt 100000) = .int v ∧ Jvm.Cond.constant "WorkMeterModel" 183 v ∈ xTT := ⟨(100000 : Int32), congrArg _ (by decide +kernel), q1639⟩
theorem lpf612 : xPf ⟨"WorkMeterModel", "number", "(II)I"⟩ 171 12 8 0 := ⟨_, _, _, rfl, by decide, .inl ⟨rfl, rfl⟩, .inl ⟨rfl, .inl q1312⟩⟩
theorem lpf613 : xPf ⟨"WorkMeterModel", "must", "(C)V"⟩ 171 12 8 0 := ⟨_, _, _, rfl, by decide, .inl ⟨rfl, rfl⟩, .inl ⟨rfl, .inl q1312⟩⟩
theorem llc614 : ∃ v, Value.long (Int64.ofInt 9999) = .long v ∧ Jvm.Cond.constantLong "WorkMeterModel" 242 v ∈ xTT := ⟨(9999 : Int64), congrArg _ (by decide +kernel), q1664⟩
theorem lkc615 : x_lkC (osO fv) xTT pCl pP "WorkMeterModel" 248 (278, 0, 1, 12) := ⟨pm278, rfl, q15, q1672, ⟨nc13.1, nc13.2, pd1⟩, .inl ⟨.inl rfl, q1669⟩, fun _ => ⟨q1671, qs81, pF12, 15, rfl⟩, xab (by decide), xab (by decide)⟩
theorem llc616 : ∃ v, Value.long (Int64.ofInt 300) = .long v ∧ Jvm.Cond.constantLong "WorkMeterModel" 252 v ∈ xTT := ⟨(300 : Int64), congrArg _ (by decide +kernel), q1673⟩
theorem llc617 : ∃ v, Value.long (Int64.ofInt 1000000) = .long v ∧ Jvm.Cond.constantLong "WorkMeterModel" 311 v ∈ xTT := ⟨(1000000 : Int64), congrArg _ (by decide +kernel), q1682⟩
theorem llc618 : ∃ v, Value.long (Int64.ofInt 250000) = .long v ∧ Jvm.Cond.constantLong "WorkMeterModel" 313 v ∈ xTT := ⟨(250000 : Int64), congrArg _ (by decide +kernel), q1683⟩
theorem llc619 : ∃ v, Value.long (Int64.ofInt 60) = .long v ∧ Jvm.Cond.constantLong "WorkMeterModel" 315 v ∈ xTT := ⟨(60 : Int64), congrArg _ (by decide +kernel), q1684⟩
theorem llc620 : ∃ v, Value.long (Int64.ofInt 200) = .long v ∧ Jvm.Cond.constantLong "WorkMeterModel" 317 v ∈ xTT := ⟨(200 : Int64), congrArg _ (by decide +kernel), q1685⟩
theorem llc621 : ∃ v, Value.long (Int64.ofInt 10) = .long v ∧ Jvm.Cond.constantLong "WorkMeterModel" 319 v ∈ xTT := ⟨(10 : Int64), congrArg _ (by decide +kernel), q1686⟩
theorem llc622 : ∃ v, Value.long (Int64.ofInt 13) = .long v ∧ Jvm.Cond.constantLong "WorkMeterModel" 321 v ∈ xTT := ⟨(13 : Int64), congrArg _ (by decide +kernel), q1687⟩
theorem llc623 : ∃ v, Value.long (Int64.ofInt 100000) = .long v ∧ Jvm.Cond.constantLong "WorkMeterModel" 323 v ∈ xTT := ⟨(100000 : Int64), congrArg _ (by decide +kernel), q1696⟩
theorem llc624 : ∃ v, Value.long (Int64.ofInt 1000000000) = .long v ∧ Jvm.Cond.constantLong "WorkMeterModel" 325 v ∈ xTT := ⟨(1000000000 : Int64), congrArg _ (by decide +kernel), q1709⟩
theorem lkc625 : x_lkC (osO fv) xTT pCl pP "WorkMeterModel" 327 (287, 0, 1, 12) := ⟨pm287, rfl, q15, q1717, ⟨nc13.1, nc13.2, pd0⟩, .inl ⟨.inl rfl, q1714⟩, fun _ => ⟨q1716, qs82, pF12, 15, rfl⟩, xab (by decide), xab (by decide)⟩
theorem lkc626 : x_lkC (osO fv) xTT pCl pP "WorkMeterModel" 330 (289, 1, 1, 12) := ⟨pm289, rfl, q15, q1725, ⟨nc13.1, nc13.2, pd6⟩, .inl ⟨.inl rfl, q1722⟩, fun _ => ⟨q1724, qs83, pF12, 15, rfl⟩, xab (by decide), xab (by decide)⟩
theorem lkc627 : x_lkC (osO fv) xTT pCl pP "WorkMeterModel" 333 (290, 2, 3, 0) := ⟨pm290, rfl, q15, q1728, ⟨nc13.1, nc13.2, pd13⟩, .inl ⟨.inr (.inr rfl), q1726⟩, xab (by decide), xab (by decide), fun _ => q1727⟩
theorem lkc628 : x_lkC (osO fv) xTT pCl pP "WorkMeterModel" 336 (291, 2, 3, 0) := ⟨pm291, rfl, q15, q1731, ⟨nc13.1, nc13.2, pd10⟩, .inl ⟨.inr (.inr rfl), q1729⟩, xab (by decide), xab (by decide), fun _ => q1730⟩
theorem lkc629 : x_lkC (osO fv) xTT pCl pP "WorkMeterModel" 342 (288, 3, 1, 12) := ⟨pm288, rfl, q15, q1721, ⟨nc13.1, nc13.2, pd15⟩, .inl ⟨.inl rfl, q1740⟩, fun _ => ⟨q1719, q1720, pF12, 15, rfl⟩, xab (by decide), xab (by decide)⟩
theorem lkc630 : x_lkC (osO fv) xTT pCl pP "WorkMeterModel" 339 (294, 2, 3, 0) := ⟨pm294, rfl, q15, q1743, ⟨nc13.1, nc13.2, pd32⟩, .inl ⟨.inr (.inr rfl), q1741⟩, xab (by decide), xab (by decide), fun _ => q1742⟩
theorem llc631 : ∃ v, Value.long (Int64.ofInt 5) = .long v ∧ Jvm.Cond.constantLong "WorkMeterModel" 346 v ∈ xTT := ⟨(5 : Int64), congrArg _ (by decide +kernel), q1760⟩
theorem lkc632 : x_lkC (osO fv) xTT pCl pP "WorkMeterModel" 351 (303, 1, 1, 12) := ⟨pm303, rfl, q15, q1780, ⟨nc13.1, nc13.2, pd7⟩, .inl ⟨.inl rfl, q1777⟩, fun _ => ⟨q1779, qs84, pF12, 15, rfl⟩, xab (by decide), xab (by decide)⟩
theorem lkc633 : x_lkC (osO fv) xTT pCl pP "WorkMeterModel" 348 (304, 0, 1, 12) := ⟨pm304, rfl, q15, q1784, ⟨nc13.1, nc13.2, pd1⟩, .inl ⟨.inl rfl, q1781⟩, fun _ => ⟨q1783, qs85, pF12, 15, rfl⟩, xab (by decide), xab (by decide)⟩
theorem lkc634 : x_lkC (osO fv) xTT pCl pP "WorkMeterModel" 357 (306, 2, 1, 12) := ⟨pm306, rfl, q15, q1792, ⟨nc13.1, nc13.2, pd11⟩, .inl ⟨.inl rfl, q1789⟩, fun _ => ⟨q1791, qs86, pF12, 15, rfl⟩, xab (by decide), xab (by decide)⟩
theorem lkc635 : x_lkC (osO fv) xTT pCl pP "WorkMeterModel" 354 (307, 3, 1, 12) := ⟨pm307, rfl, q15, q1796, ⟨nc13.1, nc13.2, pd15⟩, .inl ⟨.inl rfl, q1793⟩, fun _ => ⟨q1795, qs87, pF12, 15, rfl⟩, xab (by decide), xab (by decide)⟩
theorem llc636 : ∃ v, Value.long (Int64.ofInt 85500) = .long v ∧ Jvm.Cond.constantLong "WorkMeterModel" 360 v ∈ xTT := ⟨(85500 : Int64), congrArg _ (by decide +kernel), q1801⟩
theorem lgf637 : xGf "WorkMeterModel" 362 12 3 := ⟨_, _, _, rfl, by decide, .inl q1307⟩
theorem lgf638 : xGf "WorkMeterModel" 16 12 2 := ⟨_, _, _, rfl, by decide, .inl q1306⟩
theorem lpf639 : xPf ⟨"WorkMeterModel", "image", "(Z)Z"⟩ 362 12 3 2 := ⟨_, _, _, rfl, by decide, .inr (.inr (.inl ⟨rfl, rfl⟩)), .inl ⟨rfl, .inl q1307⟩⟩
theorem llc640 : ∃ v, Value.long (Int64.ofInt 30) = .long v ∧ Jvm.Cond.constantLong "WorkMeterModel" 365 v ∈ xTT := ⟨(30 : Int64), congrArg _ (by decide +kernel), q1830⟩
theorem llc641 : ∃ v, Value.long (Int64.ofInt 33) = .long v ∧ Jvm.Cond.constantLong "WorkMeterModel" 367 v ∈ xTT := ⟨(33 : Int64), congrArg _ (by decide +kernel), q1831⟩
theorem llc642 : ∃ v, Value.long (Int64.ofInt 43) = .long v ∧ Jvm.Cond.constantLong "WorkMeterModel" 369 v ∈ xTT := ⟨(43 : Int64), congrArg _ (by decide +kernel), q1832⟩
theorem llc643 : ∃ v, Value.long (Int64.ofInt 20) = .long v ∧ Jvm.Cond.constantLong "WorkMeterModel" 371 v ∈ xTT := ⟨(20 : Int64), congrArg _ (by decide +kernel), q1833⟩
theorem llc644 : ∃ v, Value.long (Int64.ofInt 25) = .long v ∧ Jvm.Cond.constantLong "WorkMeterModel" 373 v ∈ xTT := ⟨(25 : Int64), congrArg _ (by decide +kernel), q1834⟩
theorem llc645 : ∃ v, Value.long (Int64.ofInt 50) = .long v ∧ Jvm.Cond.constantLong "WorkMeterModel" 375 v ∈ xTT := ⟨(50 : Int64), congrArg _ (by decide +kernel), q1835⟩
theorem llc646 : ∃ v, Value.long (Int64.ofInt 52) = .long v ∧ Jvm.Cond.constantLong "WorkMeterModel" 377 v ∈ xTT := ⟨(52 : Int64), congrArg _ (by decide +kernel), q1836⟩
theorem lkc647 : x_lkC (osO fv) xTT pCl pP "WorkMeterLaw" 9 (0, 0, 2, 11) := ⟨pm0, rfl, q1, q25, ⟨nc0.1, nc0.2, pd2⟩, .inl ⟨.inr (.inl rfl), q23⟩, xab (by decide), fun _ => ⟨rfl, rfl, q24⟩, xab (by decide)⟩
theorem lkc648 : x_lkC (osO fv) xTT pCl pP "WorkMeterLaw" 12 (201, 0, 2, 12) := ⟨pm201, rfl, q15, q1295, ⟨nc13.1, nc13.2, pd2⟩, .inl ⟨.inr (.inl rfl), q1293⟩, xab (by decide), fun _ => ⟨rfl, rfl, q1294⟩, xab (by decide)⟩
theorem lkc649 : x_lkC (osO fv) xTT pCl pP "WorkMeterLaw" 13 (16, 2, 1, 11) := ⟨pm16, rfl, q1, q429, ⟨nc0.1, nc0.2, pd13⟩, .inl ⟨.inl rfl, q426⟩, fun _ => ⟨q427, q428, pF11, 5, rfl⟩, xab (by decide), xab (by decide)⟩
theorem lkc650 : x_lkC (osO fv) xTT pCl pP "WorkMeterLaw" 17 (202, 2, 1, 12) := ⟨pm202, rfl, q15, q1354, ⟨nc13.1, nc13.2, pd13⟩, .inl ⟨.inl rfl, q1351⟩, fun _ => ⟨q1352, q1353, pF12, 15, rfl⟩, xab (by decide), xab (by decide)⟩
theorem lkc651 : x_lkC (osO fv) xTT pCl pP "WorkMeterLaw" 18 (19, 2, 1, 11) := ⟨pm19, rfl, q1, q442, ⟨nc0.1, nc0.2, pd10⟩, .inl ⟨.inl rfl, q439⟩, fun _ => ⟨q440, q441, pF11, 5, rfl⟩, xab (by decide), xab (by decide)⟩
theorem lkc652 : x_lkC (osO fv) xTT pCl pP "WorkMeterLaw" 22 (205, 2, 1, 12) := ⟨pm205, rfl, q15, q1367, ⟨nc13.1, nc13.2, pd10⟩, .inl ⟨.inl rfl, q1364⟩, fun _ => ⟨q1365, q1366, pF12, 15, rfl⟩, xab (by decide), xab (by decide)⟩
theorem lkc653 : x_lkC (osO fv) xTT pCl pP "WorkMeterLaw" 23 (69, 1, 1, 11) := ⟨pm69, rfl, q1, q663, ⟨nc0.1, nc0.2, pd7⟩, .inl ⟨.inl rfl, q660⟩, fun _ => ⟨q661, q662, pF11, 5, rfl⟩, xab (by decide), xab (by decide)⟩
theorem lkc654 : x_lkC (osO fv) xTT pCl pP "WorkMeterLaw" 27 (279, 1, 1, 12) := ⟨pm279, rfl, q15, q1677, ⟨nc13.1, nc13.2, pd7⟩, .inl ⟨.inl rfl, q1674⟩, fun _ => ⟨q1675, q1676, pF12, 15, rfl⟩, xab (by decide), xab (by decide)⟩
theorem lkc655 : x_lkC (osO fv) xTT pCl pP "WorkMeterLaw" 28 (73, 2, 1, 11) := ⟨pm73, rfl, q1, q679, ⟨nc0.1, nc0.2, pd13⟩, .inl ⟨.inl rfl, q676⟩, fun _ => ⟨q677, q678, pF11, 5, rfl⟩, xab (by decide), xab (by decide)⟩
theorem lkc656 : x_lkC (osO fv) xTT pCl pP "WorkMeterLaw" 31 (280, 2, 1, 12) := ⟨pm280, rfl, q15, q1681, ⟨nc13.1, nc13.2, pd13⟩, .inl ⟨.inl rfl, q1678⟩, fun _ => ⟨q1679, q1680, pF12, 15, rfl⟩, xab (by decide), xab (by decide)⟩
theorem lkc657 : x_lkC (osO fv) xTT pCl pP "WorkMeterLaw" 32 (78, 3, 1, 11) := ⟨pm78, rfl, q1, q702, ⟨nc0.1, nc0.2, pd14⟩, .inl ⟨.inl rfl, q699⟩, fun _ => ⟨q700, q701, pF11, 5, rfl⟩, xab (by decide), xab (by decide)⟩
theorem lkc658 : x_lkC (osO fv) xTT pCl pP "WorkMeterLaw" 36 (240, 3, 1, 12) := ⟨pm240, rfl, q15, q1512, ⟨nc13.1, nc13.2, pd14⟩, .inl ⟨.inl rfl, q1509⟩, fun _ => ⟨q1510, q1511, pF12, 15, rfl⟩, xab (by decide), xab (by decide)⟩
theorem lkc659 : x_lkC (osO fv) xTT pCl pP "WorkMeterLaw" 37 (83, 1, 1, 11) := ⟨pm83, rfl, q1, q721, ⟨nc0.1, nc0.2, pd6⟩, .inl ⟨.inl rfl, q718⟩, fun _ => ⟨q719, q720, pF11, 5, rfl⟩, xab (by decide), xab (by decide)⟩
theorem lkc660 : x_lkC (osO fv) xTT pCl pP "WorkMeterLaw" 41 (244, 1, 1, 12) := ⟨pm244, rfl, q15, q1528, ⟨nc13.1, nc13.2, pd6⟩, .inl ⟨.inl rfl, q1525⟩, fun _ => ⟨q1526, q1527, pF12, 15, rfl⟩, xab (by decide), xab (by decide)⟩
theorem lkc661 : x_lkC (osO fv) xTT pCl pP "WorkMeterLaw" 42 (85, 5, 1, 11) := ⟨pm85, rfl, q1, q729, ⟨nc0.1, nc0.2, pd18⟩, .inl ⟨.inl rfl, q726⟩, fun _ => ⟨q727, q728, pF11, 5, rfl⟩, xab (by decide), xab (by decide)⟩
theorem lkc662 : x_lkC (osO fv) xTT pCl pP "WorkMeterLaw" 46 (256, 5, 1, 12) := ⟨pm256, rfl, q15, q1579, ⟨nc13.1, nc13.2, pd18⟩, .inl ⟨.inl rfl, q1576⟩, fun _ => ⟨q1577, q1578, pF12, 15, rfl⟩, xab (by decide), xab (by decide)⟩
theorem lkc663 : x_lkC (osO fv) xTT pCl pP "WorkMeterLaw" 47 (88, 1, 1, 11) := ⟨pm88, rfl, q1, q741, ⟨nc0.1, nc0.2, pd9⟩, .inl ⟨.inl rfl, q738⟩, fun _ => ⟨q739, q740, pF11, 5, rfl⟩, xab (by decide), xab (by decide)⟩
theorem lkc664 : x_lkC (osO fv) xTT pCl pP "WorkMeterLaw" 51 (258, 1, 1, 12) := ⟨pm258, rfl, q15, q1587, ⟨nc13.1, nc13.2, pd9⟩, .inl ⟨.inl rfl, q1584⟩, fun _ => ⟨q1585, q1586, pF12, 15, rfl⟩, xab (by decide), xab (by decide)⟩
theorem lkc665 : x_lkC (osO fv) xTT pCl pP "WorkMeterLaw" 52 (90, 0, 1, 11) := ⟨pm90, rfl, q1, q749, ⟨nc0.1, nc0.2, pd0⟩, .inl ⟨.inl rfl, q746⟩, fun _ => ⟨q747, q748, pF11, 5, rfl⟩, xab (by decide), xab (by decide)⟩
theorem lkc666 : x_lkC (osO fv) xTT pCl pP "WorkMeterLaw" 56 (260, 0, 1, 12) := ⟨pm260, rfl, q15, q1595, ⟨nc13.1, nc13.2, pd0⟩, .inl ⟨.inl rfl, q1592⟩, fun _ => ⟨q1593, q1594, pF12, 15, rfl⟩, xab (by decide), xab (by decide)⟩
theorem lkc667 : x_lkC (osO fv) xTT pCl pP "WorkMeterLaw" 57 (113, 1, 1, 11) := ⟨pm113, rfl, q1, q899, ⟨nc0.1, nc0.2, pd6⟩, .inl ⟨.inl rfl, q896⟩, fun _ => ⟨q897, q898, pF11, 5, rfl⟩, xab (by decide), xab (by decide)⟩
theorem lkc668 : x_lkC (osO fv) xTT pCl pP "WorkMeterLaw" 60 (259, 1, 1, 12) := ⟨pm259, rfl, q15, q1591, ⟨nc13.1, nc13.2, pd6⟩, .inl ⟨.inl rfl, q1588⟩, fun _ => ⟨q1589, q1590, pF12, 15, rfl⟩, xab (by decide), xab (by decide)⟩
theorem lkc669 : x_lkC (osO fv) xTT pCl pP "WorkMeterLaw" 61 (114, 1, 1, 11) := ⟨pm114, rfl, q1, q903, ⟨nc0.1, nc0.2, pd9⟩, .inl ⟨.inl rfl, q900⟩, fun _ => ⟨q901, q902, pF11, 5, rfl⟩, xab (by decide), xab (by decide)⟩
theorem lkc670 : x_lkC (osO fv) xTT pCl pP "WorkMeterLaw" 64 (276, 1, 1, 12) := ⟨pm276, rfl, q15, q1663, ⟨nc13.1, nc13.2, pd9⟩, .inl ⟨.inl rfl, q1660⟩, fun _ => ⟨q1661, q1662, pF12, 15, rfl⟩, xab (by decide), xab (by decide)⟩
theorem lkc671 : x_lkC (osO fv) xTT pCl pP "WorkMeterLaw" 65 (116, 1, 1, 11) := ⟨pm116, rfl, q1, q912, ⟨nc0.1, nc0.2, pd9⟩, .inl ⟨.inl rfl, q909⟩, fun _ => ⟨q910, q911, pF11, 5, rfl⟩, xab (by decide), xab (by decide)⟩
theorem lkc672 : x_lkC (osO fv) xTT pCl pP "WorkMeterLaw" 68 (277, 1, 1, 12) := ⟨pm277, rfl, q15, q1668, ⟨nc13.1, nc13.2, pd9⟩, .inl ⟨.inl rfl, q1665⟩, fun _ => ⟨q1666, q1667, pF12, 15, rfl⟩, xab (by decide), xab (by decide)⟩
theorem lkc673 : x_lkC (osO fv) xTT pCl pP "WorkMeterLaw" 69 (122, 2, 1, 11) := ⟨pm122, rfl, q1, q937, ⟨nc0.1, nc0.2, pd13⟩, .inl ⟨.inl rfl, q934⟩, fun _ => ⟨q935, q936, pF11, 5, rfl⟩, xab (by decide), xab (by decide)⟩
theorem lkc674 : x_lkC (osO fv) xTT pCl pP "WorkMeterLaw" 72 (245, 2, 1, 12) := ⟨pm245, rfl, q15, q1532, ⟨nc13.1, nc13.2, pd13⟩, .inl ⟨.inl rfl, q1529⟩, fun _ => ⟨q1530, q1531, pF12, 15, rfl⟩, xab (by decide), xab (by decide)⟩
theorem lkc675 : x_lkC (osO fv) xTT pCl pP "WorkMeterLaw" 73 (124, 3, 1, 11) := ⟨pm124, rfl, q1, q944, ⟨nc0.1, nc0.2, pd17⟩, .inl ⟨.inl rfl, q941⟩, fun _ => ⟨q942, q943, pF11, 5, rfl⟩, xab (by decide), xab (by decide)⟩
theorem lkc676 : x_lkC (osO fv) xTT pCl pP "WorkMeterLaw" 77 (247, 3, 1, 12) := ⟨pm247, rfl, q15, q1540, ⟨nc13.1, nc13.2, pd17⟩, .inl ⟨.inl rfl, q1537⟩, fun _ => ⟨q1538, q1539, pF12, 15, rfl⟩, xab (by decide), xab (by decide)⟩
theorem lkc677 : x_lkC (osO fv) xTT pCl pP "WorkMeterLaw" 78 (125, 2, 1, 11) := ⟨pm125, rfl, q1, q948, ⟨nc0.1, nc0.2, pd13⟩, .inl ⟨.inl rfl, q945⟩, fun _ => ⟨q946, q947, pF11, 5, rfl⟩, xab (by decide), xab (by decide)⟩
theorem lkc678 : x_lkC (osO fv) xTT pCl pP "WorkMeterLaw" 81 (248, 2, 1, 12) := ⟨pm248, rfl, q15, q1545, ⟨nc13.1, nc13.2, pd13⟩, .inl ⟨.inl rfl, q1542⟩, fun _ => ⟨q1543, q1544, pF12, 15, rfl⟩, xab (by decide), xab (by decide)⟩
theorem lkc679 : x_lkC (osO fv) xTT pCl pP "WorkMeterLaw" 82 (127, 1, 1, 11) := ⟨pm127, rfl, q1, q957, ⟨nc0.1, nc0.2, pd6⟩, .inl ⟨.inl rfl, q954⟩, fun _ => ⟨q955, q956, pF11, 5, rfl⟩, xab (by decide), xab (by decide)⟩
theorem lkc680 : x_lkC (osO fv) xTT pCl pP "WorkMeterLaw" 85 (281, 1, 1, 12) := ⟨pm281, rfl, q15, q1691, ⟨nc13.1, nc13.2, pd6⟩, .inl ⟨.inl rfl, q1688⟩, fun _ => ⟨q1689, q1690, pF12, 15, rfl⟩, xab (by decide), xab (by decide)⟩
theorem lkc681 : x_lkC (osO fv) xTT pCl pP "WorkMeterLaw" 86 (130, 1, 1, 11) := ⟨pm130, rfl, q1, q969, ⟨nc0.1, nc0.2, pd6⟩, .inl ⟨.inl rfl, q966⟩, fun _ => ⟨q967, q968, pF11, 5, rfl⟩, xab (by decide), xab (by decide)⟩
theorem lkc682 : x_lkC (osO fv) xTT pCl pP "WorkMeterLaw" 89 (282, 1, 1, 12) := ⟨pm282, rfl, q15, q1695, ⟨nc13.1, nc13.2, pd6⟩, .inl ⟨.inl rfl, q1692⟩, fun _ => ⟨q1693, q1694, pF12, 15, rfl⟩, xab (by decide), xab (by decide)⟩
theorem lkc683 : x_lkC (osO fv) xTT pCl pP "WorkMeterLaw" 90 (134, 2, 1, 11) := ⟨pm134, rfl, q1, q986, ⟨nc0.1, nc0.2, pd27⟩, .inl ⟨.inl rfl, q983⟩, fun _ => ⟨q984, q985, pF11, 5, rfl⟩, xab (by decide), xab (by decide)⟩
theorem lkc684 : x_lkC (osO fv) xTT pCl pP "WorkMeterLaw" 94 (283, 2, 1, 12) := ⟨pm283, rfl, q15, q1700, ⟨nc13.1, nc13.2, pd27⟩, .inl ⟨.inl rfl, q1697⟩, fun _ => ⟨q1698, q1699, pF12, 15, rfl⟩, xab (by decide), xab (by decide)⟩
theorem lkc685 : x_lkC (osO fv) xTT pCl pP "WorkMeterLaw" 95 (135, 1, 1, 11) := ⟨pm135, rfl, q1, q992, ⟨nc0.1, nc0.2, pd51⟩, .inl ⟨.inl rfl, q989⟩, fun _ => ⟨q990, q991, pF11, 5, rfl⟩, xab (by decide), xab (by decide)⟩
theorem lkc686 : x_lkC (osO fv) xTT pCl pP "WorkMeterLaw" 99 (284, 1, 1, 12) := ⟨pm284, rfl, q15, q1704, ⟨nc13.1, nc13.2, pd51⟩, .inl ⟨.inl rfl, q1701⟩, fun _ => ⟨q1702, q1703, pF12, 15, rfl⟩, xab (by decide), xab (by decide)⟩
theorem lkc687 : x_lkC (osO fv) xTT pCl pP "WorkMeterLaw" 100 (136, 1, 1, 11) := ⟨pm136, rfl, q1, q997, ⟨nc0.1, nc0.2, pd7⟩, .inl ⟨.inl rfl, q994⟩, fun _ => ⟨q995, q996, pF11, 5, rfl⟩, xab (by decide), xab (by decide)⟩
theorem lkc688 : x_lkC (osO fv) xTT pCl pP "WorkMeterLaw" 103 (285, 1, 1, 12) := ⟨pm285, rfl, q15, q1708, ⟨nc13.1, nc13.2, pd7⟩, .inl ⟨.inl rfl, q1705⟩, fun _ => ⟨q1706, q1707, pF12, 15, rfl⟩, xab (by decide), xab (by decide)⟩
theorem lkc689 : x_lkC (osO fv) xTT pCl pP "WorkMeterLaw" 104 (137, 0, 1, 11) := ⟨pm137, rfl, q1, q1003, ⟨nc0.1, nc0.2, pd0⟩, .inl ⟨.inl rfl, q1000⟩, fun _ => ⟨q1001, q1002, pF11, 5, rfl⟩, xab (by decide), xab (by decide)⟩
theorem lkc690 : x_lkC (osO fv) xTT pCl pP "WorkMeterLaw" 107 (286, 0, 1, 12) := ⟨pm286, rfl, q15, q1713, ⟨nc13.1, nc13.2, pd0⟩, .inl ⟨.inl rfl, q1710⟩, fun _ => ⟨q1711, q1712, pF12, 15, rfl⟩, xab (by decide), xab (by decide)⟩
theorem lkc691 : x_lkC (osO fv) xTT pCl pP "WorkMeterLaw" 108 (140, 2, 1, 11) := ⟨pm140, rfl, q1, q1017, ⟨nc0.1, nc0.2, pd11⟩, .inl ⟨.inl rfl, q1014⟩, fun _ => ⟨q1015, q1016, pF11, 5, rfl⟩, xab (by decide), xab (by decide)⟩
theorem lkc692 : x_lkC (osO fv) xTT pCl pP "WorkMeterLaw" 112 (237, 2, 1, 12) := ⟨pm237, rfl, q15, q1500, ⟨nc13.1, nc13.2, pd11⟩, .inl ⟨.inl rfl, q1497⟩, fun _ => ⟨q1498, q1499, pF12, 15, rfl⟩, xab (by decide), xab (by decide)⟩
theorem lkc693 : x_lkC (osO fv) xTT pCl pP "WorkMeterLaw" 113 (144, 2, 1, 11) := ⟨pm144, rfl, q1, q1037, ⟨nc0.1, nc0.2, pd11⟩, .inl ⟨.inl rfl, q1034⟩, fun _ => ⟨q1035, q1036, pF11, 5, rfl⟩, xab (by decide), xab (by decide)⟩
theorem lkc694 : x_lkC (osO fv) xTT pCl pP "WorkMeterLaw" 116 (295, 2, 1, 12) := ⟨pm295, rfl, q15, q1747, ⟨nc13.1, nc13.2, pd11⟩, .inl ⟨.inl rfl, q1744⟩, fun _ => ⟨q1745, q1746, pF12, 15, rfl⟩, xab (by decide), xab (by decide)⟩
theorem lkc695 : x_lkC (osO fv) xTT pCl pP "WorkMeterLaw" 117 (147, 2, 1, 11) := ⟨pm147, rfl, q1, q1048, ⟨nc0.1, nc0.2, pd11⟩, .inl ⟨.inl rfl, q1045⟩, fun _ => ⟨q1046, q1047, pF11, 5, rfl⟩, xab (by decide), xab (by decide)⟩
theorem lkc696 : x_lkC (osO fv) xTT pCl pP "WorkMeterLaw" 120 (296, 2, 1, 12) := ⟨pm296, rfl, q15, q1751, ⟨nc13.1, nc13.2, pd11⟩, .inl ⟨.inl rfl, q1748⟩, fun _ => ⟨q1749, q1750, pF12, 15, rfl⟩, xab (by decide), xab (by decide)⟩
theorem lkc697 : x_lkC (osO fv) xTT pCl pP "WorkMeterLaw" 121 (148, 1, 1, 11) := ⟨pm148, rfl, q1, q1053, ⟨nc0.1, nc0.2, pd6⟩, .inl ⟨.inl rfl, q1050⟩, fun _ => ⟨q1051, q1052, pF11, 5, rfl⟩, xab (by decide), xab (by decide)⟩
theorem lkc698 : x_lkC (osO fv) xTT pCl pP "WorkMeterLaw" 124 (250, 1, 1, 12) := ⟨pm250, rfl, q15, q1553, ⟨nc13.1, nc13.2, pd6⟩, .inl ⟨.inl rfl, q1550⟩, fun _ => ⟨q1551, q1552, pF12, 15, rfl⟩, xab (by decide), xab (by decide)⟩
theorem lkc699 : x_lkC (osO fv) xTT pCl pP "WorkMeterLaw" 125 (149, 1, 1, 11) := ⟨pm149, rfl, q1, q1058, ⟨nc0.1, nc0.2, pd6⟩, .inl ⟨.inl rfl, q1055⟩, fun _ => ⟨q1056, q1057, pF11, 5, rfl⟩, xab (by decide), xab (by decide)⟩
theorem lkc700 : x_lkC (osO fv) xTT pCl pP "WorkMeterLaw" 128 (251, 1, 1, 12) := ⟨pm251, rfl, q15, q1557, ⟨nc13.1, nc13.2, pd6⟩, .inl ⟨.inl rfl, q1554⟩, fun _ => ⟨q1555, q1556, pF12, 15, rfl⟩, xab (by decide), xab (by decide)⟩
theorem lkc701 : x_lkC (osO fv) xTT pCl pP "WorkMeterLaw" 129 (151, 3, 1, 11) := ⟨pm151, rfl, q1, q1066, ⟨nc0.1, nc0.2, pd14⟩, .inl ⟨.inl rfl, q1063⟩, fun _ => ⟨q1064, q1065, pF11, 5, rfl⟩, xab (by decide), xab (by decide)⟩
theorem lkc702 : x_lkC (osO fv) xTT pCl pP "WorkMeterLaw" 132 (252, 3, 1, 12) := ⟨pm252, rfl, q15, q1562, ⟨nc13.1, nc13.2, pd14⟩, .inl ⟨.inl rfl, q1559⟩, fun _ => ⟨q1560, q1561, pF12, 15, rfl⟩, xab (by decide), xab (by decide)⟩
theorem lkc703 : x_lkC (osO fv) xTT pCl pP "WorkMeterLaw" 133 (152, 1, 1, 11) := ⟨pm152, rfl, q1, q1070, ⟨nc0.1, nc0.2, pd6⟩, .inl ⟨.inl rfl, q1067⟩, fun _ => ⟨q1068, q1069, pF11, 5, rfl⟩, xab (by decide), xab (by decide)⟩
theorem lkc704 : x_lkC (osO fv) xTT pCl pP "WorkMeterLaw" 136 (254, 1, 1, 12) := ⟨pm254, rfl, q15, q1570, ⟨nc13.1, nc13.2, pd6⟩, .inl ⟨.inl rfl, q1567⟩, fun _ => ⟨q1568, q1569, pF12, 15, rfl⟩, xab (by decide), xab (by decide)⟩
theorem lkc705 : x_lkC (osO fv) xTT pCl pP "WorkMeterLaw" 137 (154, 2, 1, 11) := ⟨pm154, rfl, q1, q1082, ⟨nc0.1, nc0.2, pd10⟩, .inl ⟨.inl rfl, q1079⟩, fun _ => ⟨q1080, q1081, pF11, 5, rfl⟩, xab (by decide), xab (by decide)⟩
theorem lkc706 : x_lkC (osO fv) xTT pCl pP "WorkMeterLaw" 140 (297, 2, 1, 12) := ⟨pm297, rfl, q15, q1755, ⟨nc13.1, nc13.2, pd10⟩, .inl ⟨.inl rfl, q1752⟩, fun _ => ⟨q1753, q1754, pF12, 15, rfl⟩, xab (by decide), xab (by decide)⟩
theorem lkc707 : x_lkC (osO fv) xTT pCl pP "WorkMeterLaw" 141 (155, 2, 1, 11) := ⟨pm155, rfl, q1, q1086, ⟨nc0.1, nc0.2, pd11⟩, .inl ⟨.inl rfl, q1083⟩, fun _ => ⟨q1084, q1085, pF11, 5, rfl⟩, xab (by decide), xab (by decide)⟩
theorem lkc708 : x_lkC (osO fv) xTT pCl pP "WorkMeterLaw" 144 (298, 2, 1, 12) := ⟨pm298, rfl, q15, q1759, ⟨nc13.1, nc13.2, pd11⟩, .inl ⟨.inl rfl, q1756⟩, fun _ => ⟨q1757, q1758, pF12, 15, rfl⟩, xab (by decide), xab (by decide)⟩
theorem lkc709 : x_lkC (osO fv) xTT pCl pP "WorkMeterLaw" 145 (156, 1, 1, 11) := ⟨pm156, rfl, q1, q1092, ⟨nc0.1, nc0.2, pd7⟩, .inl ⟨.inl rfl, q1089⟩, fun _ => ⟨q1090, q1091, pF11, 5, rfl⟩, xab (by decide), xab (by decide)⟩
theorem lkc710 : x_lkC (osO fv) xTT pCl pP "WorkMeterLaw" 148 (299, 1, 1, 12) := ⟨pm299, rfl, q15, q1764, ⟨nc13.1, nc13.2, pd7⟩, .inl ⟨.inl rfl, q1761⟩, fun _ => ⟨q1762, q1763, pF12, 15, rfl⟩, xab (by decide), xab (by decide)⟩
theorem lkc711 : x_lkC (osO fv) xTT pCl pP "WorkMeterLaw" 149 (157, 1, 1, 11) := ⟨pm157, rfl, q1, q1098, ⟨nc0.1, nc0.2, pd7⟩, .inl ⟨.inl rfl, q1095⟩, fun _ => ⟨q1096, q1097, pF11, 5, rfl⟩, xab (by decide), xab (by decide)⟩
theorem lkc712 : x_lkC (osO fv) xTT pCl pP "WorkMeterLaw" 152 (300, 1, 1, 12) := ⟨pm300, rfl, q15, q1768, ⟨nc13.1, nc13.2, pd7⟩, .inl ⟨.inl rfl, q1765⟩, fun _ => ⟨q1766, q1767, pF12, 15, rfl⟩, xab (by decide), xab (by decide)⟩
theorem lkc713 : x_lkC (osO fv) xTT pCl pP "WorkMeterLaw" 153 (158, 2, 1, 11) := ⟨pm158, rfl, q1, q1102, ⟨nc0.1, nc0.2, pd11⟩, .inl ⟨.inl rfl, q1099⟩, fun _ => ⟨q1100, q1101, pF11, 5, rfl⟩, xab (by decide), xab (by decide)⟩
theorem lkc714 : x_lkC (osO fv) xTT pCl pP "WorkMeterLaw" 156 (301, 2, 1, 12) := ⟨pm301, rfl, q15, q1772, ⟨nc13.1, nc13.2, pd11⟩, .inl ⟨.inl rfl, q1769⟩, fun _ => ⟨q1770, q1771, pF12, 15, rfl⟩, xab (by decide), xab (by decide)⟩
theorem lkc715 : x_lkC (osO fv) xTT pCl pP "WorkMeterLaw" 157 (159, 3, 1, 11) := ⟨pm159, rfl, q1, q1106, ⟨nc0.1, nc0.2, pd15⟩, .inl ⟨.inl rfl, q1103⟩, fun _ => ⟨q1104, q1105, pF11, 5, rfl⟩, xab (by decide), xab (by decide)⟩
theorem lkc716 : x_lkC (osO fv) xTT pCl pP "WorkMeterLaw" 161 (288, 3, 1, 12) := ⟨pm288, rfl, q15, q1721, ⟨nc13.1, nc13.2, pd15⟩, .inl ⟨.inl rfl, q1718⟩, fun _ => ⟨q1719, q1720, pF12, 15, rfl⟩, xab (by decide), xab (by decide)⟩
theorem lkc717 : x_lkC (osO fv) xTT pCl pP "WorkMeterLaw" 162 (163, 2, 1, 11) := ⟨pm163, rfl, q1, q1123, ⟨nc0.1, nc0.2, pd11⟩, .inl ⟨.inl rfl, q1120⟩, fun _ => ⟨q1121, q1122, pF11, 5, rfl⟩, xab (by decide), xab (by decide)⟩
theorem lkc718 : x_lkC (osO fv) xTT pCl pP "WorkMeterLaw" 165 (292, 2, 1, 12) := ⟨pm292, rfl, q15, q1735, ⟨nc13.1, nc13.2, pd11⟩, .inl ⟨.inl rfl, q1732⟩, fun _ => ⟨q1733, q1734, pF12, 15, rfl⟩, xab (by decide), xab (by decide)⟩
theorem lkc719 : x_lkC (osO fv) xTT pCl pP "WorkMeterLaw" 166 (166, 2, 1, 11) := ⟨pm166, rfl, q1, q1135, ⟨nc0.1, nc0.2, pd11⟩, .inl ⟨.inl rfl, q1132⟩, fun _ => ⟨q1133, q1134, pF11, 5, rfl⟩, xab (by decide), xab (by decide)⟩
theorem lkc720 : x_lkC (osO fv) xTT pCl pP "WorkMeterLaw" 169 (293, 2, 1, 12) := ⟨pm293, rfl, q15, q1739, ⟨nc13.1, nc13.2, pd11⟩, .inl ⟨.inl rfl, q1736⟩, fun _ => ⟨q1737, q1738, pF12, 15, rfl⟩, xab (by decide), xab (by decide)⟩
theorem lkc721 : x_lkC (osO fv) xTT pCl pP "WorkMeterLaw" 170 (170, 2, 1, 11) := ⟨pm170, rfl, q1, q1156, ⟨nc0.1, nc0.2, pd11⟩, .inl ⟨.inl rfl, q1153⟩, fun _ => ⟨q1154, q1155, pF11, 5, rfl⟩, xab (by decide), xab (by decide)⟩
theorem lkc722 : x_lkC (osO fv) xTT pCl pP "WorkMeterLaw" 173 (302, 2, 1, 12) := ⟨pm302, rfl, q15, q1776, ⟨nc13.1, nc13.2, pd11⟩, .inl ⟨.inl rfl, q1773⟩, fun _ => ⟨q1774, q1775, pF12, 15, rfl⟩, xab (by decide), xab (by decide)⟩
theorem lkc723 : x_lkC (osO fv) xTT pCl pP "WorkMeterLaw" 174 (181, 1, 1, 11) := ⟨pm181, rfl, q1, q1207, ⟨nc0.1, nc0.2, pd7⟩, .inl ⟨.inl rfl, q1204⟩, fun _ => ⟨q1205, q1206, pF11, 5, rfl⟩, xab (by decide), xab (by decide)⟩
theorem lkc724 : x_lkC (osO fv) xTT pCl pP "WorkMeterLaw" 177 (305, 1, 1, 12) := ⟨pm305, rfl, q15, q1788, ⟨nc13.1, nc13.2, pd7⟩, .inl ⟨.inl rfl, q1785⟩, fun _ => ⟨q1786, q1787, pF12, 15, rfl⟩, xab (by decide), xab (by decide)⟩
theorem lkc725 : x_lkC (osO fv) xTT pCl pP "WorkMeterLaw" 178 (183, 2, 1, 11) := ⟨pm183, rfl, q1, q1216, ⟨nc0.1, nc0.2, pd11⟩, .inl ⟨.inl rfl, q1213⟩, fun _ => ⟨q1214, q1215, pF11, 5, rfl⟩, xab (by decide), xab (by decide)⟩
theorem lkc726 : x_lkC (osO fv) xTT pCl pP "WorkMeterLaw" 181 (308, 2, 1, 12) := ⟨pm308, rfl, q15, q1800, ⟨nc13.1, nc13.2, pd11⟩, .inl ⟨.inl rfl, q1797⟩, fun _ => ⟨q1798, q1799, pF12, 15, rfl⟩, xab (by decide), xab (by decide)⟩
theorem lkc727 : x_lkC (osO fv) xTT pCl pP "WorkMeterLaw" 182 (184, 0, 1, 11) := ⟨pm184, rfl, q1, q1221, ⟨nc0.1, nc0.2, pd0⟩, .inl ⟨.inl rfl, q1218⟩, fun _ => ⟨q1219, q1220, pF11, 5, rfl⟩, xab (by decide), xab (by decide)⟩
theorem lkc728 : x_lkC (osO fv) xTT pCl pP "WorkMeterLaw" 185 (309, 0, 1, 12) := ⟨pm309, rfl, q15, q1805, ⟨nc13.1, nc13.2, pd0⟩, .inl ⟨.inl rfl, q1802⟩, fun _ => ⟨q1803, q1804, pF12, 15, rfl⟩, xab (by decide), xab (by decide)⟩
theorem lkc729 : x_lkC (osO fv) xTT pCl pP "WorkMeterLaw" 186 (186, 1, 1, 11) := ⟨pm186, rfl, q1, q1229, ⟨nc0.1, nc0.2, pd7⟩, .inl ⟨.inl rfl, q1226⟩, fun _ => ⟨q1227, q1228, pF11, 5, rfl⟩, xab (by decide), xab (by decide)⟩
theorem lkc730 : x_lkC (osO fv) xTT pCl pP "WorkMeterLaw" 189 (310, 1, 1, 12) := ⟨pm310, rfl, q15, q1809, ⟨nc13.1, nc13.2, pd7⟩, .inl ⟨.inl rfl, q1806⟩, fun _ => ⟨q1807, q1808, pF12, 15, rfl⟩, xab (by decide), xab (by decide)⟩
theorem lkc731 : x_lkC (osO fv) xTT pCl pP "WorkMeterLaw" 190 (187, 2, 1, 11) := ⟨pm187, rfl, q1, q1233, ⟨nc0.1, nc0.2, pd11⟩, .inl ⟨.inl rfl, q1230⟩, fun _ => ⟨q1231, q1232, pF11, 5, rfl⟩, xab (by decide), xab (by decide)⟩
theorem lkc732 : x_lkC (osO fv) xTT pCl pP "WorkMeterLaw" 193 (311, 2, 1, 12) := ⟨pm311, rfl, q15, q1813, ⟨nc13.1, nc13.2, pd11⟩, .inl ⟨.inl rfl, q1810⟩, fun _ => ⟨q1811, q1812, pF12, 15, rfl⟩, xab (by decide), xab (by decide)⟩
theorem lkc733 : x_lkC (osO fv) xTT pCl pP "WorkMeterLaw" 194 (189, 2, 1, 11) := ⟨pm189, rfl, q1, q1244, ⟨nc0.1, nc0.2, pd11⟩, .inl ⟨.inl rfl, q1241⟩, fun _ => ⟨q1242, q1243, pF11, 5, rfl⟩, xab (by decide), xab (by decide)⟩
theorem lkc734 : x_lkC (osO fv) xTT pCl pP "WorkMeterLaw" 197 (312, 2, 1, 12) := ⟨pm312, rfl, q15, q1817, ⟨nc13.1, nc13.2, pd11⟩, .inl ⟨.inl rfl, q1814⟩, fun _ => ⟨q1815, q1816, pF12, 15, rfl⟩, xab (by decide), xab (by decide)⟩
theorem lkc735 : x_lkC (osO fv) xTT pCl pP "WorkMeterLaw" 198 (190, 2, 1, 11) := ⟨pm190, rfl, q1, q1248, ⟨nc0.1, nc0.2, pd10⟩, .inl ⟨.inl rfl, q1245⟩, fun _ => ⟨q1246, q1247, pF11, 5, rfl⟩, xab (by decide), xab (by decide)⟩
theorem lkc736 : x_lkC (osO fv) xTT pCl pP "WorkMeterLaw" 201 (313, 2, 1, 12) := ⟨pm313, rfl, q15, q1821, ⟨nc13.1, nc13.2, pd10⟩, .inl ⟨.inl rfl, q1818⟩, fun _ => ⟨q1819, q1820, pF12, 15, rfl⟩, xab (by decide), xab (by decide)⟩
theorem lkc737 : x_lkC (osO fv) xTT pCl pP "WorkMeterLaw" 202 (193, 2, 1, 11) := ⟨pm193, rfl, q1, q1261, ⟨nc0.1, nc0.2, pd10⟩, .inl ⟨.inl rfl, q1258⟩, fun _ => ⟨q1259, q1260, pF11, 5, rfl⟩, xab (by decide), xab (by decide)⟩
theorem lkc738 : x_lkC (osO fv) xTT pCl pP "WorkMeterLaw" 205 (253, 2, 1, 12) := ⟨pm253, rfl, q15, q1566, ⟨nc13.1, nc13.2, pd10⟩, .inl ⟨.inl rfl, q1563⟩, fun _ => ⟨q1564, q1565, pF12, 15, rfl⟩, xab (by decide), xab (by decide)⟩
theorem lkc739 : x_lkC (osO fv) xTT pCl pP "WorkMeterLaw" 206 (195, 1, 1, 11) := ⟨pm195, rfl, q1, q1269, ⟨nc0.1, nc0.2, pd51⟩, .inl ⟨.inl rfl, q1266⟩, fun _ => ⟨q1267, q1268, pF11, 5, rfl⟩, xab (by decide), xab (by decide)⟩
theorem lkc740 : x_lkC (osO fv) xTT pCl pP "WorkMeterLaw" 209 (314, 1, 1, 12) := ⟨pm314, rfl, q15, q1825, ⟨nc13.1, nc13.2, pd51⟩, .inl ⟨.inl rfl, q1822⟩, fun _ => ⟨q1823, q1824, pF12, 15, rfl⟩, xab (by decide), xab (by decide)⟩
theorem lkc741 : x_lkC (osO fv) xTT pCl pP "WorkMeterLaw" 210 (196, 1, 1, 11) := ⟨pm196, rfl, q1, q1273, ⟨nc0.1, nc0.2, pd7⟩, .inl ⟨.inl rfl, q1270⟩, fun _ => ⟨q1271, q1272, pF11, 5, rfl⟩, xab (by decide), xab (by decide)⟩
theorem lkc742 : x_lkC (osO fv) xTT pCl pP "WorkMeterLaw" 213 (315, 1, 1, 12) := ⟨pm315, rfl, q15, q1829, ⟨nc13.1, nc13.2, pd7⟩, .inl ⟨.inl rfl, q1826⟩, fun _ => ⟨q1827, q1828, pF12, 15, rfl⟩, xab (by decide), xab (by decide)⟩
theorem cl0 : (∀ w ∈ u_ws "WorkMeter$Calendar" pF0 8, w ∈ xTT) ∧ (∀ k, k < 8 → parseFieldDescriptor (pF0 k).2.2.1 = some (pTyf 0 k)) ∧ (∀ a, a < 8 → ∀ b, b < 8 → a ≠ b → (pF0 a).2.1 ≠ (pF0 b).2.1) ∧ (∀ j, j < 8 → defaultValue (pTyf 0 j) = vp_V (pDf 0) j) ∧ (pDf 0).length = 8 :=
  ⟨(List.forall_mem_cons.mpr ⟨q82, (List.forall_mem_cons.mpr ⟨q84, (List.forall_mem_cons.mpr ⟨q86, (List.forall_mem_cons.mpr ⟨q88, (List.forall_mem_cons.mpr ⟨q90, (List.forall_mem_cons.mpr ⟨q92, (List.forall_mem_cons.mpr ⟨q94, (List.forall_mem_cons.mpr ⟨q96, (fun _ h => absurd h List.not_mem_nil)⟩)⟩)⟩)⟩)⟩)⟩)⟩)⟩), by decide +kernel, by decide +kernel, by decide +kernel, rfl⟩
theorem cl1 : (∀ w ∈ u_ws "WorkMeter$CalendarText" pF1 11, w ∈ xTT) ∧ (∀ k, k < 11 → parseFieldDescriptor (pF1 k).2.2.1 = some (pTyf 1 k)) ∧ (∀ a, a < 11 → ∀ b, b < 11 → a ≠ b → (pF1 a).2.1 ≠ (pF1 b).2.1) ∧ (∀ j, j < 11 → defaultValue (pTyf 1 j) = vp_V (pDf 1) j) ∧ (pDf 1).length = 11 :=
  ⟨(List.forall_mem_cons.mpr ⟨q387, (List.forall_mem_cons.mpr ⟨q389, (List.forall_mem_cons.mpr ⟨q391, (List.forall_mem_cons.mpr ⟨q393, (List.forall_mem_cons.mpr ⟨q395, (List.forall_mem_cons.mpr ⟨q397, (List.forall_mem_cons.mpr ⟨q399, (List.forall_mem_cons.mpr ⟨q401, (List.forall_mem_cons.mpr ⟨q403, (List.forall_mem_cons.mpr ⟨q405, (List.forall_mem_cons.mpr ⟨q407, (fun _ h => absurd h List.not_mem_nil)⟩)⟩)⟩)⟩)⟩)⟩)⟩)⟩)⟩)⟩)⟩), by decide +kernel, by decide +kernel, by decide +kernel, rfl⟩
theorem cl2 : (∀ w ∈ u_ws "WorkMeter$Demand" pF2 4, w ∈ xTT) ∧ (∀ k, k < 4 → parseFieldDescriptor (pF2 k).2.2.1 = some (pTyf 2 k)) ∧ (∀ a, a < 4 → ∀ b, b < 4 → a ≠ b → (pF2 a).2.1 ≠ (pF2 b).2.1) ∧ (∀ j, j < 4 → defaultValue (pTyf 2 j) = vp_V (pDf 2) j) ∧ (pDf 2).length = 4 :=
  ⟨(List.forall_mem_cons.mpr ⟨q222, (List.forall_mem_cons.mpr ⟨q224, (List.forall_mem_cons.mpr ⟨q226, (List.forall_mem_cons.mpr ⟨q228, (fun _ h => absurd h List.not_mem_nil)⟩)⟩)⟩)⟩), by decide +kernel, by decide +kernel, by decide +kernel, rfl⟩
theorem cl3 : (∀ w ∈ u_ws "WorkMeter$Load" pF3 10, w ∈ xTT) ∧ (∀ k, k < 10 → parseFieldDescriptor (pF3 k).2.2.1 = some (pTyf 3 k)) ∧ (∀ a, a < 10 → ∀ b, b < 10 → a ≠ b → (pF3 a).2.1 ≠ (pF3 b).2.1) ∧ (∀ j, j < 10 → defaultValue (pTyf 3 j) = vp_V (pDf 3) j) ∧ (pDf 3).length = 10 :=
  ⟨(List.forall_mem_cons.mpr ⟨q177, (List.forall_mem_cons.mpr ⟨q179, (List.forall_mem_cons.mpr ⟨q181, (List.forall_mem_cons.mpr ⟨q183, (List.forall_mem_cons.mpr ⟨q185, (List.forall_mem_cons.mpr ⟨q187, (List.forall_mem_cons.mpr ⟨q189, (List.forall_mem_cons.mpr ⟨q191, (List.forall_mem_cons.mpr ⟨q193, (List.forall_mem_cons.mpr ⟨q195, (fun _ h => absurd h List.not_mem_nil)⟩)⟩)⟩)⟩)⟩)⟩)⟩)⟩)⟩)⟩), by decide +kernel, by decide +kernel, by decide +kernel, rfl⟩
theorem cl4 : (∀ w ∈ u_ws "WorkMeter$Logbook" pF4 2, w ∈ xTT) ∧ (∀ k, k < 2 → parseFieldDescriptor (pF4 k).2.2.1 = some (pTyf 4 k)) ∧ (∀ a, a < 2 → ∀ b, b < 2 → a ≠ b → (pF4 a).2.1 ≠ (pF4 b).2.1) ∧ (∀ j, j < 2 → defaultValue (pTyf 4 j) = vp_V (pDf 4) j) ∧ (pDf 4).length = 2 :=
  ⟨(List.forall_mem_cons.mpr ⟨q264, (List.forall_mem_cons.mpr ⟨q266, (fun _ h => absurd h List.not_mem_nil)⟩)⟩), by decide +kernel, by decide +kernel, by decide +kernel, rfl⟩
theorem cl5 : (∀ w ∈ u_ws "WorkMeter$Marks" pF5 4, w ∈ xTT) ∧ (∀ k, k < 4 → parseFieldDescriptor (pF5 k).2.2.1 = some (pTyf 5 k)) ∧ (∀ a, a < 4 → ∀ b, b < 4 → a ≠ b → (pF5 a).2.1 ≠ (pF5 b).2.1) ∧ (∀ j, j < 4 → defaultValue (pTyf 5 j) = vp_V (pDf 5) j) ∧ (pDf 5).length = 4 :=
  ⟨(List.forall_mem_cons.mpr ⟨q246, (List.forall_mem_cons.mpr ⟨q248, (List.forall_mem_cons.mpr ⟨q250, (List.forall_mem_cons.mpr ⟨q252, (fun _ h => absurd h List.not_mem_nil)⟩)⟩)⟩)⟩), by decide +kernel, by decide +kernel, by decide +kernel, rfl⟩
theorem cl6 : (∀ w ∈ u_ws "WorkMeter$Meter" pF6 16, w ∈ xTT) ∧ (∀ k, k < 16 → parseFieldDescriptor (pF6 k).2.2.1 = some (pTyf 6 k)) ∧ (∀ a, a < 16 → ∀ b, b < 16 → a ≠ b → (pF6 a).2.1 ≠ (pF6 b).2.1) ∧ (∀ j, j < 16 → defaultValue (pTyf 6 j) = vp_V (pDf 6) j) ∧ (pDf 6).length = 16 :=
  ⟨(List.forall_mem_cons.mpr ⟨q329, (List.forall_mem_cons.mpr ⟨q331, (List.forall_mem_cons.mpr ⟨q333, (List.forall_mem_cons.mpr ⟨q335, (List.forall_mem_cons.mpr ⟨q337, (List.forall_mem_cons.mpr ⟨q339, (List.forall_mem_cons.mpr ⟨q341, (List.forall_mem_cons.mpr ⟨q343, (List.forall_mem_cons.mpr ⟨q345, (List.forall_mem_cons.mpr ⟨q347, (List.forall_mem_cons.mpr ⟨q349, (List.forall_mem_cons.mpr ⟨q351, (List.forall_mem_cons.mpr ⟨q353, (List.forall_mem_cons.mpr ⟨q355, (List.forall_mem_cons.mpr ⟨q357, (List.forall_mem_cons.mpr ⟨q359, (fun _ h => absurd h List.not_mem_nil)⟩)⟩)⟩)⟩)⟩)⟩)⟩)⟩)⟩)⟩)⟩)⟩)⟩)⟩)⟩)⟩), by decide +kernel, by decide +kernel, by decide +kernel, rfl⟩
theorem cl7 : (∀ w ∈ u_ws "WorkMeter$Registers" pF7 4, w ∈ xTT) ∧ (∀ k, k < 4 → parseFieldDescriptor (pF7 k).2.2.1 = some (pTyf 7 k)) ∧ (∀ a, a < 4 → ∀ b, b < 4 → a ≠ b → (pF7 a).2.1 ≠ (pF7 b).2.1) ∧ (∀ j, j < 4 → defaultValue (pTyf 7 j) = vp_V (pDf 7) j) ∧ (pDf 7).length = 4 :=
  ⟨(List.forall_mem_cons.mpr ⟨q144, (List.forall_mem_cons.mpr ⟨q146, (List.forall_mem_cons.mpr ⟨q148, (List.forall_mem_cons.mpr ⟨q150, (fun _ h => absurd h List.not_mem_nil)⟩)⟩)⟩)⟩), by decide +kernel, by decide +kernel, by decide +kernel, rfl⟩
theorem cl8 : (∀ w ∈ u_ws "WorkMeter$Seal" pF8 5, w ∈ xTT) ∧ (∀ k, k < 5 → parseFieldDescriptor (pF8 k).2.2.1 = some (pTyf 8 k)) ∧ (∀ a, a < 5 → ∀ b, b < 5 → a ≠ b → (pF8 a).2.1 ≠ (pF8 b).2.1) ∧ (∀ j, j < 5 → defaultValue (pTyf 8 j) = vp_V (pDf 8) j) ∧ (pDf 8).length = 5 :=
  ⟨(List.forall_mem_cons.mpr ⟨q286, (List.forall_mem_cons.mpr ⟨q288, (List.forall_mem_cons.mpr ⟨q290, (List.forall_mem_cons.mpr ⟨q292, (List.forall_mem_cons.mpr ⟨q294, (fun _ h => absurd h List.not_mem_nil)⟩)⟩)⟩)⟩)⟩), by decide +kernel, by decide +kernel, by decide +kernel, rfl⟩
theorem cl9 : (∀ w ∈ u_ws "WorkMeter$Settings" pF9 1, w ∈ xTT) ∧ (∀ k, k < 1 → parseFieldDescriptor (pF9 k).2.2.1 = some (pTyf 9 k)) ∧ (∀ a, a < 1 → ∀ b, b < 1 → a ≠ b → (pF9 a).2.1 ≠ (pF9 b).2.1) ∧ (∀ j, j < 1 → defaultValue (pTyf 9 j) = vp_V (pDf 9) j) ∧ (pDf 9).length = 1 :=
  ⟨(List.forall_mem_cons.mpr ⟨q47, (fun _ h => absurd h List.not_mem_nil)⟩), by decide +kernel, by decide +kernel, by decide +kernel, rfl⟩
theorem cl10 : (∀ w ∈ u_ws "WorkMeter$Wave" pF10 7, w ∈ xTT) ∧ (∀ k, k < 7 → parseFieldDescriptor (pF10 k).2.2.1 = some (pTyf 10 k)) ∧ (∀ a, a < 7 → ∀ b, b < 7 → a ≠ b → (pF10 a).2.1 ≠ (pF10 b).2.1) ∧ (∀ j, j < 7 → defaultValue (pTyf 10 j) = vp_V (pDf 10) j) ∧ (pDf 10).length = 7 :=
  ⟨(List.forall_mem_cons.mpr ⟨q117, (List.forall_mem_cons.mpr ⟨q119, (List.forall_mem_cons.mpr ⟨q121, (List.forall_mem_cons.mpr ⟨q123, (List.forall_mem_cons.mpr ⟨q125, (List.forall_mem_cons.mpr ⟨q127, (List.forall_mem_cons.mpr ⟨q129, (fun _ h => absurd h List.not_mem_nil)⟩)⟩)⟩)⟩)⟩)⟩)⟩), by decide +kernel, by decide +kernel, by decide +kernel, rfl⟩
theorem cl11 : (∀ w ∈ u_ws "WorkMeter" pF11 5, w ∈ xTT) ∧ (∀ k, k < 5 → parseFieldDescriptor (pF11 k).2.2.1 = some (pTyf 11 k)) ∧ (∀ a, a < 5 → ∀ b, b < 5 → a ≠ b → (pF11 a).2.1 ≠ (pF11 b).2.1) ∧ (∀ j, j < 5 → defaultValue (pTyf 11 j) = vp_V (pDf 11) j) ∧ (pDf 11).length = 5 :=
  ⟨(List.forall_mem_cons.mpr ⟨q415, (List.forall_mem_cons.mpr ⟨q417, (List.forall_mem_cons.mpr ⟨q419, (List.forall_mem_cons.mpr ⟨q421, (List.forall_mem_cons.mpr ⟨q423, (fun _ h => absurd h List.not_mem_nil)⟩)⟩)⟩)⟩)⟩), by decide +kernel, by decide +kernel, by decide +kernel, rfl⟩
theorem cl12 : (∀ w ∈ u_ws "WorkMeterModel" pF12 15, w ∈ xTT) ∧ (∀ k, k < 15 → parseFieldDescriptor (pF12 k).2.2.1 = some (pTyf 12 k)) ∧ (∀ a, a < 15 → ∀ b, b < 15 → a ≠ b → (pF12 a).2.1 ≠ (pF12 b).2.1) ∧ (∀ j, j < 15 → defaultValue (pTyf 12 j) = vp_V (pDf 12) j) ∧ (pDf 12).length = 15 :=
  ⟨(List.forall_mem_cons.mpr ⟨q1319, (List.forall_mem_cons.mpr ⟨q1321, (List.forall_mem_cons.mpr ⟨q1323, (List.forall_mem_cons.mpr ⟨q1325, (List.forall_mem_cons.mpr ⟨q1327, (List.forall_mem_cons.mpr ⟨q1329, (List.forall_mem_cons.mpr ⟨q1331, (List.forall_mem_cons.mpr ⟨q1333, (List.forall_mem_cons.mpr ⟨q1335, (List.forall_mem_cons.mpr ⟨q1337, (List.forall_mem_cons.mpr ⟨q1339, (List.forall_mem_cons.mpr ⟨q1341, (List.forall_mem_cons.mpr ⟨q1343, (List.forall_mem_cons.mpr ⟨q1345, (List.forall_mem_cons.mpr ⟨q1347, (fun _ h => absurd h List.not_mem_nil)⟩)⟩)⟩)⟩)⟩)⟩)⟩)⟩)⟩)⟩)⟩)⟩)⟩)⟩)⟩), by decide +kernel, by decide +kernel, by decide +kernel, rfl⟩
theorem pIn : ∀ q ∈ pCl, Jvm.Cond.instantiable q.1 q.2.2 ∈ xTT := (List.forall_mem_cons.mpr ⟨q52, (List.forall_mem_cons.mpr ⟨q363, (List.forall_mem_cons.mpr ⟨q199, (List.forall_mem_cons.mpr ⟨q154, (List.forall_mem_cons.mpr ⟨q256, (List.forall_mem_cons.mpr ⟨q232, (List.forall_mem_cons.mpr ⟨q30, (List.forall_mem_cons.mpr ⟨q134, (List.forall_mem_cons.mpr ⟨q270, (List.forall_mem_cons.mpr ⟨q36, (List.forall_mem_cons.mpr ⟨q100, (List.forall_mem_cons.mpr ⟨q22, (List.forall_mem_cons.mpr ⟨q1292, (fun _ h => absurd h List.not_mem_nil)⟩)⟩)⟩)⟩)⟩)⟩)⟩)⟩)⟩)⟩)⟩)⟩)⟩)
theorem pAr : ∀ t ∈ pTyl, Jvm.Cond.arrayClass t ∈ xTT := (List.forall_mem_cons.mpr ⟨q50, (List.forall_mem_cons.mpr ⟨q132, (List.forall_mem_cons.mpr ⟨q895, (List.forall_mem_cons.mpr ⟨q1350, (fun _ h => absurd h List.not_mem_nil)⟩)⟩)⟩)⟩)
theorem pCL : x_CL xTT pCl pTyf pDf := by
  intro ci C F N h
  rcases ci with _ | ci
  · obtain ⟨rfl, rfl, rfl⟩ : C = _ ∧ F = _ ∧ N = _ := by
      injection h with h; injection h with h1 h; injection h with h2 h3; exact ⟨h1.symm, h2.symm, h3.symm⟩
    exact cl0
  rcases ci with _ | ci
  · obtain ⟨rfl, rfl, rfl⟩ : C = _ ∧ F = _ ∧ N = _ := by
      injection h with h; injection h with h1 h; injection h with h2 h3; exact ⟨h1.symm, h2.symm, h3.symm⟩
    exact cl1
  rcases ci with _ | ci
  · obtain ⟨rfl, rfl, rfl⟩ : C = _ ∧ F = _ ∧ N = _ := by
      injection h with h; injection h with h1 h; injection h with h2 h3; exact ⟨h1.symm, h2.symm, h3.symm⟩
    exact cl2
  rcases ci with _ | ci
  · obtain ⟨rfl, rfl, rfl⟩ : C = _ ∧ F = _ ∧ N = _ := by
      injection h with h; injection h with h1 h; injection h with h2 h3; exact ⟨h1.symm, h2.symm, h3.symm⟩
    exact cl3
  rcases ci with _ | ci
  · obtain ⟨rfl, rfl, rfl⟩ : C = _ ∧ F = _ ∧ N = _ := by
      injection h with h; injection h with h1 h; injection h with h2 h3; exact ⟨h1.symm, h2.symm, h3.symm⟩
    exact cl4
  rcases ci with _ | ci
  · obtain ⟨rfl, rfl, rfl⟩ : C = _ ∧ F = _ ∧ N = _ := by
      injection h with h; injection h with h1 h; injection h with h2 h3; exact ⟨h1.symm, h2.symm, h3.symm⟩
    exact cl5
  rcases ci with _ | ci
  · obtain ⟨rfl, rfl, rfl⟩ : C = _ ∧ F = _ ∧ N = _ := by
      injection h with h; injection h with h1 h; injection h with h2 h3; exact ⟨h1.symm, h2.symm, h3.symm⟩
    exact cl6
  rcases ci with _ | ci
  · obtain ⟨rfl, rfl, rfl⟩ : C = _ ∧ F = _ ∧ N = _ := by
      injection h with h; injection h with h1 h; injection h with h2 h3; exact ⟨h1.symm, h2.symm, h3.symm⟩
    exact cl7
  rcases ci with _ | ci
  · obtain ⟨rfl, rfl, rfl⟩ : C = _ ∧ F = _ ∧ N = _ := by
      injection h with h; injection h with h1 h; injection h with h2 h3; exact ⟨h1.symm, h2.symm, h3.symm⟩
    exact cl8
  rcases ci with _ | ci
  · obtain ⟨rfl, rfl, rfl⟩ : C = _ ∧ F = _ ∧ N = _ := by
      injection h with h; injection h with h1 h; injection h with h2 h3; exact ⟨h1.symm, h2.symm, h3.symm⟩
    exact cl9
  rcases ci with _ | ci
  · obtain ⟨rfl, rfl, rfl⟩ : C = _ ∧ F = _ ∧ N = _ := by
      injection h with h; injection h with h1 h; injection h with h2 h3; exact ⟨h1.symm, h2.symm, h3.symm⟩
    exact cl10
  rcases ci with _ | ci
  · obtain ⟨rfl, rfl, rfl⟩ : C = _ ∧ F = _ ∧ N = _ := by
      injection h with h; injection h with h1 h; injection h with h2 h3; exact ⟨h1.symm, h2.symm, h3.symm⟩
    exact cl11
  rcases ci with _ | ci
  · obtain ⟨rfl, rfl, rfl⟩ : C = _ ∧ F = _ ∧ N = _ := by
      injection h with h; injection h with h1 h; injection h with h2 h3; exact ⟨h1.symm, h2.symm, h3.symm⟩
    exact cl12
  · simp [pCl] at h
end
