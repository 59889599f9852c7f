section
/-! A machine of places. A method runs over a list of cells instead of the heap; places 0 to 7 are old things that are never written (0 the script, 1 to 3 rows of ints, 4 to 7 texts), place k + 8 is the k-th cell. All groups are written with what goes on behind them (k), so that a run over known places and unknown numbers unfolds to nested ifs. -/
abbrev xC : Type := (FieldType × vp_A) ⊕ (Nat × List Value)
abbrev xL : Type := List (Nat × Value)
abbrev xR : Type := Option Value × List xC
/-- an instruction, its length, four numbers that its link gave, a constant, which of the frame's own numbers are kept here -/
abbrev xI : Type := Instr × Nat × (Nat × Nat × Nat × Nat) × Value × Option (List Nat)
/-- what is old: rows of ints by their places, texts by their places -/
abbrev xZ : Type := (Nat → Nat × (Nat → Int32)) × (Nat → List Int32)
/-- a method: name, bytes, maxLocals, what it returns, its instructions by their places -/
abbrev xM : Type := MethodName × ByteArray × Nat × Option FieldType × (Nat → Option xI)
def x_ad (b0 : Nat → Nat) (b : Nat) (p : Nat) : Nat := match p with
  | k + 8 => b + k
  | p => b0 p
def x_v (b0 : Nat → Nat) (b : Nat) (v : Value) : Value := match v with
  | .ref p => .ref (x_ad b0 b p)
  | v => v
-- numbers on the stack
section
variable {ρ : Type}
def x_push (w n : Nat) (v : Value) (st : List Value) (k : List Value → Option ρ) : Option ρ := if n = w then k (v :: st) else none
def x_ii (f : Int32 → Int32 → Int32) (n : Nat) (st : List Value) (k : List Value → Option ρ) : Option ρ := match st with
  | .int y :: .int x :: r => if n = 1 then k (.int (f x y) :: r) else none
  | _ => none
def x_id (f : Int32 → Int32 → Int32) (n : Nat) (st : List Value) (k : List Value → Option ρ) : Option ρ := match st with
  | .int y :: .int x :: r => if n = 1 then (if y = 0 then none else k (.int (f x y) :: r)) else none
  | _ => none
def x_ll (f : Int64 → Int64 → Int64) (n : Nat) (st : List Value) (k : List Value → Option ρ) : Option ρ := match st with
  | .long y :: .long x :: r => if n = 1 then k (.long (f x y) :: r) else none
  | _ => none
def x_ld (f : Int64 → Int64 → Int64) (n : Nat) (st : List Value) (k : List Value → Option ρ) : Option ρ := match st with
  | .long y :: .long x :: r => if n = 1 then (if y = 0 then none else k (.long (f x y) :: r)) else none
  | _ => none
def x_lli (f : Int64 → Int64 → Int32) (n : Nat) (st : List Value) (k : List Value → Option ρ) : Option ρ := match st with
  | .long y :: .long x :: r => if n = 1 then k (.int (f x y) :: r) else none
  | _ => none
def x_li (f : Int64 → Int32 → Int64) (n : Nat) (st : List Value) (k : List Value → Option ρ) : Option ρ := match st with
  | .int y :: .long x :: r => if n = 1 then k (.long (f x y) :: r) else none
  | _ => none
def x_i1 (f : Int32 → Int32) (n : Nat) (st : List Value) (k : List Value → Option ρ) : Option ρ := match st with
  | .int x :: r => if n = 1 then k (.int (f x) :: r) else none
  | _ => none
def x_i2 (f : Int32 → Int64) (n : Nat) (st : List Value) (k : List Value → Option ρ) : Option ρ := match st with
  | .int x :: r => if n = 1 then k (.long (f x) :: r) else none
  | _ => none
def x_l1 (f : Int64 → Int64) (n : Nat) (st : List Value) (k : List Value → Option ρ) : Option ρ := match st with
  | .long x :: r => if n = 1 then k (.long (f x) :: r) else none
  | _ => none
def x_l2 (f : Int64 → Int32) (n : Nat) (st : List Value) (k : List Value → Option ρ) : Option ρ := match st with
  | .long x :: r => if n = 1 then k (.int (f x) :: r) else none
  | _ => none
def x_s1' (c1 n : Nat) (f : Value → List Value → List Value) (st : List Value) (k : List Value → Option ρ) : Option ρ := match st with
  | v :: r => if n = 1 ∧ v.category = c1 then k (f v r) else none
  | _ => none
def x_s2' (c1 c2 n : Nat) (f : Value → Value → List Value → List Value) (st : List Value) (k : List Value → Option ρ) : Option ρ := match st with
  | v :: w :: r => if n = 1 ∧ v.category = c1 ∧ w.category = c2 then k (f v w r) else none
  | _ => none
def x_s3' (c1 c2 c3 n : Nat) (f : Value → Value → Value → List Value → List Value) (st : List Value) (k : List Value → Option ρ) : Option ρ := match st with
  | v :: w :: z :: r => if n = 1 ∧ v.category = c1 ∧ w.category = c2 ∧ z.category = c3 then k (f v w z r) else none
  | _ => none
/-- dup2, pop2: by the first one's kind -/
def x_d2 (n : Nat) (f : Value → List Value → List Value) (g : Value → Value → List Value → List Value) (st : List Value) (k : List Value → Option ρ) : Option ρ := match st with
  | .long x :: r => if n = 1 then k (f (.long x) r) else none
  | .int x :: .int y :: r => if n = 1 then k (g (.int x) (.int y) r) else none
  | .int x :: .ref y :: r => if n = 1 then k (g (.int x) (.ref y) r) else none
  | _ => none
def x_pure (i : Instr) (n : Nat) (st : List Value) (k : List Value → Option ρ) : Option ρ := match i with
  | .iconst c => x_push 1 n (.int (Int32.ofInt c)) st k
  | .bipush c => x_push 2 n (.int (Int8.ofInt c).toInt32) st k
  | .sipush c => x_push 3 n (.int (Int16.ofInt c).toInt32) st k
  | .lconst c => x_push 1 n (.long (Int64.ofNat (c : Nat))) st k
  | .aconst_null => x_push 1 n .null st k
  | .iadd => x_ii (fun x y => x + y) n st k
  | .isub => x_ii (fun x y => x - y) n st k
  | .imul => x_ii (fun x y => x * y) n st k
  | .iand => x_ii (fun x y => x &&& y) n st k
  | .ior => x_ii (fun x y => x ||| y) n st k
  | .ixor => x_ii (fun x y => x ^^^ y) n st k
  | .ishl => x_ii (fun x y => x <<< (y &&& 31)) n st k
  | .ishr => x_ii (fun x y => x >>> (y &&& 31)) n st k
  | .iushr => x_ii (fun x y => (x.toUInt32 >>> (y.toUInt32 &&& Int32.toUInt32 31)).toInt32) n st k
  | .idiv => x_id (fun x y => x / y) n st k
  | .irem => x_id (fun x y => x - x / y * y) n st k
  | .ineg => x_i1 (fun x => -x) n st k
  | .ladd => x_ll (fun x y => x + y) n st k
  | .lsub => x_ll (fun x y => x - y) n st k
  | .lmul => x_ll (fun x y => x * y) n st k
  | .land => x_ll (fun x y => x &&& y) n st k
  | .lor => x_ll (fun x y => x ||| y) n st k
  | .lxor => x_ll (fun x y => x ^^^ y) n st k
  | .ldiv => x_ld (fun x y => x / y) n st k
  | .lrem => x_ld (fun x y => x - x / y * y) n st k
  | .lneg => x_l1 (fun x => -x) n st k
  | .lshl => x_li (fun x y => x <<< (y.toInt64 &&& 63)) n st k
  | .lshr => x_li (fun x y => x >>> (y.toInt64 &&& 63)) n st k
  | .lushr => x_li (fun x y => (x.toUInt64 >>> (y.toInt64.toUInt64 &&& Int64.toUInt64 63)).toInt64) n st k
  | .lcmp => x_lli lg_cmp n st k
  | .i2l => x_i2 (fun x => x.toInt64) n st k
  | .l2i => x_l2 (fun x => x.toInt32) n st k
  | .i2b => x_i1 (fun x => x.toInt8.toInt32) n st k
  | .i2s => x_i1 (fun x => x.toInt16.toInt32) n st k
  | .i2c => x_i1 (fun x => (x.toUInt32 % 65536).toInt32) n st k
  | .dup => x_s1' 1 n (fun v r => v :: v :: r) st k
  | .pop => x_s1' 1 n (fun _ r => r) st k
  | .dup_x1 => x_s2' 1 1 n (fun v w r => v :: w :: v :: r) st k
  | .dup_x2 => x_s3' 1 1 1 n (fun v w z r => v :: w :: z :: v :: r) st k
  | .dup2_x1 => x_s2' 2 1 n (fun v w r => v :: w :: v :: r) st k
  | .dup2_x2 => x_s3' 2 1 1 n (fun v w z r => v :: w :: z :: v :: r) st k
  | .dup2 => x_d2 n (fun v r => v :: v :: r) (fun v w r => v :: w :: v :: w :: r) st k
  | .pop2 => x_d2 n (fun _ r => r) (fun _ _ r => r) st k
  | _ => none
-- the frame's own numbers
def x_get (lv : xL) (i : Nat) : Option Value := (lv.find? fun q => q.1 == i).map fun q => q.2
def x_ins (q : Nat × Value) : xL → xL
  | [] => [q]
  | z :: r => if z.1 < q.1 then z :: x_ins q r else q :: z :: r
def x_s1 (lv : xL) (i : Nat) (v : Value) : xL := x_ins (i, v) (lv.filter (fun q => !(q.1 == i) && !(q.1 + 1 == i && q.2.category == 2)))
def x_s2 (lv : xL) (i : Nat) (v : Value) : xL := x_ins (i, v) (lv.filter (fun q => !(q.1 == i) && (!(q.1 == i + 1) && !(q.1 + 1 == i && q.2.category == 2))))
def x_cut (ks : Option (List Nat)) (lv : xL) : xL := match ks with
  | none => lv
  | some ks => lv.filter (fun q => ks.contains q.1)
def x_ldi (i w n : Nat) (lv : xL) (st : List Value) (k : xL → List Value → Option ρ) : Option ρ := match x_get lv i with
  | some (.int x) => if n = w then k lv (.int x :: st) else none
  | _ => none
def x_ldl (i w n : Nat) (lv : xL) (st : List Value) (k : xL → List Value → Option ρ) : Option ρ := match x_get lv i with
  | some (.long x) => if n = w then k lv (.long x :: st) else none
  | _ => none
def x_lda (i w n : Nat) (lv : xL) (st : List Value) (k : xL → List Value → Option ρ) : Option ρ := match x_get lv i with
  | some (.ref x) => if n = w then k lv (.ref x :: st) else none
  | some .null => if n = w then k lv (.null :: st) else none
  | _ => none
def x_sti (i w n : Nat) (lv : xL) (st : List Value) (k : xL → List Value → Option ρ) : Option ρ := match st with
  | .int x :: r => if n = w then k (x_s1 lv i (.int x)) r else none
  | _ => none
def x_stl (i w n : Nat) (lv : xL) (st : List Value) (k : xL → List Value → Option ρ) : Option ρ := match st with
  | .long x :: r => if n = w then k (x_s2 lv i (.long x)) r else none
  | _ => none
def x_sta (i w n : Nat) (lv : xL) (st : List Value) (k : xL → List Value → Option ρ) : Option ρ := match st with
  | .ref x :: r => if n = w then k (x_s1 lv i (.ref x)) r else none
  | .null :: r => if n = w then k (x_s1 lv i .null) r else none
  | _ => none
def x_inc (i : Nat) (c : Int) (n : Nat) (lv : xL) (st : List Value) (k : xL → List Value → Option ρ) : Option ρ := match x_get lv i with
  | some (.int x) => if n = 3 then k (x_s1 lv i (.int (x + Int32.ofInt c))) st else none
  | _ => none
def x_loc (i : Instr) (n : Nat) (lv : xL) (st : List Value) (k : xL → List Value → Option ρ) : Option ρ := match i with
  | .iload j => x_ldi j 2 n lv st k
  | .iload_n j => x_ldi (j : Nat) 1 n lv st k
  | .lload j => x_ldl j 2 n lv st k
  | .lload_n j => x_ldl (j : Nat) 1 n lv st k
  | .aload j => x_lda j 2 n lv st k
  | .aload_n j => x_lda (j : Nat) 1 n lv st k
  | .istore j => x_sti j 2 n lv st k
  | .istore_n j => x_sti (j : Nat) 1 n lv st k
  | .lstore j => x_stl j 2 n lv st k
  | .lstore_n j => x_stl (j : Nat) 1 n lv st k
  | .astore j => x_sta j 2 n lv st k
  | .astore_n j => x_sta (j : Nat) 1 n lv st k
  | .iinc j c => x_inc j c n lv st k
  | _ => none
-- where it goes on
def x_to (pc : Nat) (off : Int) (k : Nat → Option ρ) : Option ρ := if (pc : Int) + off < 0 then none else k ((pc : Int) + off).toNat
def x_c0 (c : Jvm.ClassFile.Cond) (x : Int32) (a b : Option ρ) : Option ρ := match c with
  | .eq => if x = 0 then a else b
  | .ne => if x = 0 then b else a
  | .lt => if x < 0 then a else b
  | .ge => if 0 ≤ x then a else b
  | .gt => if 0 < x then a else b
  | .le => if x ≤ 0 then a else b
def x_c2 (c : Jvm.ClassFile.Cond) (x y : Int32) (a b : Option ρ) : Option ρ := match c with
  | .eq => if x = y then a else b
  | .ne => if x = y then b else a
  | .lt => if x < y then a else b
  | .ge => if y ≤ x then a else b
  | .gt => if y < x then a else b
  | .le => if x ≤ y then a else b
def x_br (i : Instr) (n pc : Nat) (st : List Value) (k : Nat → List Value → Option ρ) : Option ρ := match i with
  | .goto off => if n = 3 then x_to pc off fun t => k t st else none
  | .ifCond c off => match st with
    | .int x :: r => if n = 3 then x_to pc off fun t => x_c0 c x (k t r) (k (pc + 3) r) else none
    | _ => none
  | .if_icmp c off => match st with
    | .int y :: .int x :: r => if n = 3 then x_to pc off fun t => x_c2 c x y (k t r) (k (pc + 3) r) else none
    | _ => none
  | .ifnull off => match st with
    | .null :: r => if n = 3 then x_to pc off fun t => k t r else none
    | .ref _ :: r => if n = 3 then k (pc + 3) r else none
    | _ => none
  | .ifnonnull off => match st with
    | .null :: r => if n = 3 then k (pc + 3) r else none
    | .ref _ :: r => if n = 3 then x_to pc off fun t => k t r else none
    | _ => none
  | .tableswitch dflt lo hi offs => match st with
    | .int x :: r => if x.toInt < lo ∨ hi < x.toInt then x_to pc dflt fun t => k t r else (match offs[(x.toInt - lo).toNat]? with
      | some off => x_to pc off fun t => k t r
      | none => none)
    | _ => none
  | .lookupswitch dflt ps => match st with
    | .int x :: r => if (ps.toList.zip (ps.toList.drop 1)).all (fun (a, next) => a.1 < next.1) = true then x_to pc (Op.lookupswitch.offset ps.toList dflt x.toInt) fun t => k t r else none
    | _ => none
  | _ => none
-- the cells
def x_in (i : Int32) (n : Nat) (a : Option ρ) : Option ρ := if i < 0 ∨ n ≤ i.toNatClampNeg then none else a
/-- a value that may stand in a field of this kind: 0 int, 1 long, 2 boolean, 3 a reference -/
def x_fit (t : Nat) (v : Value) (a : Option ρ) : Option ρ := match v with
  | .int x => if t = 0 then a else if t = 2 then (if x = 0 ∨ x = 1 then a else none) else none
  | .long _ => if t = 1 then a else none
  | .ref _ => if t = 3 then a else none
  | .null => if t = 3 then a else none
  | _ => none
def x_gf (q : Nat × Nat × Nat × Nat) (n : Nat) (st : List Value) (h : List xC) (k : List Value → Option ρ) : Option ρ := match st with
  | .ref (p + 8) :: r => match h[p]? with
    | some (.inr (ci, fs)) => if n = 3 ∧ ci = q.1 then (match fs[q.2.1]? with
      | some v => k (v :: r)
      | none => none) else none
    | _ => none
  | _ => none
def x_pf (q : Nat × Nat × Nat × Nat) (n : Nat) (st : List Value) (h : List xC) (k : List Value → List xC → Option ρ) : Option ρ := match st with
  | v :: .ref (p + 8) :: r => match h[p]? with
    | some (.inr (ci, fs)) => if n = 3 ∧ ci = q.1 ∧ q.2.1 < fs.length then x_fit q.2.2.1 v (k r (h.set p (.inr (ci, fs.set q.2.1 v)))) else none
    | _ => none
  | _ => none
/-- an int out of an array of ints, or out of the script -/
def x_ial (scr : xZ) (n : Nat) (st : List Value) (h : List xC) (k : List Value → Option ρ) : Option ρ := match st with
  | .int i :: .ref (p + 8) :: r => match h[p]? with
    | some (.inl (.int, N, .inl f)) => if n = 1 then x_in i N (k (.int (f i.toNatClampNeg) :: r)) else none
    | _ => none
  | .int i :: .ref p :: r => if n = 1 ∧ p < 4 then x_in i (scr.1 p).1 (k (.int ((scr.1 p).2 i.toNatClampNeg) :: r)) else none
  | _ => none
def x_bal (n : Nat) (st : List Value) (h : List xC) (k : List Value → Option ρ) : Option ρ := match st with
  | .int i :: .ref (p + 8) :: r => match h[p]? with
    | some (.inl (.boolean, N, .inl f)) => if n = 1 then x_in i N (k (.int (f i.toNatClampNeg) :: r)) else none
    | some (.inl (.byte, N, .inl f)) => if n = 1 then x_in i N (k (.int (f i.toNatClampNeg) :: r)) else none
    | _ => none
  | _ => none
def x_lal (n : Nat) (st : List Value) (h : List xC) (k : List Value → Option ρ) : Option ρ := match st with
  | .int i :: .ref (p + 8) :: r => match h[p]? with
    | some (.inl (.long, N, .inr (.inl f))) => if n = 1 then x_in i N (k (.long (f i.toNatClampNeg) :: r)) else none
    | _ => none
  | _ => none
def x_ias (n : Nat) (st : List Value) (h : List xC) (k : List Value → List xC → Option ρ) : Option ρ := match st with
  | .int x :: .int i :: .ref (p + 8) :: r => match h[p]? with
    | some (.inl (.int, N, .inl f)) => if n = 1 then x_in i N (k r (h.set p (.inl (.int, N, .inl (upd f i.toNatClampNeg x))))) else none
    | _ => none
  | _ => none
def x_bas (n : Nat) (st : List Value) (h : List xC) (k : List Value → List xC → Option ρ) : Option ρ := match st with
  | .int x :: .int i :: .ref (p + 8) :: r => match h[p]? with
    | some (.inl (.boolean, N, .inl f)) => if n = 1 then x_in i N (k r (h.set p (.inl (.boolean, N, .inl (upd f i.toNatClampNeg (vp_nar .boolean x)))))) else none
    | some (.inl (.byte, N, .inl f)) => if n = 1 then x_in i N (k r (h.set p (.inl (.byte, N, .inl (upd f i.toNatClampNeg (vp_nar .byte x)))))) else none
    | _ => none
  | _ => none
def x_las (n : Nat) (st : List Value) (h : List xC) (k : List Value → List xC → Option ρ) : Option ρ := match st with
  | .long x :: .int i :: .ref (p + 8) :: r => match h[p]? with
    | some (.inl (.long, N, .inr (.inl f))) => if n = 1 then x_in i N (k r (h.set p (.inl (.long, N, .inr (.inl (vp_updL f i.toNatClampNeg x)))))) else none
    | _ => none
  | _ => none
def x_alen (scr : xZ) (n : Nat) (st : List Value) (h : List xC) (k : List Value → Option ρ) : Option ρ := match st with
  | .ref (p + 8) :: r => match h[p]? with
    | some (.inl (_, a)) => if n = 1 then k (.int (Int32.ofNat a.1) :: r) else none
    | _ => none
  | .ref p :: r => if n = 1 ∧ p < 4 then k (.int (Int32.ofNat (scr.1 p).1) :: r) else none
  | _ => none
def x_zero (t : ArrayType) (N : Nat) (k : FieldType → vp_A → Option ρ) : Option ρ := match t with
  | .int => k .int (N, .inl fun _ => 0)
  | .boolean => k .boolean (N, .inl fun _ => 0)
  | .byte => k .byte (N, .inl fun _ => 0)
  | .long => k .long (N, .inr (.inl fun _ => 0))
  | _ => none
def x_na (t : ArrayType) (n : Nat) (st : List Value) (h : List xC) (k : List Value → List xC → Option ρ) : Option ρ := match st with
  | .int c :: r => if n = 2 then (if c < 0 ∨ 1000000 < c.toNatClampNeg then none else x_zero t c.toNatClampNeg fun ty a => k (.ref (h.length + 8) :: r) (h ++ [.inl (ty, a)])) else none
  | _ => none
def x_heap (scr : xZ) (df : Nat → List Value) (x : xI) (pc : Nat) (st : List Value) (h : List xC) (k : Nat → List Value → List xC → Option ρ) : Option ρ := match x.1 with
  | .getfield _ => x_gf x.2.2.1 x.2.1 st h fun st => k (pc + 3) st h
  | .putfield _ => x_pf x.2.2.1 x.2.1 st h fun st h => k (pc + 3) st h
  | .iaload => x_ial scr x.2.1 st h fun st => k (pc + 1) st h
  | .laload => x_lal x.2.1 st h fun st => k (pc + 1) st h
  | .baload => x_bal x.2.1 st h fun st => k (pc + 1) st h
  | .iastore => x_ias x.2.1 st h fun st h => k (pc + 1) st h
  | .lastore => x_las x.2.1 st h fun st h => k (pc + 1) st h
  | .bastore => x_bas x.2.1 st h fun st h => k (pc + 1) st h
  | .arraylength => x_alen scr x.2.1 st h fun st => k (pc + 1) st h
  | .new _ => if x.2.1 = 3 then k (pc + 3) (.ref (h.length + 8) :: st) (h ++ [.inr (x.2.2.1.1, df x.2.2.1.1)]) else none
  | .newarray t => x_na t x.2.1 st h fun st h => k (pc + 2) st h
  | .ldc _ => if x.2.1 = 2 then k (pc + 2) (x.2.2.2.1 :: st) h else none
  | .ldc_w _ => if x.2.1 = 3 then k (pc + 3) (x.2.2.2.1 :: st) h else none
  | .ldc2_w _ => if x.2.1 = 3 then k (pc + 3) (x.2.2.2.1 :: st) h else none
  | .getstatic _ => if x.2.1 = 3 ∧ x.2.2.1.1 < 4 then k (pc + 3) (.ref x.2.2.1.1 :: st) h else none
  | _ => none
-- calls: (callee, how many arguments, kind, number of the receiver's kind of object). Kinds: 0 Object's constructor, 1 of an object, 2 a constructor, 3 static; 4, 5, 6 the same of a nest mate; 7 System.arraycopy; 8, 9 length and charAt of a text; 10 to 14 Math's max, min of ints, max, min of longs, abs of a long
def x_src (scr : xZ) (h : List xC) (p : Nat) (k : Nat → (Nat → Int32) → Option ρ) : Option ρ := match p with
  | p + 8 => match h[p]? with
    | some (.inl (.int, N, .inl f)) => k N f
    | _ => none
  | p => if p < 4 then k (scr.1 p).1 (scr.1 p).2 else none
def x_srcl (h : List xC) (p : Nat) (k : Nat → (Nat → Int64) → Option ρ) : Option ρ := match p with
  | p + 8 => match h[p]? with
    | some (.inl (.long, N, .inr (.inl f))) => k N f
    | _ => none
  | _ => none
def x_cpi (n sp dp : Int32) (N0 N1 : Nat) (a : Option ρ) : Option ρ := if n < 0 ∨ sp < 0 ∨ dp < 0 then none else if sp.toNatClampNeg + n.toNatClampNeg ≤ N0 ∧ dp.toNatClampNeg + n.toNatClampNeg ≤ N1 then a else none
def x_cp (scr : xZ) (st : List Value) (h : List xC) (k : List Value → List xC → Option ρ) : Option ρ := match st with
  | .int n :: .int dp :: .ref (p1 + 8) :: .int sp :: .ref p0 :: r => match h[p1]? with
    | some (.inl (.int, N1, .inl g)) => x_src scr h p0 fun N0 f => x_cpi n sp dp N0 N1 (k r (h.set p1 (.inl (.int, N1, .inl (va_cpy f g sp.toNatClampNeg dp.toNatClampNeg n.toNatClampNeg)))))
    | some (.inl (.long, N1, .inr (.inl g))) => x_srcl h p0 fun N0 f => x_cpi n sp dp N0 N1 (k r (h.set p1 (.inl (.long, N1, .inr (.inl (va_cpy f g sp.toNatClampNeg dp.toNatClampNeg n.toNatClampNeg))))))
    | _ => none
  | _ => none
def x_tx (scr : xZ) (t : Nat) (st : List Value) (k : List Value → Option ρ) : Option ρ :=
  if t = 8 then (match st with
    | .ref p :: r => if 4 ≤ p ∧ p < 8 then k (.int (Int32.ofNat (scr.2 p).length) :: r) else none
    | _ => none)
  else (match st with
    | .int i :: .ref p :: r => if 4 ≤ p ∧ p < 8 then x_in i (scr.2 p).length (k (.int ((scr.2 p).getD i.toNatClampNeg 0) :: r)) else none
    | _ => none)
def x_ma (t : Nat) (st : List Value) (k : List Value → Option ρ) : Option ρ :=
  if t = 10 then (match st with
    | .int y :: .int x :: r => k (.int (if x < y then y else x) :: r)
    | _ => none)
  else if t = 11 then (match st with
    | .int y :: .int x :: r => k (.int (if y < x then y else x) :: r)
    | _ => none)
  else if t = 12 then (match st with
    | .long y :: .long x :: r => k (.long (if y < x then x else y) :: r)
    | _ => none)
  else if t = 13 then (match st with
    | .long y :: .long x :: r => k (.long (if y < x then y else x) :: r)
    | _ => none)
  else (match st with
    | .long x :: r => k (.long (if 0 < x then x else -x) :: r)
    | _ => none)
def x_args (n : Nat) (st : List Value) : Option (List Value × List Value) := if n ≤ st.length then some ((st.take n).reverse, st.drop n) else none
def x_low (r : List Value) (a : Option ρ) : Option ρ := if (r.map fun v => v.category).sum ≤ 8 then a else none
def x_inv (scr : xZ) (call : Nat → List Value → List xC → Option xR) (d : Nat) (q : Nat × Nat × Nat × Nat) (n pc : Nat) (st : List Value) (h : List xC) (k : Nat → List Value → List xC → Option ρ) : Option ρ :=
  if n = 3 then (if 7 ≤ q.2.2.1 then (if d < 12 then none else if q.2.2.1 = 7 then x_cp scr st h fun r h => x_low r (k (pc + 3) r h) else if q.2.2.1 ≤ 9 then x_tx scr q.2.2.1 st fun st => x_low (st.drop 1) (k (pc + 3) st h) else x_ma q.2.2.1 st fun st => x_low (st.drop 1) (k (pc + 3) st h))
    else if q.2.2.1 = 0 then (match st with
      | .ref (_ + 8) :: r => if d = 0 then none else x_low r (k (pc + 3) r h)
      | _ => none)
    else if q.2.2.1 = 3 ∨ q.2.2.1 = 6 then (match x_args q.2.1 st with
      | some (As, r) => x_low r ((call q.1 As h).bind fun z => k (pc + 3) (z.1.toList ++ r) z.2)
      | none => none)
    else (match x_args q.2.1 st with
      | some (As, .ref (p + 8) :: r) => (match h[p]? with
        | some (.inr (ci, _)) => if ci = q.2.2.2 then x_low r ((call q.1 (.ref (p + 8) :: As) h).bind fun z => k (pc + 3) (z.1.toList ++ r) z.2) else none
        | _ => none)
      | _ => none)) else none
end
-- its end
def x_ret (i : Instr) (n : Nat) (ty : Option FieldType) (st : List Value) (h : List xC) : Option xR := match i with
  | .ireturn => match st, ty with
    | [.int v], some .int => if n = 1 then some (some (.int v), h) else none
    | [.int v], some .boolean => if n = 1 then (if v = 0 ∨ v = 1 then some (some (.int v), h) else none) else none
    | _, _ => none
  | .lreturn => match st, ty with
    | [.long v], some .long => if n = 1 then some (some (.long v), h) else none
    | _, _ => none
  | .areturn => match st, ty with
    | [.ref v], some (.object _) => if n = 1 then some (some (.ref v), h) else none
    | [.ref v], some (.array _) => if n = 1 then some (some (.ref v), h) else none
    | _, _ => none
  | .return_ => match st, ty with
    | [], none => if n = 1 then some (none, h) else none
    | _, _ => none
  | _ => none
/-- which group: 0 numbers, 1 the frame's own, 2 where to, 3 cells, 4 calls, 5 ends -/
def x_kind (i : Instr) : Nat := match i with
  | .iload _ | .iload_n _ | .lload _ | .lload_n _ | .aload _ | .aload_n _ | .istore _ | .istore_n _ | .lstore _ | .lstore_n _ | .astore _ | .astore_n _ | .iinc _ _ => 1
  | .goto _ | .ifCond _ _ | .if_icmp _ _ | .ifnull _ | .ifnonnull _ | .tableswitch _ _ _ _ | .lookupswitch _ _ => 2
  | .getfield _ | .putfield _ | .iaload | .laload | .baload | .iastore | .lastore | .bastore | .arraylength | .new _ | .newarray _ | .ldc _ | .ldc_w _ | .ldc2_w _ | .getstatic _ => 3
  | .invokevirtual _ | .invokespecial _ | .invokestatic _ => 4
  | .ireturn | .lreturn | .areturn | .return_ => 5
  | _ => 0
/-- where a number of the frame is written, it lies in the frame -/
def x_stok (i : Instr) (nL : Nat) : Prop := match i with
  | .istore j | .astore j | .iinc j _ => j < nL
  | .istore_n j | .astore_n j => (j : Nat) < nL
  | .lstore j => j + 1 < nL
  | .lstore_n j => (j : Nat) + 1 < nL
  | _ => True
def x_step (scr : xZ) (df : Nat → List Value) (call : Nat → List Value → List xC → Option xR) (d : Nat) (M : xM) (x : xI) (pc : Nat) (lv : xL) (st : List Value) (h : List xC) (k : Nat → xL → List Value → List xC → Option xR) : Option xR :=
  match x_kind x.1 with
  | 0 => x_pure x.1 x.2.1 st fun st => k (pc + x.2.1) lv st h
  | 1 => x_loc x.1 x.2.1 lv st fun lv st => k (pc + x.2.1) lv st h
  | 2 => x_br x.1 x.2.1 pc st fun pc st => k pc lv st h
  | 3 => x_heap scr df x pc st h fun pc st h => k pc lv st h
  | 4 => x_inv scr call d x.2.2.1 x.2.1 pc st h fun pc st h => k pc lv st h
  | _ => x_ret x.1 x.2.1 M.2.2.2.1 st h
/-- a table in rows of sixteen -/
def x_at (t : List (List (Option xI))) (pc : Nat) : Option xI := match t[pc / 16]? with
  | some r => match r[pc % 16]? with
    | some x => x
    | none => none
  | none => none
def x_exec (scr : xZ) (df : Nat → List Value) (P : Nat → Option xM) : Nat → Nat → Nat → Nat → xL → List Value → List xC → Option xR
  | 0, _, _, _, _, _, _ => none
  | n + 1, d, j, pc, lv, st, h => match P j with
    | some M => match M.2.2.2.2 pc with
      | some x => x_step scr df (fun j' As h' => match d with
          | 0 => none
          | d' + 1 => match P j' with
            | some M' => if (As.map fun v => v.category).sum ≤ M'.2.2.1 then x_exec scr df P n d' j' 0 (lv_args 0 As) [] h' else none
            | none => none) d M x pc (x_cut x.2.2.2.2 lv) st h fun pc lv st h => x_exec scr df P n d j pc lv st h
      | _ => none
    | none => none
-- how many slots the cells have
def x_sz1 (e : xC) : Nat := match e with
  | .inl (_, a) => a.1
  | .inr (_, fs) => fs.length
def x_sz (h : List xC) : Nat := (h.map x_sz1).sum
end
section
theorem x_no {ρ : Type} {res : ρ} {A : Prop} (h : (none : Option ρ) = some res) : A := nomatch h
theorem x_v_cat (b0 : Nat → Nat) (b : Nat) (v : Value) : (x_v b0 b v).category = v.category := by cases v <;> rfl
theorem x_v_int (b0 : Nat → Nat) (b : Nat) (x : Int32) : x_v b0 b (.int x) = .int x := rfl
theorem x_v_long (b0 : Nat → Nat) (b : Nat) (x : Int64) : x_v b0 b (.long x) = .long x := rfl
section
variable {ρ : Type} {res : ρ} {n : Nat} {st : List Value}
theorem x_push_inv {w : Nat} {v : Value} {k : List Value → Option ρ} (h : x_push w n v st k = some res) : n = w ∧ k (v :: st) = some res := by
  unfold x_push at h
  split at h
  · exact ⟨by assumption, h⟩
  · exact x_no h
theorem x_ii_inv {f : Int32 → Int32 → Int32} {k : List Value → Option ρ} (h : x_ii f n st k = some res) : n = 1 ∧ ∃ x y r, st = .int y :: .int x :: r ∧ k (.int (f x y) :: r) = some res := by
  unfold x_ii at h
  split at h
  · split at h
    · exact ⟨by assumption, _, _, _, rfl, h⟩
    · exact x_no h
  · exact x_no h
theorem x_id_inv {f : Int32 → Int32 → Int32} {k : List Value → Option ρ} (h : x_id f n st k = some res) : n = 1 ∧ ∃ x y r, st = .int y :: .int x :: r ∧ ¬ y = 0 ∧ k (.int (f x y) :: r) = some res := by
  unfold x_id at h
  split at h
  · split at h
    · split at h
      · exact x_no h
      · exact ⟨by assumption, _, _, _, rfl, by assumption, h⟩
    · exact x_no h
  · exact x_no h
theorem x_ll_inv {f : Int64 → Int64 → Int64} {k : List Value → Option ρ} (h : x_ll f n st k = some res) : n = 1 ∧ ∃ x y r, st = .long y :: .long x :: r ∧ k (.long (f x y) :: r) = some res := by
  unfold x_ll at h
  split at h
  · split at h
    · exact ⟨by assumption, _, _, _, rfl, h⟩
    · exact x_no h
  · exact x_no h
theorem x_ld_inv {f : Int64 → Int64 → Int64} {k : List Value → Option ρ} (h : x_ld f n st k = some res) : n = 1 ∧ ∃ x y r, st = .long y :: .long x :: r ∧ ¬ y = 0 ∧ k (.long (f x y) :: r) = some res := by
  unfold x_ld at h
  split at h
  · split at h
    · split at h
      · exact x_no h
      · exact ⟨by assumption, _, _, _, rfl, by assumption, h⟩
    · exact x_no h
  · exact x_no h
theorem x_lli_inv {f : Int64 → Int64 → Int32} {k : List Value → Option ρ} (h : x_lli f n st k = some res) : n = 1 ∧ ∃ x y r, st = .long y :: .long x :: r ∧ k (.int (f x y) :: r) = some res := by
  unfold x_lli at h
  split at h
  · split at h
    · exact ⟨by assumption, _, _, _, rfl, h⟩
    · exact x_no h
  · exact x_no h
theorem x_li_inv {f : Int64 → Int32 → Int64} {k : List Value → Option ρ} (h : x_li f n st k = some res) : n = 1 ∧ ∃ x y r, st = .int y :: .long x :: r ∧ k (.long (f x y) :: r) = some res := by
  unfold x_li at h
  split at h
  · split at h
    · exact ⟨by assumption, _, _, _, rfl, h⟩
    · exact x_no h
  · exact x_no h
theorem x_i1_inv {f : Int32 → Int32} {k : List Value → Option ρ} (h : x_i1 f n st k = some res) : n = 1 ∧ ∃ x r, st = .int x :: r ∧ k (.int (f x) :: r) = some res := by
  unfold x_i1 at h
  split at h
  · split at h
    · exact ⟨by assumption, _, _, rfl, h⟩
    · exact x_no h
  · exact x_no h
theorem x_i2_inv {f : Int32 → Int64} {k : List Value → Option ρ} (h : x_i2 f n st k = some res) : n = 1 ∧ ∃ x r, st = .int x :: r ∧ k (.long (f x) :: r) = some res := by
  unfold x_i2 at h
  split at h
  · split at h
    · exact ⟨by assumption, _, _, rfl, h⟩
    · exact x_no h
  · exact x_no h
theorem x_l1_inv {f : Int64 → Int64} {k : List Value → Option ρ} (h : x_l1 f n st k = some res) : n = 1 ∧ ∃ x r, st = .long x :: r ∧ k (.long (f x) :: r) = some res := by
  unfold x_l1 at h
  split at h
  · split at h
    · exact ⟨by assumption, _, _, rfl, h⟩
    · exact x_no h
  · exact x_no h
theorem x_l2_inv {f : Int64 → Int32} {k : List Value → Option ρ} (h : x_l2 f n st k = some res) : n = 1 ∧ ∃ x r, st = .long x :: r ∧ k (.int (f x) :: r) = some res := by
  unfold x_l2 at h
  split at h
  · split at h
    · exact ⟨by assumption, _, _, rfl, h⟩
    · exact x_no h
  · exact x_no h
theorem x_s1'_inv {c1 : Nat} {f : Value → List Value → List Value} {k : List Value → Option ρ} (h : x_s1' c1 n f st k = some res) : n = 1 ∧ ∃ v r, st = v :: r ∧ v.category = c1 ∧ k (f v r) = some res := by
  unfold x_s1' at h
  split at h
  · split at h
    · rename_i hc; exact ⟨hc.1, _, _, rfl, hc.2, h⟩
    · exact x_no h
  · exact x_no h
theorem x_s2'_inv {c1 c2 : Nat} {f : Value → Value → List Value → List Value} {k : List Value → Option ρ} (h : x_s2' c1 c2 n f st k = some res) : n = 1 ∧ ∃ v w r, st = v :: w :: r ∧ v.category = c1 ∧ w.category = c2 ∧ k (f v w r) = some res := by
  unfold x_s2' at h
  split at h
  · split at h
    · rename_i hc; exact ⟨hc.1, _, _, _, rfl, hc.2.1, hc.2.2, h⟩
    · exact x_no h
  · exact x_no h
theorem x_s3'_inv {c1 c2 c3 : Nat} {f : Value → Value → Value → List Value → List Value} {k : List Value → Option ρ} (h : x_s3' c1 c2 c3 n f st k = some res) : n = 1 ∧ ∃ v w z r, st = v :: w :: z :: r ∧ v.category = c1 ∧ w.category = c2 ∧ z.category = c3 ∧ k (f v w z r) = some res := by
  unfold x_s3' at h
  split at h
  · split at h
    · rename_i hc; exact ⟨hc.1, _, _, _, _, rfl, hc.2.1, hc.2.2.1, hc.2.2.2, h⟩
    · exact x_no h
  · exact x_no h
theorem x_d2_inv {f : Value → List Value → List Value} {g : Value → Value → List Value → List Value} {k : List Value → Option ρ} (h : x_d2 n f g st k = some res) : n = 1 ∧ ((∃ v r, st = v :: r ∧ v.category = 2 ∧ k (f v r) = some res) ∨ ∃ v w r, st = v :: w :: r ∧ v.category = 1 ∧ w.category = 1 ∧ k (g v w r) = some res) := by
  unfold x_d2 at h
  split at h
  · split at h
    · exact ⟨by assumption, .inl ⟨_, _, rfl, rfl, h⟩⟩
    · exact x_no h
  · split at h
    · exact ⟨by assumption, .inr ⟨_, _, _, rfl, rfl, rfl, h⟩⟩
    · exact x_no h
  · split at h
    · exact ⟨by assumption, .inr ⟨_, _, _, rfl, rfl, rfl, h⟩⟩
    · exact x_no h
  · exact x_no h
end
section
variable {p : Program} {l : Launch} {e : Env} {R : Room} {s : State} {m : MethodId} {args : Array Value} {below : List Frame} {meth : Method} {c : Code} {H : Heap} {locs : List Loc} {cells slots : Nat} {Q : State → Prop}
variable {cc : ByteArray} {pc : Nat} {ls : Array Slot} {ρ : Type} {res : ρ}
set_option maxHeartbeats 4000000 in
/-- an instruction over numbers on the stack alone -/
theorem x_pure_ok (hx : p.tables.exec = Jvm.exec) (hb : c.code = cc) {i : Instr} {n : Nat} {st : List Value} {k : List Value → Option ρ} (b0 : Nat → Nat) (b : Nat) (hd : decode cc pc = .ok (i, n)) (h : x_pure i n st k = some res)
    (kk : ∀ st', k st' = some res → W p l e R s m args below meth c H locs cells slots Q (F0 m (pc + n) ls (st'.map (x_v b0 b)))) : W p l e R s m args below meth c H locs cells slots Q (F0 m pc ls (st.map (x_v b0 b))) := by
  cases i with
  | iconst c =>
    obtain ⟨rfl, h⟩ := x_push_inv h
    exact lv_iconst hx hb hd rfl (kk _ h)
  | bipush c =>
    obtain ⟨rfl, h⟩ := x_push_inv h
    exact lv_bipush hx hb hd rfl (kk _ h)
  | sipush c =>
    obtain ⟨rfl, h⟩ := x_push_inv h
    exact lv_sipush hx hb hd rfl (kk _ h)
  | lconst c =>
    obtain ⟨rfl, h⟩ := x_push_inv h
    exact lv_lconst hx hb hd rfl (kk _ h)
  | aconst_null =>
    obtain ⟨rfl, h⟩ := x_push_inv h
    exact lv_null hx hb hd (kk _ h)
  | iadd =>
    obtain ⟨rfl, x, y, r, rfl, h⟩ := x_ii_inv h
    exact lv_iadd hx hb hd (kk _ h)
  | isub =>
    obtain ⟨rfl, x, y, r, rfl, h⟩ := x_ii_inv h
    exact lv_isub hx hb hd (kk _ h)
  | imul =>
    obtain ⟨rfl, x, y, r, rfl, h⟩ := x_ii_inv h
    exact lv_imul hx hb hd (kk _ h)
  | iand =>
    obtain ⟨rfl, x, y, r, rfl, h⟩ := x_ii_inv h
    exact lv_iand hx hb hd (kk _ h)
  | ior =>
    obtain ⟨rfl, x, y, r, rfl, h⟩ := x_ii_inv h
    exact lv_ior hx hb hd (kk _ h)
  | ixor =>
    obtain ⟨rfl, x, y, r, rfl, h⟩ := x_ii_inv h
    exact lv_ixor hx hb hd (kk _ h)
  | ishl =>
    obtain ⟨rfl, x, y, r, rfl, h⟩ := x_ii_inv h
    exact lv_ishl hx hb hd (kk _ h)
  | ishr =>
    obtain ⟨rfl, x, y, r, rfl, h⟩ := x_ii_inv h
    exact lv_ishr hx hb hd (kk _ h)
  | iushr =>
    obtain ⟨rfl, x, y, r, rfl, h⟩ := x_ii_inv h
    exact lv_iushr hx hb hd rfl (kk _ h)
  | idiv =>
    obtain ⟨rfl, x, y, r, rfl, hy, h⟩ := x_id_inv h
    exact lv_idiv hx hb hd hy (kk _ h)
  | irem =>
    obtain ⟨rfl, x, y, r, rfl, hy, h⟩ := x_id_inv h
    exact lv_irem hx hb hd hy (kk _ h)
  | ladd =>
    obtain ⟨rfl, x, y, r, rfl, h⟩ := x_ll_inv h
    exact lv_ladd hx hb hd (kk _ h)
  | lsub =>
    obtain ⟨rfl, x, y, r, rfl, h⟩ := x_ll_inv h
    exact lv_lsub hx hb hd (kk _ h)
  | lmul =>
    obtain ⟨rfl, x, y, r, rfl, h⟩ := x_ll_inv h
    exact lv_lmul hx hb hd (kk _ h)
  | land =>
    obtain ⟨rfl, x, y, r, rfl, h⟩ := x_ll_inv h
    exact lv_land hx hb hd (kk _ h)
  | lor =>
    obtain ⟨rfl, x, y, r, rfl, h⟩ := x_ll_inv h
    exact lv_lor hx hb hd (kk _ h)
  | lxor =>
    obtain ⟨rfl, x, y, r, rfl, h⟩ := x_ll_inv h
    exact lv_lxor hx hb hd (kk _ h)
  | ldiv =>
    obtain ⟨rfl, x, y, r, rfl, hy, h⟩ := x_ld_inv h
    exact lv_ldiv hx hb hd hy (kk _ h)
  | lrem =>
    obtain ⟨rfl, x, y, r, rfl, hy, h⟩ := x_ld_inv h
    exact lv_lrem hx hb hd hy (kk _ h)
  | lshl =>
    obtain ⟨rfl, x, y, r, rfl, h⟩ := x_li_inv h
    exact lv_lshl hx hb hd rfl (kk _ h)
  | lshr =>
    obtain ⟨rfl, x, y, r, rfl, h⟩ := x_li_inv h
    exact lv_lshr hx hb hd rfl (kk _ h)
  | lushr =>
    obtain ⟨rfl, x, y, r, rfl, h⟩ := x_li_inv h
    exact lv_lushr hx hb hd rfl (kk _ h)
  | lcmp =>
    obtain ⟨rfl, x, y, r, rfl, h⟩ := x_lli_inv h
    exact W.lcmp hx hb hd (kk _ h)
  | ineg =>
    obtain ⟨rfl, x, r, rfl, h⟩ := x_i1_inv h
    exact lv_ineg hx hb hd (kk _ h)
  | lneg =>
    obtain ⟨rfl, x, r, rfl, h⟩ := x_l1_inv h
    exact lv_lneg hx hb hd (kk _ h)
  | i2l =>
    obtain ⟨rfl, x, r, rfl, h⟩ := x_i2_inv h
    exact lv_i2l hx hb hd rfl (kk _ h)
  | l2i =>
    obtain ⟨rfl, x, r, rfl, h⟩ := x_l2_inv h
    exact lv_l2i hx hb hd rfl (kk _ h)
  | i2b =>
    obtain ⟨rfl, x, r, rfl, h⟩ := x_i1_inv h
    exact lv_i2b hx hb hd rfl (kk _ h)
  | i2s =>
    obtain ⟨rfl, x, r, rfl, h⟩ := x_i1_inv h
    exact lv_i2s hx hb hd rfl (kk _ h)
  | i2c =>
    obtain ⟨rfl, x, r, rfl, h⟩ := x_i1_inv h
    exact lv_i2c hx hb hd rfl (kk _ h)
  | dup =>
    obtain ⟨rfl, v, r, rfl, h1, h⟩ := x_s1'_inv h
    exact lv_dup hx hb hd ((x_v_cat b0 b v).trans h1) (kk _ h)
  | pop =>
    obtain ⟨rfl, v, r, rfl, h1, h⟩ := x_s1'_inv h
    exact lv_pop hx hb hd ((x_v_cat b0 b v).trans h1) (kk _ h)
  | dup_x1 =>
    obtain ⟨rfl, v, w, r, rfl, h1, h2, h⟩ := x_s2'_inv h
    exact lv_dup_x1 hx hb hd ((x_v_cat b0 b v).trans h1) ((x_v_cat b0 b w).trans h2) (kk _ h)
  | dup2_x1 =>
    obtain ⟨rfl, v, w, r, rfl, h1, h2, h⟩ := x_s2'_inv h
    exact lv_dup2_x1_2 hx hb hd ((x_v_cat b0 b v).trans h1) ((x_v_cat b0 b w).trans h2) (kk _ h)
  | dup_x2 =>
    obtain ⟨rfl, v, w, z, r, rfl, h1, h2, h3, h⟩ := x_s3'_inv h
    exact lv_dup_x2 hx hb hd ((x_v_cat b0 b v).trans h1) ((x_v_cat b0 b w).trans h2) ((x_v_cat b0 b z).trans h3) (kk _ h)
  | dup2_x2 =>
    obtain ⟨rfl, v, w, z, r, rfl, h1, h2, h3, h⟩ := x_s3'_inv h
    exact lv_dup2_x2_2 hx hb hd ((x_v_cat b0 b v).trans h1) ((x_v_cat b0 b w).trans h2) ((x_v_cat b0 b z).trans h3) (kk _ h)
  | dup2 =>
    replace h : x_d2 n (fun v r => v :: v :: r) (fun v w r => v :: w :: v :: w :: r) st k = some res := h
    obtain ⟨rfl, ⟨v, r, rfl, h1, h⟩ | ⟨v, w, r, rfl, h1, h2, h⟩⟩ := x_d2_inv h
    · exact lv_dup2_2 hx hb hd ((x_v_cat b0 b v).trans h1) (kk _ h)
    · exact lv_dup2_11 hx hb hd ((x_v_cat b0 b v).trans h1) ((x_v_cat b0 b w).trans h2) (kk _ h)
  | pop2 =>
    replace h : x_d2 n (fun _ r => r) (fun _ _ r => r) st k = some res := h
    obtain ⟨rfl, ⟨v, r, rfl, h1, h⟩ | ⟨v, w, r, rfl, h1, h2, h⟩⟩ := x_d2_inv h
    · exact lv_pop2_2 hx hb hd ((x_v_cat b0 b v).trans h1) (kk _ h)
    · exact lv_pop2_11 hx hb hd ((x_v_cat b0 b v).trans h1) ((x_v_cat b0 b w).trans h2) (kk _ h)
  | _ => exact x_no h
/-- the frame's own numbers, as they are over the heap -/
def x_lv (b0 : Nat → Nat) (b : Nat) (lv : xL) : xL := lv.map fun q => (q.1, x_v b0 b q.2)
theorem x_get_at {b0 : Nat → Nat} {b nL i : Nat} {lv : xL} {v : Value} (hl : lv_has ls nL (x_lv b0 b lv)) (h : x_get lv i = some v) : ls[i]? = some (.val (x_v b0 b v)) := by
  unfold x_get at h
  obtain ⟨q, h1, rfl⟩ := Option.map_eq_some_iff.mp h
  have h2 : q.1 = i := by simpa using List.find?_some h1
  have h3 : (q.1, x_v b0 b q.2) ∈ x_lv b0 b lv := List.mem_map.mpr ⟨q, List.mem_of_find?_eq_some h1, rfl⟩
  have h4 := hl.2.2 _ h3
  rw [← h2]
  exact h4
theorem x_get_pl {b0 : Nat → Nat} {b i : Nat} {lv : xL} {v : Value} (h : x_get lv i = some v) : ∃ k : Nat, (x_lv b0 b lv)[k]? = some (i, x_v b0 b v) := by
  unfold x_get at h
  obtain ⟨q, h1, rfl⟩ := Option.map_eq_some_iff.mp h
  have h2 : q.1 = i := by simpa using List.find?_some h1
  have h3 : (q.1, x_v b0 b q.2) ∈ x_lv b0 b lv := List.mem_map.mpr ⟨q, List.mem_of_find?_eq_some h1, rfl⟩
  rw [h2] at h3
  exact List.mem_iff_getElem?.mp h3
theorem x_ins_mem {q z : Nat × Value} : ∀ {l : xL}, z ∈ x_ins q l → z = q ∨ z ∈ l
  | [], h => .inl (List.mem_singleton.mp h)
  | y :: r, h => by
    unfold x_ins at h
    split at h
    · rcases List.mem_cons.mp h with h | h
      · exact .inr (List.mem_cons.mpr (.inl h))
      · rcases x_ins_mem h with h | h
        · exact .inl h
        · exact .inr (List.mem_cons.mpr (.inr h))
    · exact List.mem_cons.mp h
theorem x_s1_has {ls : Array Slot} {nL : Nat} {b0 : Nat → Nat} {b : Nat} {lv : xL} {i : Nat} {v : Value} (h : lv_has ls nL ((i, x_v b0 b v) :: (x_lv b0 b lv).filter (fun q => !(q.1 == i) && !(q.1 + 1 == i && q.2.category == 2)))) : lv_has ls nL (x_lv b0 b (x_s1 lv i v)) := by
  refine ⟨h.1, h.2.1, fun q hq => h.2.2 q ?_⟩
  obtain ⟨z, hz, rfl⟩ := List.mem_map.mp hq
  rcases x_ins_mem hz with rfl | hz
  · exact List.mem_cons_self
  · obtain ⟨h1, h2⟩ := List.mem_filter.mp hz
    refine List.mem_cons.mpr (.inr (List.mem_filter.mpr ⟨List.mem_map.mpr ⟨z, h1, rfl⟩, ?_⟩))
    simpa only [x_v_cat] using h2
theorem x_s2_has {ls : Array Slot} {nL : Nat} {b0 : Nat → Nat} {b : Nat} {lv : xL} {i : Nat} {v : Value} (h : lv_has ls nL ((i, x_v b0 b v) :: (x_lv b0 b lv).filter (fun q => !(q.1 == i) && (!(q.1 == i + 1) && !(q.1 + 1 == i && q.2.category == 2))))) : lv_has ls nL (x_lv b0 b (x_s2 lv i v)) := by
  refine ⟨h.1, h.2.1, fun q hq => h.2.2 q ?_⟩
  obtain ⟨z, hz, rfl⟩ := List.mem_map.mp hq
  rcases x_ins_mem hz with rfl | hz
  · exact List.mem_cons_self
  · obtain ⟨h1, h2⟩ := List.mem_filter.mp hz
    refine List.mem_cons.mpr (.inr (List.mem_filter.mpr ⟨List.mem_map.mpr ⟨z, h1, rfl⟩, ?_⟩))
    simpa only [x_v_cat] using h2
theorem x_cut_has {ls : Array Slot} {nL : Nat} {b0 : Nat → Nat} {b : Nat} {lv : xL} (ks : Option (List Nat)) (h : lv_has ls nL (x_lv b0 b lv)) : lv_has ls nL (x_lv b0 b (x_cut ks lv)) := by
  refine ⟨h.1, h.2.1, fun q hq => h.2.2 q ?_⟩
  obtain ⟨z, hz, rfl⟩ := List.mem_map.mp hq
  refine List.mem_map.mpr ⟨z, ?_, rfl⟩
  unfold x_cut at hz
  split at hz
  · exact hz
  · exact (List.mem_filter.mp hz).1
theorem x_ldi_inv {i w n : Nat} {lv : xL} {st : List Value} {k : xL → List Value → Option ρ} (h : x_ldi i w n lv st k = some res) : n = w ∧ ∃ x, x_get lv i = some (.int x) ∧ k lv (.int x :: st) = some res := by
  unfold x_ldi at h
  split at h
  · split at h
    · exact ⟨by assumption, _, by assumption, h⟩
    · exact x_no h
  · exact x_no h
theorem x_ldl_inv {i w n : Nat} {lv : xL} {st : List Value} {k : xL → List Value → Option ρ} (h : x_ldl i w n lv st k = some res) : n = w ∧ ∃ x, x_get lv i = some (.long x) ∧ k lv (.long x :: st) = some res := by
  unfold x_ldl at h
  split at h
  · split at h
    · exact ⟨by assumption, _, by assumption, h⟩
    · exact x_no h
  · exact x_no h
theorem x_lda_inv {i w n : Nat} {lv : xL} {st : List Value} {k : xL → List Value → Option ρ} (h : x_lda i w n lv st k = some res) : n = w ∧ ((∃ x, x_get lv i = some (.ref x) ∧ k lv (.ref x :: st) = some res) ∨ (x_get lv i = some .null ∧ k lv (.null :: st) = some res)) := by
  unfold x_lda at h
  split at h
  · split at h
    · exact ⟨by assumption, .inl ⟨_, by assumption, h⟩⟩
    · exact x_no h
  · split at h
    · exact ⟨by assumption, .inr ⟨by assumption, h⟩⟩
    · exact x_no h
  · exact x_no h
theorem x_sti_inv {i w n : Nat} {lv : xL} {st : List Value} {k : xL → List Value → Option ρ} (h : x_sti i w n lv st k = some res) : n = w ∧ ∃ x r, st = .int x :: r ∧ k (x_s1 lv i (.int x)) r = some res := by
  unfold x_sti at h
  split at h
  · split at h
    · exact ⟨by assumption, _, _, rfl, h⟩
    · exact x_no h
  · exact x_no h
theorem x_stl_inv {i w n : Nat} {lv : xL} {st : List Value} {k : xL → List Value → Option ρ} (h : x_stl i w n lv st k = some res) : n = w ∧ ∃ x r, st = .long x :: r ∧ k (x_s2 lv i (.long x)) r = some res := by
  unfold x_stl at h
  split at h
  · split at h
    · exact ⟨by assumption, _, _, rfl, h⟩
    · exact x_no h
  · exact x_no h
theorem x_sta_inv {i w n : Nat} {lv : xL} {st : List Value} {k : xL → List Value → Option ρ} (h : x_sta i w n lv st k = some res) : n = w ∧ ((∃ x r, st = .ref x :: r ∧ k (x_s1 lv i (.ref x)) r = some res) ∨ ∃ r, st = .null :: r ∧ k (x_s1 lv i .null) r = some res) := by
  unfold x_sta at h
  split at h
  · split at h
    · exact ⟨by assumption, .inl ⟨_, _, rfl, h⟩⟩
    · exact x_no h
  · split at h
    · exact ⟨by assumption, .inr ⟨_, rfl, h⟩⟩
    · exact x_no h
  · exact x_no h
theorem x_inc_inv {i n : Nat} {c : Int} {lv : xL} {st : List Value} {k : xL → List Value → Option ρ} (h : x_inc i c n lv st k = some res) : n = 3 ∧ ∃ x, x_get lv i = some (.int x) ∧ k (x_s1 lv i (.int (x + Int32.ofInt c))) st = some res := by
  unfold x_inc at h
  split at h
  · split at h
    · exact ⟨by assumption, _, by assumption, h⟩
    · exact x_no h
  · exact x_no h
set_option maxHeartbeats 4000000 in
/-- an instruction that reads or writes the frame's own numbers -/
theorem x_loc_ok (hx : p.tables.exec = Jvm.exec) (hb : c.code = cc) {i : Instr} {n nL : Nat} {lv : xL} {st : List Value} {k : xL → List Value → Option ρ} (b0 : Nat → Nat) (b : Nat) (hl : lv_has ls nL (x_lv b0 b lv)) (hd : decode cc pc = .ok (i, n)) (hok : x_stok i nL) (h : x_loc i n lv st k = some res)
    (kk : ∀ (ls' : Array Slot) (lv' : xL) (st' : List Value), lv_has ls' nL (x_lv b0 b lv') → k lv' st' = some res → W p l e R s m args below meth c H locs cells slots Q (F0 m (pc + n) ls' (st'.map (x_v b0 b)))) : W p l e R s m args below meth c H locs cells slots Q (F0 m pc ls (st.map (x_v b0 b))) := by
  cases i with
  | iload j =>
    obtain ⟨rfl, x, h1, h⟩ := x_ldi_inv h
    exact lv_iload hx hb hd (x_get_at hl h1) (kk _ _ _ hl h)
  | iload_n j =>
    obtain ⟨rfl, x, h1, h⟩ := x_ldi_inv h
    exact lv_iload_n hx hb hd rfl (x_get_at hl h1) (kk _ _ _ hl h)
  | lload j =>
    obtain ⟨rfl, x, h1, h⟩ := x_ldl_inv h
    exact lv_lload hx hb hd (x_get_at hl h1) (kk _ _ _ hl h)
  | lload_n j =>
    obtain ⟨rfl, x, h1, h⟩ := x_ldl_inv h
    exact lv_lload_n hx hb hd rfl (x_get_at hl h1) (kk _ _ _ hl h)
  | aload j =>
    obtain ⟨rfl, ⟨x, h1, h⟩ | ⟨h1, h⟩⟩ := x_lda_inv h
    · exact lv_aload hx hb hd (x_get_at hl h1) (kk _ _ _ hl h)
    · exact lv_aloadN hx hb hd (x_get_at hl h1) (kk _ _ _ hl h)
  | aload_n j =>
    obtain ⟨rfl, ⟨x, h1, h⟩ | ⟨h1, h⟩⟩ := x_lda_inv h
    · exact lv_aload_n hx hb hd rfl (x_get_at hl h1) (kk _ _ _ hl h)
    · exact lv_aload_nN hx hb hd rfl (x_get_at hl h1) (kk _ _ _ hl h)
  | istore j =>
    obtain ⟨rfl, x, r, rfl, h5⟩ := x_sti_inv h
    exact lv_istore hx hb hd hl hok rfl (fun ls' hl' => kk ls' _ _ (x_s1_has (v := .int x) hl') h5)
  | istore_n j =>
    obtain ⟨rfl, x, r, rfl, h5⟩ := x_sti_inv h
    exact lv_istore_n hx hb hd rfl hl hok rfl (fun ls' hl' => kk ls' _ _ (x_s1_has (v := .int x) hl') h5)
  | lstore j =>
    obtain ⟨rfl, x, r, rfl, h5⟩ := x_stl_inv h
    exact lv_lstore hx hb hd hl hok rfl (fun ls' hl' => kk ls' _ _ (x_s2_has (v := .long x) hl') h5)
  | lstore_n j =>
    obtain ⟨rfl, x, r, rfl, h5⟩ := x_stl_inv h
    exact lv_lstore_n hx hb hd rfl hl hok rfl (fun ls' hl' => kk ls' _ _ (x_s2_has (v := .long x) hl') h5)
  | astore j =>
    obtain ⟨rfl, ⟨x, r, rfl, h5⟩ | ⟨r, rfl, h5⟩⟩ := x_sta_inv h
    · exact lv_astore hx hb hd hl hok rfl (fun ls' hl' => kk ls' _ _ (x_s1_has (v := .ref x) hl') h5)
    · exact lv_astoreN hx hb hd hl hok rfl (fun ls' hl' => kk ls' _ _ (x_s1_has (v := .null) hl') h5)
  | astore_n j =>
    obtain ⟨rfl, ⟨x, r, rfl, h5⟩ | ⟨r, rfl, h5⟩⟩ := x_sta_inv h
    · exact lv_astore_n hx hb hd rfl hl hok rfl (fun ls' hl' => kk ls' _ _ (x_s1_has (v := .ref x) hl') h5)
    · exact lv_astore_nN hx hb hd rfl hl hok rfl (fun ls' hl' => kk ls' _ _ (x_s1_has (v := .null) hl') h5)
  | iinc j z =>
    obtain ⟨rfl, x, h2, h⟩ := x_inc_inv h
    obtain ⟨q, h3⟩ := x_get_pl (b0 := b0) (b := b) h2
    exact lv_iinc hx hb hd hl h3 rfl hok rfl (fun ls' hl' => kk ls' _ _ (x_s1_has (v := .int _) hl') h)
  | _ => exact x_no h
theorem x_to_inv {pc : Nat} {off : Int} {k : Nat → Option ρ} (h : x_to pc off k = some res) : ∃ t : Nat, (pc : Int) + off = (t : Int) ∧ k t = some res := by
  unfold x_to at h
  split at h
  · exact x_no h
  · exact ⟨_, by omega, h⟩
set_option maxHeartbeats 4000000 in
/-- an instruction that says where it goes on -/
theorem x_br_ok (hx : p.tables.exec = Jvm.exec) (hb : c.code = cc) {i : Instr} {n : Nat} {st : List Value} {k : Nat → List Value → Option ρ} (b0 : Nat → Nat) (b : Nat) (hd : decode cc pc = .ok (i, n)) (h : x_br i n pc st k = some res)
    (kk : ∀ (pc' : Nat) (st' : List Value), k pc' st' = some res → W p l e R s m args below meth c H locs cells slots Q (F0 m pc' ls (st'.map (x_v b0 b)))) : W p l e R s m args below meth c H locs cells slots Q (F0 m pc ls (st.map (x_v b0 b))) := by
  cases i with
  | goto off =>
    simp only [x_br] at h
    split at h
    · rename_i hn; subst hn
      obtain ⟨t, ht, h⟩ := x_to_inv h
      exact lv_goto hx hb hd ht (kk _ _ h)
    · exact x_no h
  | ifCond z off =>
    simp only [x_br] at h
    split at h
    · split at h
      · rename_i hn; subst hn
        obtain ⟨t, ht, h⟩ := x_to_inv h
        cases z with
        | eq => exact lv_if_eq hx hb hd ht (fun hc => kk _ _ (by simpa only [x_c0, if_pos hc] using h)) (fun hc => kk _ _ (by simpa only [x_c0, if_neg hc] using h))
        | ne => exact lv_if_ne hx hb hd ht (fun hc => kk _ _ (by simpa only [x_c0, if_neg hc] using h)) (fun hc => kk _ _ (by simpa only [x_c0, if_pos hc] using h))
        | lt => exact lv_if_lt hx hb hd ht (fun hc => kk _ _ (by simpa only [x_c0, if_pos hc] using h)) (fun hc => kk _ _ (by simpa only [x_c0, if_neg hc] using h))
        | ge => exact lv_if_ge hx hb hd ht (fun hc => kk _ _ (by simpa only [x_c0, if_pos hc] using h)) (fun hc => kk _ _ (by simpa only [x_c0, if_neg hc] using h))
        | gt => exact lv_if_gt hx hb hd ht (fun hc => kk _ _ (by simpa only [x_c0, if_pos hc] using h)) (fun hc => kk _ _ (by simpa only [x_c0, if_neg hc] using h))
        | le => exact lv_if_le hx hb hd ht (fun hc => kk _ _ (by simpa only [x_c0, if_pos hc] using h)) (fun hc => kk _ _ (by simpa only [x_c0, if_neg hc] using h))
      · exact x_no h
    · exact x_no h
  | if_icmp z off =>
    simp only [x_br] at h
    split at h
    · split at h
      · rename_i hn; subst hn
        obtain ⟨t, ht, h⟩ := x_to_inv h
        cases z with
        | eq => exact lv_icmp_eq hx hb hd ht (fun hc => kk _ _ (by simpa only [x_c2, if_pos hc] using h)) (fun hc => kk _ _ (by simpa only [x_c2, if_neg hc] using h))
        | ne => exact lv_icmp_ne hx hb hd ht (fun hc => kk _ _ (by simpa only [x_c2, if_neg hc] using h)) (fun hc => kk _ _ (by simpa only [x_c2, if_pos hc] using h))
        | lt => exact lv_icmp_lt hx hb hd ht (fun hc => kk _ _ (by simpa only [x_c2, if_pos hc] using h)) (fun hc => kk _ _ (by simpa only [x_c2, if_neg hc] using h))
        | ge => exact lv_icmp_ge hx hb hd ht (fun hc => kk _ _ (by simpa only [x_c2, if_pos hc] using h)) (fun hc => kk _ _ (by simpa only [x_c2, if_neg hc] using h))
        | gt => exact lv_icmp_gt hx hb hd ht (fun hc => kk _ _ (by simpa only [x_c2, if_pos hc] using h)) (fun hc => kk _ _ (by simpa only [x_c2, if_neg hc] using h))
        | le => exact lv_icmp_le hx hb hd ht (fun hc => kk _ _ (by simpa only [x_c2, if_pos hc] using h)) (fun hc => kk _ _ (by simpa only [x_c2, if_neg hc] using h))
      · exact x_no h
    · exact x_no h
  | ifnull off =>
    simp only [x_br] at h
    split at h
    · split at h
      · rename_i hn; subst hn
        obtain ⟨t, ht, h⟩ := x_to_inv h
        exact lv_ifnullN hx hb hd ht (kk _ _ h)
      · exact x_no h
    · split at h
      · rename_i hn; subst hn
        exact lv_ifnull hx hb hd (kk _ _ h)
      · exact x_no h
    · exact x_no h
  | ifnonnull off =>
    simp only [x_br] at h
    split at h
    · split at h
      · rename_i hn; subst hn
        exact lv_ifnonnullN hx hb hd (kk _ _ h)
      · exact x_no h
    · split at h
      · rename_i hn; subst hn
        obtain ⟨t, ht, h⟩ := x_to_inv h
        exact lv_ifnonnull hx hb hd ht (kk _ _ h)
      · exact x_no h
    · exact x_no h
  | tableswitch dflt lo hi offs =>
    simp only [x_br] at h
    split at h
    · split at h
      · rename_i hc
        obtain ⟨t, ht, h⟩ := x_to_inv h
        exact lv_tableOut hx hb hd hc ht (kk _ _ h)
      · rename_i hc
        split at h
        · rename_i off ho
          obtain ⟨t, ht, h⟩ := x_to_inv h
          exact lv_tableIn hx hb hd (fun z => hc (.inl z)) (fun z => hc (.inr z)) ho ht (kk _ _ h)
        · exact x_no h
    · exact x_no h
  | lookupswitch dflt ps =>
    simp only [x_br] at h
    split at h
    · split at h
      · rename_i hc
        obtain ⟨t, ht, h⟩ := x_to_inv h
        exact lv_lookup hx hb hd hc rfl ht (kk _ _ h)
      · exact x_no h
    · exact x_no h
  | _ => exact x_no h
end
end
section
/-! The cells of the machine of places, laid over the heap from address b on. -/
def x_rc (b0 : Nat → Nat) (b : Nat) (a : vp_A) : vp_A := match a with
  | (n, .inl f) => (n, .inl f)
  | (n, .inr (.inl f)) => (n, .inr (.inl f))
  | (n, .inr (.inr (.inl f))) => (n, .inr (.inr (.inl f)))
  | (n, .inr (.inr (.inr (.inl f)))) => (n, .inr (.inr (.inr (.inl f))))
  | (n, .inr (.inr (.inr (.inr f)))) => (n, .inr (.inr (.inr (.inr fun i => (f i).map (x_ad b0 b)))))
theorem x_rc_n (b0 : Nat → Nat) (b : Nat) (a : vp_A) : (x_rc b0 b a).1 = a.1 := by
  unfold x_rc
  split <;> rfl
def x_e (ca : FieldType → ClassId) (b0 : Nat → Nat) (b : Nat) (e : xC) : va_E := match e with
  | .inl (ty, a) => .inl (ca ty, x_rc b0 b a)
  | .inr (ci, fs) => .inr (ci, fs.map (x_v b0 b))
def x_ws (ca : FieldType → ClassId) (b0 : Nat → Nat) (b : Nat) : Nat → List xC → va_W
  | _, [] => []
  | a, e :: r => (a, x_e ca b0 b e) :: x_ws ca b0 b (a + 1) r
section
variable {ca : FieldType → ClassId} {b0 : Nat → Nat} {b : Nat}
theorem x_ws_get : ∀ (u : List xC) (a i : Nat), (x_ws ca b0 b a u)[i]? = (u[i]?).map fun e => (a + i, x_e ca b0 b e)
  | [], _, _ => by simp [x_ws]
  | e :: r, a, 0 => by simp [x_ws]
  | e :: r, a, i + 1 => by
    have h := x_ws_get r (a + 1) i
    simp only [x_ws, List.getElem?_cons_succ, h]
    rw [show a + 1 + i = a + (i + 1) by omega]
theorem x_ws_len : ∀ (u : List xC) (a : Nat), (x_ws ca b0 b a u).length = u.length
  | [], _ => rfl
  | e :: r, a => by simp [x_ws, x_ws_len r (a + 1)]
theorem x_ws_set : ∀ (u : List xC) (a i : Nat) (e : xC), (x_ws ca b0 b a u).set i (a + i, x_e ca b0 b e) = x_ws ca b0 b a (u.set i e)
  | [], _, _, _ => by simp [x_ws]
  | z :: r, a, 0, e => by simp [x_ws]
  | z :: r, a, i + 1, e => by
    have h := x_ws_set r (a + 1) i e
    simp only [x_ws, List.set_cons_succ]
    rw [show a + (i + 1) = a + 1 + i by omega, h]
theorem x_ws_app : ∀ (u : List xC) (a : Nat) (e : xC), x_ws ca b0 b a u ++ [(a + u.length, x_e ca b0 b e)] = x_ws ca b0 b a (u ++ [e])
  | [], a, e => by simp [x_ws]
  | z :: r, a, e => by
    have h := x_ws_app r (a + 1) e
    simp only [x_ws, List.cons_append, List.length_cons]
    rw [show a + (r.length + 1) = a + 1 + r.length by omega, h]
theorem x_ws_D (u : List xC) : va_D (fun q => b ≤ q) (x_ws ca b0 b b u) := by
  constructor
  · intro i j p q hi hj hpq
    rw [x_ws_get] at hi hj
    obtain ⟨e1, -, rfl⟩ := Option.map_eq_some_iff.mp hi
    obtain ⟨e2, -, rfl⟩ := Option.map_eq_some_iff.mp hj
    have h : b + i = b + j := hpq
    omega
  · intro k q hk
    rw [x_ws_get] at hk
    obtain ⟨e, -, rfl⟩ := Option.map_eq_some_iff.mp hk
    show b ≤ b + k
    omega
theorem x_ws_at {u : List xC} {k : Nat} {e : xC} (h : u[k]? = some e) : (x_ws ca b0 b b u)[k]? = some (b + k, x_e ca b0 b e) := by
  rw [x_ws_get, h]
  rfl
theorem x_has {D : va_G} {cl : List vw_C} {q : Nat} {E : va_E} {H : Heap} (h : va_at D cl (q, E) H) : q < H.size := by
  cases E with
  | inl a =>
    have h1 : H[q]? = some (vp_cell a.1 a.2) := h
    exact (Array.getElem?_eq_some_iff.mp h1).1
  | inr o =>
    obtain ⟨r, -, cell, h1, -⟩ := h
    exact (Array.getElem?_eq_some_iff.mp h1).1
theorem x_fresh {D : va_G} {cl : List vw_C} {u : List xC} {H1 : Heap} {q : Nat} {E : va_E} (hP : va_P D cl (x_ws ca b0 b b u ++ [(q, E)]) H1) (hD : va_D (fun q => b ≤ q) (x_ws ca b0 b b u ++ [(q, E)])) (hz : H1.size ≤ b + u.length + 1) : q = b + u.length := by
  have hlen : (x_ws ca b0 b b u).length = u.length := x_ws_len u b
  have hq : (x_ws ca b0 b b u ++ [(q, E)])[u.length]? = some (q, E) := by
    rw [List.getElem?_append_right (by omega), hlen]
    simp
  have h1 : b ≤ q := hD.2 _ _ hq
  have h3 : q < H1.size := x_has (hP _ _ hq)
  rcases Nat.lt_or_ge q (b + u.length) with h | h
  · obtain ⟨k, rfl⟩ : ∃ k, q = b + k := ⟨q - b, by omega⟩
    have hk : k < u.length := by omega
    have h4 : (x_ws ca b0 b b u ++ [(b + k, E)])[k]? = some (b + k, x_e ca b0 b u[k]) := by
      rw [List.getElem?_append_left (by omega)]
      exact x_ws_at (List.getElem?_eq_getElem hk)
    have h5 := hD.1 _ _ _ _ h4 hq rfl
    omega
  · omega
end
theorem x_sz_set : ∀ (u : List xC) (k : Nat) (e e' : xC), u[k]? = some e → x_sz1 e' = x_sz1 e → x_sz (u.set k e') = x_sz u
  | [], _, _, _, h, _ => by simp at h
  | z :: r, 0, e, e', h, hs => by
    have h1 : z = e := by simpa using h
    subst h1
    simp [x_sz, hs]
  | z :: r, k + 1, e, e', h, hs => by
    have h1 := x_sz_set r k e e' (by simpa using h) hs
    simp only [x_sz, List.set_cons_succ, List.map_cons, List.sum_cons] at h1 ⊢
    omega
theorem x_sz_app (u : List xC) (e : xC) : x_sz (u ++ [e]) = x_sz u + x_sz1 e := by simp [x_sz]
def x_okc (tyl : List FieldType) (e : xC) : Prop := match e with
  | .inl z => z.1 ∈ tyl
  | .inr _ => True
def x_oku (tyl : List FieldType) (u : List xC) : Prop := ∀ e ∈ u, x_okc tyl e
theorem x_oku_set {tyl : List FieldType} {u : List xC} {k : Nat} {e : xC} (h : x_oku tyl u) (he : x_okc tyl e) : x_oku tyl (u.set k e) := by
  intro z hz
  rcases List.mem_or_eq_of_mem_set hz with h1 | h1
  · exact h z h1
  · rw [h1]; exact he
theorem x_oku_app {tyl : List FieldType} {u : List xC} {e : xC} (h : x_oku tyl u) (he : x_okc tyl e) : x_oku tyl (u ++ [e]) := by
  intro z hz
  rcases List.mem_append.mp hz with h1 | h1
  · exact h z h1
  · rw [List.mem_singleton.mp h1]; exact he
theorem x_oku_at {tyl : List FieldType} {u : List xC} {k : Nat} {e : xC} (h : x_oku tyl u) (hk : u[k]? = some e) : x_okc tyl e := h e (List.mem_of_getElem? hk)
/-- the cells of a frame whose method began with u0 and has u now -/
def x_Inv (D : va_G) (cl : List vw_C) (tyl : List FieldType) (ca : FieldType → ClassId) (b0 : Nat → Nat) (b : Nat) (s : State) (u0 u : List xC) (H : Heap) (locs : List Loc) (cells slots : Nat) : Prop :=
  va_P D cl (x_ws ca b0 b b u) H ∧ va_S (fun q => b ≤ q) s.heap H locs ∧ cells + u0.length = u.length ∧ slots + x_sz u0 = x_sz u ∧ x_oku tyl u
/-- the tables of what is old: static fields (class, name, type, place), texts (class, entry, text, place), links of nest mates, static fields' numbers -/
abbrev xT : Type := List (String × String × String × Nat) × List (String × Nat × String × Nat) × List (String × Nat × MethodName × String) × List (String × String × String × Value)
def x_len (scr : xZ) : List Nat := [(scr.2 4).length, (scr.2 5).length, (scr.2 6).length, (scr.2 7).length]
def x_byt (scr : xZ) : List (List Int32) := [scr.2 4, scr.2 5, scr.2 6, scr.2 7]
def x_O (os : xT) (b0 : Nat → Nat) (b : Nat) (scr : xZ) (U : State) (H : Heap) : Prop :=
  (∀ p, p < 4 → va_T .int (b0 p) (scr.1 p).1 (fun j => .int ((scr.1 p).2 j)) (fun q => b ≤ q) U H) ∧ (∀ q ∈ os.1, va_Z q.1 q.2.1 q.2.2.1 (.ref (b0 q.2.2.2)) (fun q => b ≤ q) U H) ∧ (∀ q ∈ os.2.1, vk_R q.1 q.2.1 q.2.2.1 (b0 q.2.2.2) U) ∧ (∀ q ∈ os.2.2.1, va_Nw (.methodLinkNest q.1 q.2.1 q.2.2.1 q.2.2.2) U) ∧ (∀ q ∈ os.2.2.2, va_Z q.1 q.2.1 q.2.2.1 q.2.2.2 (fun q => b ≤ q) U H) ∧ ∃ adV, vk_S 4 (x_len scr) (x_byt scr) (fun i => b0 (4 + i)) adV (fun q => b ≤ q) U H
theorem x_O.kept {os : xT} {b0 : Nat → Nat} {b : Nat} {scr : xZ} {U : State} {H H1 : Heap} (h : x_O os b0 b scr U H) (hq : ∀ a : Nat, a < H.size → ¬ b ≤ a → H1[a]? = H[a]?) : x_O os b0 b scr U H1 := by
  obtain ⟨h1, h2, h3, h5, h6, adV, h4⟩ := h
  refine ⟨fun p hp => (h1 p hp).kept hq, fun q hm => ?_, h3, h5, fun q hm => ?_, adV, h4.kept hq⟩
  · obtain ⟨cf, kf, fi, f, a, cell, g1, g2, g3, g4, g5, g6, g7, g8⟩ := h2 q hm
    exact ⟨cf, kf, fi, f, a, cell, g1, g2, g3, g4, by rw [hq a (Array.getElem?_eq_some_iff.mp g5).1 g8]; exact g5, g6, g7, g8⟩
  · obtain ⟨cf, kf, fi, f, a, cell, g1, g2, g3, g4, g5, g6, g7, g8⟩ := h6 q hm
    exact ⟨cf, kf, fi, f, a, cell, g1, g2, g3, g4, by rw [hq a (Array.getElem?_eq_some_iff.mp g5).1 g8]; exact g5, g6, g7, g8⟩
theorem x_O.moved {os : xT} {b0 : Nat → Nat} {b : Nat} {scr : xZ} {u U : State} {H : Heap} (hvm : u.vm.Alike U.vm) (hR : ∀ q ∈ os.2.1, vk_R q.1 q.2.1 q.2.2.1 (b0 q.2.2.2) u → vk_R q.1 q.2.1 q.2.2.1 (b0 q.2.2.2) U) (hN : ∀ q ∈ os.2.2.1, va_Nw (.methodLinkNest q.1 q.2.1 q.2.2.1 q.2.2.2) u → va_Nw (.methodLinkNest q.1 q.2.1 q.2.2.1 q.2.2.2) U) (h : x_O os b0 b scr u H) : x_O os b0 b scr U H := by
  obtain ⟨h1, h2, h3, h5, h6, adV, h4⟩ := h
  exact ⟨fun p hp => (h1 p hp).moved hvm, fun q hm => (h2 q hm).moved hvm, fun q hm => hR q hm (h3 q hm), fun q hm => hN q hm (h5 q hm), fun q hm => (h6 q hm).moved hvm, adV, h4.moved hvm⟩
-- what must be known of the tables
def x_lk (T : List Jvm.Cond) (own : String) (idx : Nat) (q : String × String × String × Bool) : Prop := Jvm.Cond.fieldLink own idx q.1 q.2.1 q.2.2.1 ∈ T ∨ ∃ host, Jvm.Cond.fieldLinkNest own idx q.1 q.2.1 q.2.2.1 host ∈ T
def x_tag (t : Nat) (ty : FieldType) : Prop := (t = 0 ∧ ty = .int) ∨ (t = 1 ∧ ty = .long) ∨ (t = 2 ∧ ty = .boolean) ∨ (t = 3 ∧ ((∃ C, ty = .object C) ∨ ∃ z, ty = .array z))
/-- the kinds of object: their fields' words, types, names, first values -/
def x_CL (T : List Jvm.Cond) (cl : List vw_C) (tyf : Nat → Nat → FieldType) (df : Nat → List Value) : Prop := ∀ (ci : Nat) (C : String) (F : u_T) (N : Nat), cl[ci]? = some (C, F, N) →
  (∀ w ∈ u_ws C F N, w ∈ T) ∧ (∀ k, k < N → parseFieldDescriptor (F k).2.2.1 = some (tyf ci k)) ∧ (∀ a, a < N → ∀ b, b < N → a ≠ b → (F a).2.1 ≠ (F b).2.1) ∧ (∀ j, j < N → defaultValue (tyf ci j) = vp_V (df ci) j) ∧ (df ci).length = N
/-- a call's words: kinds as in x_inv -/
def x_lkC (os : xT) (T : List Jvm.Cond) (cl : List vw_C) (P : Nat → Option xM) (own : String) (idx : Nat) (q : Nat × Nat × Nat × Nat) : Prop :=
  ∃ M : xM, P q.1 = some M ∧ Jvm.Cond.initialized M.1.cls ∈ T ∧ Jvm.Cond.code M.1 M.2.1 M.2.2.1 M.2.2.2.1 ∈ T ∧ (M.1.cls ≠ "java/lang/invoke/MethodHandle" ∧ M.1.cls ≠ "java/lang/invoke/VarHandle" ∧ (parseMethodDescriptor M.1.desc).map (fun d => d.parameters.length) = some q.2.1) ∧
    (((q.2.2.1 = 1 ∨ q.2.2.1 = 2 ∨ q.2.2.1 = 3) ∧ Jvm.Cond.methodLink own idx M.1 ∈ T) ∨ ((q.2.2.1 = 4 ∨ q.2.2.1 = 5 ∨ q.2.2.1 = 6) ∧ ∃ host, (own, idx, M.1, host) ∈ os.2.2.1)) ∧
    ((q.2.2.1 = 1 ∨ q.2.2.1 = 4) → Jvm.Cond.instanceMethod M.1 ∈ T ∧ Jvm.Cond.selects M.1.cls M.1 M.1 ∈ T ∧ ∃ (F : u_T) (N : Nat), cl[q.2.2.2]? = some (M.1.cls, F, N)) ∧
    ((q.2.2.1 = 2 ∨ q.2.2.1 = 5) → M.1.name = "<init>" ∧ M.2.2.2.1 = none ∧ Jvm.Cond.instanceMethod M.1 ∈ T) ∧
    ((q.2.2.1 = 3 ∨ q.2.2.1 = 6) → Jvm.Cond.static M.1 ∈ T)
/-- the words of what is no method of ours -/
def x_lkB (T : List Jvm.Cond) (own : String) (idx k : Nat) : Prop :=
  (k = 7 ∧ Jvm.Cond.methodLink own idx arraycopyName ∈ T ∧ Jvm.Cond.native arraycopyName ∈ T ∧ Jvm.Cond.static arraycopyName ∈ T ∧ Jvm.Cond.initialized "java/lang/System" ∈ T) ∨
  (k = 10 ∧ Jvm.Cond.methodLink own idx Lib.Math.max.name ∈ T ∧ Jvm.Cond.static Lib.Math.max.name ∈ T ∧ Jvm.Cond.initialized "java/lang/Math" ∈ T ∧ Jvm.Cond.code Lib.Math.max.name Lib.Math.max.code 2 (some .int) ∈ T) ∨
  (k = 11 ∧ Jvm.Cond.methodLink own idx Lib.Math.min.name ∈ T ∧ Jvm.Cond.static Lib.Math.min.name ∈ T ∧ Jvm.Cond.initialized "java/lang/Math" ∈ T ∧ Jvm.Cond.code Lib.Math.min.name Lib.Math.min.code 2 (some .int) ∈ T) ∨
  (k = 12 ∧ Jvm.Cond.methodLink own idx Lib.MathLoose.max_long.x ∈ T ∧ Jvm.Cond.static Lib.MathLoose.max_long.x ∈ T ∧ Jvm.Cond.initialized "java/lang/Math" ∈ T ∧ Jvm.Cond.code Lib.MathLoose.max_long.x Lib.MathLoose.max_long.code 4 (some .long) ∈ T) ∨
  (k = 13 ∧ Jvm.Cond.methodLink own idx Lib.MathLoose.min_long.x ∈ T ∧ Jvm.Cond.static Lib.MathLoose.min_long.x ∈ T ∧ Jvm.Cond.initialized "java/lang/Math" ∈ T ∧ Jvm.Cond.code Lib.MathLoose.min_long.x Lib.MathLoose.min_long.code 4 (some .long) ∈ T) ∨
  (k = 14 ∧ Jvm.Cond.methodLink own idx Lib.MathLoose.abs_long.x ∈ T ∧ Jvm.Cond.static Lib.MathLoose.abs_long.x ∈ T ∧ Jvm.Cond.initialized "java/lang/Math" ∈ T ∧ Jvm.Cond.code Lib.MathLoose.abs_long.x Lib.MathLoose.abs_long.code 2 (some .long) ∈ T)
/-- length and charAt of a text -/
def x_yL : MethodName := ⟨"java/lang/String", "length", "()I"⟩
def x_yC : MethodName := ⟨"java/lang/String", "charAt", "(I)C"⟩
def x_lkS (T : List Jvm.Cond) (own : String) (idx k : Nat) (cL cC : ByteArray) : Prop :=
  (k = 8 ∧ Jvm.Cond.methodLink own idx x_yL ∈ T ∧ Jvm.Cond.initialized "java/lang/String" ∈ T ∧ Jvm.Cond.code x_yL cL 1 (some .int) ∈ T ∧ Jvm.Cond.instanceMethod x_yL ∈ T ∧ Jvm.Cond.selects "java/lang/String" x_yL x_yL ∈ T) ∨
  (k = 9 ∧ Jvm.Cond.methodLink own idx x_yC ∈ T ∧ Jvm.Cond.initialized "java/lang/String" ∈ T ∧ Jvm.Cond.code x_yC cC 2 (some .char) ∈ T ∧ Jvm.Cond.instanceMethod x_yC ∈ T ∧ Jvm.Cond.selects "java/lang/String" x_yC x_yC ∈ T)
def x_okI (os : xT) (cL cC : ByteArray) (T : List Jvm.Cond) (cl : List vw_C) (tyf : Nat → Nat → FieldType) (tyl : List FieldType) (P : Nat → Option xM) (M : xM) (pc : Nat) (x : xI) : Prop :=
  decode M.2.1 pc = .ok (x.1, x.2.1) ∧ x_stok x.1 M.2.2.1 ∧ match x.1 with
  | .getfield idx => ∃ (C : String) (F : u_T) (N : Nat), cl[x.2.2.1.1]? = some (C, F, N) ∧ x.2.2.1.2.1 < N ∧ x_lk T M.1.cls idx (F x.2.2.1.2.1)
  | .putfield idx => ∃ (C : String) (F : u_T) (N : Nat), cl[x.2.2.1.1]? = some (C, F, N) ∧ x.2.2.1.2.1 < N ∧ x_tag x.2.2.1.2.2.1 (tyf x.2.2.1.1 x.2.2.1.2.1) ∧
      (((F x.2.2.1.2.1).2.2.2 = false ∧ x_lk T M.1.cls idx (F x.2.2.1.2.1)) ∨ ((F x.2.2.1.2.1).2.2.2 = true ∧ M.1.name = "<init>" ∧ (F x.2.2.1.2.1).1 = M.1.cls ∧ Jvm.Cond.fieldLink M.1.cls idx (F x.2.2.1.2.1).1 (F x.2.2.1.2.1).2.1 (F x.2.2.1.2.1).2.2.1 ∈ T))
  | .new idx => ∃ (C : String) (F : u_T) (N : Nat), cl[x.2.2.1.1]? = some (C, F, N) ∧ Jvm.Cond.classLink M.1.cls idx C ∈ T ∧ Jvm.Cond.instantiable C N ∈ T ∧ Jvm.Cond.initialized C ∈ T
  | .newarray t => Jvm.Cond.arrayClass (newarray.typeOf t) ∈ T ∧ newarray.typeOf t ∈ tyl
  | .ldc idx => (∃ v, x.2.2.2.1 = .int v ∧ Jvm.Cond.constant M.1.cls idx v ∈ T) ∨ ∃ tx p, x.2.2.2.1 = .ref p ∧ p < 8 ∧ (M.1.cls, idx, tx, p) ∈ os.2.1
  | .ldc_w idx => ∃ v, x.2.2.2.1 = .int v ∧ Jvm.Cond.constant M.1.cls idx v ∈ T
  | .getstatic idx => ∃ C n d, (C, n, d, x.2.2.1.1) ∈ os.1 ∧ x_lk T M.1.cls idx (C, n, d, true)
  | .ldc2_w idx => ∃ v, x.2.2.2.1 = .long v ∧ Jvm.Cond.constantLong M.1.cls idx v ∈ T
  | .invokevirtual idx => x_lkS T M.1.cls idx x.2.2.1.2.2.1 cL cC ∨ (x.2.2.1.2.2.1 = 1 ∨ x.2.2.1.2.2.1 = 4) ∧ x_lkC os T cl P M.1.cls idx x.2.2.1
  | .invokespecial idx => (x.2.2.1.2.2.1 = 0 ∧ Jvm.Cond.methodLink M.1.cls idx objectInit ∈ T ∧ Jvm.Cond.instanceMethod objectInit ∈ T ∧ Jvm.Cond.code objectInit ⟨#[0xb1]⟩ 1 none ∈ T) ∨ ((x.2.2.1.2.2.1 = 2 ∨ x.2.2.1.2.2.1 = 5) ∧ x_lkC os T cl P M.1.cls idx x.2.2.1)
  | .invokestatic idx => x_lkB T M.1.cls idx x.2.2.1.2.2.1 ∨ (x.2.2.1.2.2.1 = 3 ∨ x.2.2.1.2.2.1 = 6) ∧ x_lkC os T cl P M.1.cls idx x.2.2.1
  | _ => True
/-- what holds of a frame of the method M that began at the state s with the cells u0 -/
def x_Fix (os : xT) (T : List Jvm.Cond) (D : va_G) (cl : List vw_C) (tyl : List FieldType) (ca : FieldType → ClassId) (b0 : Nat → Nat) (b : Nat) (scr : xZ) (u0 : List xC) (M : xM) (p : Program) (s : State) (m : MethodId) (args : Array Value) (meth : Method) (c : Code) : Prop :=
  p.tables.exec = Jvm.exec ∧ c.code = M.2.1 ∧ c.maxLocals = M.2.2.1 ∧ meth.sig.returnType = M.2.2.2.1 ∧ meth.name = M.1.name ∧ s.vm.findClass M.1.cls = some m.cls ∧ (∀ w ∈ T, w.before args s = true) ∧ va_K D cl (tyl.map fun t => (ca t, t)) s ∧ x_O os b0 b scr s s.heap ∧ s.heap.size = b + u0.length ∧ meth.locks = false
end
section
section
variable {ρ : Type} {res : ρ} {n : Nat} {st : List Value} {u : List xC}
theorem x_in_inv {i : Int32} {N : Nat} {a : Option ρ} (h : x_in i N a = some res) : vp_in i N ∧ a = some res := by
  unfold x_in at h
  split at h
  · exact x_no h
  · exact ⟨by assumption, h⟩
theorem x_gf_inv {q : Nat × Nat × Nat × Nat} {k : List Value → Option ρ} (h : x_gf q n st u k = some res) : n = 3 ∧ ∃ p r fs v, st = .ref (p + 8) :: r ∧ u[p]? = some (.inr (q.1, fs)) ∧ fs[q.2.1]? = some v ∧ k (v :: r) = some res := by
  unfold x_gf at h
  split at h
  · split at h
    · split at h
      · rename_i hc
        obtain ⟨h1, rfl⟩ := hc
        split at h
        · exact ⟨h1, _, _, _, _, rfl, by assumption, by assumption, h⟩
        · exact x_no h
      · exact x_no h
    · exact x_no h
  · exact x_no h
theorem x_fit_inv {t : Nat} {v : Value} {a : Option ρ} (h : x_fit t v a = some res) : a = some res ∧ ∀ (ty : FieldType) (b0 : Nat → Nat) (b : Nat), x_tag t ty → narrow ty (x_v b0 b v) = x_v b0 b v ∧ fits ty (x_v b0 b v) = true := by
  unfold x_fit at h
  split at h
  · split at h
    · rename_i ht
      subst ht
      refine ⟨h, fun ty b0 b hz => ?_⟩
      rcases hz with ⟨-, rfl⟩ | ⟨h1, -⟩ | ⟨h1, -⟩ | ⟨h1, -⟩
      · exact ⟨rfl, rfl⟩
      all_goals exact absurd h1 (by decide)
    · split at h
      · rename_i ht
        subst ht
        split at h
        · rename_i hx
          refine ⟨h, fun ty b0 b hz => ?_⟩
          rcases hz with ⟨h1, -⟩ | ⟨h1, -⟩ | ⟨-, rfl⟩ | ⟨h1, -⟩
          · exact absurd h1 (by decide)
          · exact absurd h1 (by decide)
          · rcases hx with rfl | rfl <;> exact ⟨rfl, rfl⟩
          · exact absurd h1 (by decide)
        · exact x_no h
      · exact x_no h
  · split at h
    · rename_i ht
      subst ht
      refine ⟨h, fun ty b0 b hz => ?_⟩
      rcases hz with ⟨h1, -⟩ | ⟨-, rfl⟩ | ⟨h1, -⟩ | ⟨h1, -⟩
      · exact absurd h1 (by decide)
      · exact ⟨rfl, rfl⟩
      all_goals exact absurd h1 (by decide)
    · exact x_no h
  · split at h
    · rename_i ht
      subst ht
      refine ⟨h, fun ty b0 b hz => ?_⟩
      rcases hz with ⟨h1, -⟩ | ⟨h1, -⟩ | ⟨h1, -⟩ | ⟨-, ⟨C, rfl⟩ | ⟨z, rfl⟩⟩
      · exact absurd h1 (by decide)
      · exact absurd h1 (by decide)
      · exact absurd h1 (by decide)
      all_goals exact ⟨rfl, rfl⟩
    · exact x_no h
  · split at h
    · rename_i ht
      subst ht
      refine ⟨h, fun ty b0 b hz => ?_⟩
      rcases hz with ⟨h1, -⟩ | ⟨h1, -⟩ | ⟨h1, -⟩ | ⟨-, ⟨C, rfl⟩ | ⟨z, rfl⟩⟩
      · exact absurd h1 (by decide)
      · exact absurd h1 (by decide)
      · exact absurd h1 (by decide)
      all_goals exact ⟨rfl, rfl⟩
    · exact x_no h
  · exact x_no h
theorem x_pf_inv {q : Nat × Nat × Nat × Nat} {k : List Value → List xC → Option ρ} (h : x_pf q n st u k = some res) : n = 3 ∧ ∃ p r fs v, st = v :: .ref (p + 8) :: r ∧ u[p]? = some (.inr (q.1, fs)) ∧ q.2.1 < fs.length ∧ x_fit q.2.2.1 v (k r (u.set p (.inr (q.1, fs.set q.2.1 v)))) = some res := by
  unfold x_pf at h
  split at h
  · split at h
    · split at h
      · rename_i hc
        obtain ⟨h1, rfl, h2⟩ := hc
        exact ⟨h1, _, _, _, _, rfl, by assumption, h2, h⟩
      · exact x_no h
    · exact x_no h
  · exact x_no h
theorem x_ial_inv {scr : xZ} {k : List Value → Option ρ} (h : x_ial scr n st u k = some res) : n = 1 ∧ ((∃ i p r, st = .int i :: .ref p :: r ∧ p < 4 ∧ vp_in i (scr.1 p).1 ∧ k (.int ((scr.1 p).2 i.toNatClampNeg) :: r) = some res) ∨ ∃ i p r N f, st = .int i :: .ref (p + 8) :: r ∧ u[p]? = some (.inl (.int, N, .inl f)) ∧ vp_in i N ∧ k (.int (f i.toNatClampNeg) :: r) = some res) := by
  unfold x_ial at h
  split at h
  · split at h
    · split at h
      · obtain ⟨h1, h⟩ := x_in_inv h
        exact ⟨by assumption, .inr ⟨_, _, _, _, _, rfl, by assumption, h1, h⟩⟩
      · exact x_no h
    · exact x_no h
  · split at h
    · rename_i hc
      obtain ⟨h1, h⟩ := x_in_inv h
      exact ⟨hc.1, .inl ⟨_, _, _, rfl, hc.2, h1, h⟩⟩
    · exact x_no h
  · exact x_no h
theorem x_lal_inv {k : List Value → Option ρ} (h : x_lal n st u k = some res) : n = 1 ∧ ∃ i p r N f, st = .int i :: .ref (p + 8) :: r ∧ u[p]? = some (.inl (.long, N, .inr (.inl f))) ∧ vp_in i N ∧ k (.long (f i.toNatClampNeg) :: r) = some res := by
  unfold x_lal at h
  split at h
  · split at h
    · split at h
      · obtain ⟨h1, h⟩ := x_in_inv h
        exact ⟨by assumption, _, _, _, _, _, rfl, by assumption, h1, h⟩
      · exact x_no h
    · exact x_no h
  · exact x_no h
theorem x_bal_inv {k : List Value → Option ρ} (h : x_bal n st u k = some res) : n = 1 ∧ ∃ ty i p r N f, (ty = .boolean ∨ ty = .byte) ∧ st = .int i :: .ref (p + 8) :: r ∧ u[p]? = some (.inl (ty, N, .inl f)) ∧ vp_in i N ∧ k (.int (f i.toNatClampNeg) :: r) = some res := by
  unfold x_bal at h
  split at h
  · split at h
    · split at h
      · obtain ⟨h1, h⟩ := x_in_inv h
        exact ⟨by assumption, _, _, _, _, _, _, .inl rfl, rfl, by assumption, h1, h⟩
      · exact x_no h
    · split at h
      · obtain ⟨h1, h⟩ := x_in_inv h
        exact ⟨by assumption, _, _, _, _, _, _, .inr rfl, rfl, by assumption, h1, h⟩
      · exact x_no h
    · exact x_no h
  · exact x_no h
theorem x_ias_inv {k : List Value → List xC → Option ρ} (h : x_ias n st u k = some res) : n = 1 ∧ ∃ x i p r N f, st = .int x :: .int i :: .ref (p + 8) :: r ∧ u[p]? = some (.inl (.int, N, .inl f)) ∧ vp_in i N ∧ k r (u.set p (.inl (.int, N, .inl (upd f i.toNatClampNeg x)))) = some res := by
  unfold x_ias at h
  split at h
  · split at h
    · split at h
      · obtain ⟨h1, h⟩ := x_in_inv h
        exact ⟨by assumption, _, _, _, _, _, _, rfl, by assumption, h1, h⟩
      · exact x_no h
    · exact x_no h
  · exact x_no h
theorem x_las_inv {k : List Value → List xC → Option ρ} (h : x_las n st u k = some res) : n = 1 ∧ ∃ x i p r N f, st = .long x :: .int i :: .ref (p + 8) :: r ∧ u[p]? = some (.inl (.long, N, .inr (.inl f))) ∧ vp_in i N ∧ k r (u.set p (.inl (.long, N, .inr (.inl (vp_updL f i.toNatClampNeg x))))) = some res := by
  unfold x_las at h
  split at h
  · split at h
    · split at h
      · obtain ⟨h1, h⟩ := x_in_inv h
        exact ⟨by assumption, _, _, _, _, _, _, rfl, by assumption, h1, h⟩
      · exact x_no h
    · exact x_no h
  · exact x_no h
theorem x_bas_inv {k : List Value → List xC → Option ρ} (h : x_bas n st u k = some res) : n = 1 ∧ ∃ ty x i p r N f, (ty = .boolean ∨ ty = .byte) ∧ st = .int x :: .int i :: .ref (p + 8) :: r ∧ u[p]? = some (.inl (ty, N, .inl f)) ∧ vp_in i N ∧ k r (u.set p (.inl (ty, N, .inl (upd f i.toNatClampNeg (vp_nar ty x))))) = some res := by
  unfold x_bas at h
  split at h
  · split at h
    · split at h
      · obtain ⟨h1, h⟩ := x_in_inv h
        exact ⟨by assumption, _, _, _, _, _, _, _, .inl rfl, rfl, by assumption, h1, h⟩
      · exact x_no h
    · split at h
      · obtain ⟨h1, h⟩ := x_in_inv h
        exact ⟨by assumption, _, _, _, _, _, _, _, .inr rfl, rfl, by assumption, h1, h⟩
      · exact x_no h
    · exact x_no h
  · exact x_no h
theorem x_alen_inv {scr : xZ} {k : List Value → Option ρ} (h : x_alen scr n st u k = some res) : n = 1 ∧ ((∃ p r, st = .ref p :: r ∧ p < 4 ∧ k (.int (Int32.ofNat (scr.1 p).1) :: r) = some res) ∨ ∃ p r ty a, st = .ref (p + 8) :: r ∧ u[p]? = some (.inl (ty, a)) ∧ k (.int (Int32.ofNat a.1) :: r) = some res) := by
  unfold x_alen at h
  split at h
  · split at h
    · split at h
      · exact ⟨by assumption, .inr ⟨_, _, _, _, rfl, by assumption, h⟩⟩
      · exact x_no h
    · exact x_no h
  · split at h
    · rename_i hc
      exact ⟨hc.1, .inl ⟨_, _, rfl, hc.2, h⟩⟩
    · exact x_no h
  · exact x_no h
theorem x_ad_old (b0 : Nat → Nat) (b : Nat) {p : Nat} (h : p < 8) : x_ad b0 b p = b0 p := by
  unfold x_ad
  split
  · omega
  · rfl
theorem x_v_old (b0 : Nat → Nat) (b : Nat) {p : Nat} (h : p < 8) : x_v b0 b (.ref p) = .ref (b0 p) := by
  show Value.ref (x_ad b0 b p) = _
  rw [x_ad_old b0 b h]
theorem x_zero_inv {t : ArrayType} {N : Nat} {k : FieldType → vp_A → Option ρ} (h : x_zero t N k = some res) : ∃ a : vp_A, a.1 = N ∧ (∀ cA : ClassId, vp_cell cA a = arrV cA N (fun _ => defaultValue (newarray.typeOf t))) ∧ (∀ (b0 : Nat → Nat) (b : Nat), x_rc b0 b a = a) ∧ componentBytes (newarray.typeOf t) ≤ 8 ∧ (newarray.typeOf t = .int ∨ newarray.typeOf t = .long ∨ newarray.typeOf t = .boolean ∨ newarray.typeOf t = .byte) ∧ k (newarray.typeOf t) a = some res := by
  cases t with
  | int => exact ⟨_, rfl, fun _ => rfl, fun _ _ => rfl, by decide, .inl rfl, h⟩
  | long => exact ⟨_, rfl, fun _ => rfl, fun _ _ => rfl, by decide, .inr (.inl rfl), h⟩
  | boolean => exact ⟨_, rfl, fun _ => rfl, fun _ _ => rfl, by decide, .inr (.inr (.inl rfl)), h⟩
  | byte => exact ⟨_, rfl, fun _ => rfl, fun _ _ => rfl, by decide, .inr (.inr (.inr rfl)), h⟩
  | _ => exact x_no h
theorem x_na_inv {t : ArrayType} {k : List Value → List xC → Option ρ} (h : x_na t n st u k = some res) : n = 2 ∧ ∃ c r, st = .int c :: r ∧ ¬ c < 0 ∧ c.toNatClampNeg ≤ 1000000 ∧ x_zero t c.toNatClampNeg (fun ty a => k (.ref (u.length + 8) :: r) (u ++ [.inl (ty, a)])) = some res := by
  unfold x_na at h
  split at h
  · split at h
    · split at h
      · exact x_no h
      · rename_i hc
        exact ⟨by assumption, _, _, rfl, fun z => hc (.inl z), by omega, h⟩
    · exact x_no h
  · exact x_no h
end
theorem x_v_def (b0 : Nat → Nat) (b : Nat) (t : FieldType) : x_v b0 b (defaultValue t) = defaultValue t := by cases t <;> rfl
theorem x_V_map (b0 : Nat → Nat) (b : Nat) (fs : List Value) (j : Nat) : vp_V (fs.map (x_v b0 b)) j = x_v b0 b (vp_V fs j) := by
  unfold vp_V
  rw [List.getD_eq_getElem?_getD, List.getD_eq_getElem?_getD, List.getElem?_map]
  cases fs[j]? <;> rfl
section
variable {p : Program} {l : Launch} {e : Env} {R : Room} {s : State} {m : MethodId} {args : Array Value} {below : List Frame} {meth : Method} {c : Code} {H : Heap} {locs : List Loc} {cells slots : Nat} {Q : State → Prop}
variable {pc : Nat} {ls : Array Slot} {res : xR}
/-- how large the heap may be -/
theorem x_size {g : JFrame} (k : H.size ≤ s.heap.size + cells → W p l e R s m args below meth c H locs cells slots Q g) : W p l e R s m args below meth c H locs cells slots Q g := by
  intro T hT X
  exact k (by rw [← hT]; exact X.heapSize) T hT X
theorem x_tyAt {tyl : List FieldType} {ca : FieldType → ClassId} {ty : FieldType} (h : ty ∈ tyl) : ∃ t0 : Nat, (tyl.map fun t => (ca t, t))[t0]? = some (ca ty, ty) := by
  obtain ⟨k, hk⟩ := List.mem_iff_getElem?.mp h
  exact ⟨k, by rw [List.getElem?_map, hk]; rfl⟩
set_option maxHeartbeats 8000000 in
set_option maxRecDepth 100000 in
/-- an instruction over the cells -/
theorem x_heap_ok {os : xT} {cL cC : ByteArray} {T : List Jvm.Cond} {D : va_G} {cl : List vw_C} {tyf : Nat → Nat → FieldType} {tyl : List FieldType} {ca : FieldType → ClassId} {b0 : Nat → Nat} {b : Nat} {scr : xZ} {df : Nat → List Value} {P : Nat → Option xM} {u0 u : List xC} {M : xM} {x : xI} {st : List Value} {k : Nat → List Value → List xC → Option xR}
    (hCL : x_CL T cl tyf df) (hF : x_Fix os T D cl tyl ca b0 b scr u0 M p s m args meth c) (hok : x_okI os cL cC T cl tyf tyl P M pc x) (hI : x_Inv D cl tyl ca b0 b s u0 u H locs cells slots) (h : x_heap scr df x pc st u k = some res)
    (hroom : ∀ pc' st' u', k pc' st' u' = some res → u'.length ≤ R.cells + u0.length ∧ x_sz u' ≤ R.slots + x_sz u0)
    (kk : ∀ pc' st' u' H' locs' cells' slots', k pc' st' u' = some res → x_Inv D cl tyl ca b0 b s u0 u' H' locs' cells' slots' → W p l e R s m args below meth c H' locs' cells' slots' Q (F0 m pc' ls (st'.map (x_v b0 b)))) :
    W p l e R s m args below meth c H locs cells slots Q (F0 m pc ls (st.map (x_v b0 b))) := by
  obtain ⟨hx, hb, hml, hr, hmn, hown, hts, hK, hX, hsz, hlocks⟩ := hF
  obtain ⟨hP, hS, hc1, hc2, hu⟩ := hI
  have hD : va_D (fun q => b ≤ q) (x_ws ca b0 b b u) := x_ws_D u
  obtain ⟨i, n, q, cst⟩ := x
  obtain ⟨hd, -, hok⟩ := hok
  cases i with
  | getfield idx =>
    dsimp only [x_heap] at h
    obtain ⟨rfl, p0, r, fs, v, rfl, h1, h2, h⟩ := x_gf_inv h
    obtain ⟨C, F, N, hc, hk, hl⟩ := hok
    have he := x_ws_at (ca := ca) (b0 := b0) (b := b) h1
    have hv : (fs.map (x_v b0 b))[q.2.1]? = some (x_v b0 b v) := by rw [List.getElem?_map, h2]; rfl
    rcases hl with hl | ⟨host, hl⟩
    · exact va_get hx hb hts (hCL _ _ _ _ hc).1 hown hK hP p0 he hc q.2.1 hk (hts _ hl) (fun _ h9 => h9) hv hd (kk _ _ _ _ _ _ _ h ⟨hP, hS, hc1, hc2, hu⟩)
    · exact va_getN hx hb hts (hCL _ _ _ _ hc).1 hown hK hP p0 he hc q.2.1 hk (hts _ hl) (fun _ h9 => h9) hv hd (kk _ _ _ _ _ _ _ h ⟨hP, hS, hc1, hc2, hu⟩)
  | putfield idx =>
    dsimp only [x_heap] at h
    obtain ⟨rfl, p0, r, fs, v, rfl, h1, h2, h⟩ := x_pf_inv h
    obtain ⟨C, F, N, hc, hk, htag, hl⟩ := hok
    obtain ⟨h, hfit⟩ := x_fit_inv h
    obtain ⟨hfn, hff⟩ := hfit _ b0 b htag
    have he := x_ws_at (ca := ca) (b0 := b0) (b := b) h1
    obtain ⟨g1, g2, g3, -, -⟩ := hCL _ _ _ _ hc
    have hset : (x_ws ca b0 b b u).set p0 (b + p0, .inr (q.1, (fs.map (x_v b0 b)).set q.2.1 (x_v b0 b v))) = x_ws ca b0 b b (u.set p0 (.inr (q.1, fs.set q.2.1 v))) := by
      rw [← x_ws_set, ← List.map_set]
      rfl
    have hnext : ∀ (H1 : Heap) (locs1 : List Loc), va_P D cl ((x_ws ca b0 b b u).set p0 (b + p0, .inr (q.1, (fs.map (x_v b0 b)).set q.2.1 (x_v b0 b v)))) H1 → va_D (fun q => b ≤ q) ((x_ws ca b0 b b u).set p0 (b + p0, .inr (q.1, (fs.map (x_v b0 b)).set q.2.1 (x_v b0 b v)))) → va_S (fun q => b ≤ q) s.heap H1 locs1 → W p l e R s m args below meth c H1 locs1 cells slots Q (F0 m (pc + 3) ls (r.map (x_v b0 b))) := by
      intro H1 locs1 hP1 _ hS1
      rw [hset] at hP1
      exact kk _ _ _ _ _ _ _ h ⟨hP1, hS1, by rw [List.length_set]; exact hc1, by rw [x_sz_set _ _ _ _ h1 (by simp [x_sz1])]; exact hc2, x_oku_set hu trivial⟩
    rcases hl with ⟨hfin, hl | ⟨host, hl⟩⟩ | ⟨hfin, hin, hdecl, hl⟩
    · exact va_put hx hb hts g1 (tyf q.1) g2 g3 hown hK hP hD hS p0 he hc q.2.1 hk (hts _ hl) (fun _ h9 => h9) hfin (g2 _ hk) hfn hff (by rw [List.length_map]; exact h2) hd hnext
    · exact va_putN hx hb hts g1 (tyf q.1) g2 g3 hown hK hP hD hS p0 he hc q.2.1 hk (hts _ hl) (fun _ h9 => h9) hfin (g2 _ hk) hfn hff (by rw [List.length_map]; exact h2) hd hnext
    · exact va_putF hx hb hts g1 (tyf q.1) g2 g3 hown hK hP hD hS p0 he hc q.2.1 hk (hts _ hl) (fun _ h9 => h9) hfin (hmn.trans hin) hdecl (g2 _ hk) hfn hff (by rw [List.length_map]; exact h2) hd hnext
  | iaload =>
    dsimp only [x_heap] at h
    obtain ⟨rfl, ⟨i, p0, r, rfl, h0, h1, h⟩ | ⟨i, p0, r, N, f, rfl, h1, h2, h⟩⟩ := x_ial_inv h
    · show W p l e R s m args below meth c H locs cells slots Q (F0 m pc ls (.int i :: x_v b0 b (.ref p0) :: r.map (x_v b0 b)))
      rw [x_v_old (p := p0) b0 b (Nat.lt_trans h0 (by decide))]
      exact va_ti hx hb (hX.1 p0 h0) hS h1 rfl hd (kk _ _ _ _ _ _ _ h ⟨hP, hS, hc1, hc2, hu⟩)
    · obtain ⟨t0, ht⟩ := x_tyAt (ca := ca) (show FieldType.int ∈ tyl from x_oku_at hu h1)
      exact va_iald hx hb hK hP p0 t0 (x_ws_at h1) ht h2 hd (kk _ _ _ _ _ _ _ h ⟨hP, hS, hc1, hc2, hu⟩)
  | laload =>
    dsimp only [x_heap] at h
    obtain ⟨rfl, i, p0, r, N, f, rfl, h1, h2, h⟩ := x_lal_inv h
    obtain ⟨t0, ht⟩ := x_tyAt (ca := ca) (show FieldType.long ∈ tyl from x_oku_at hu h1)
    exact va_lald hx hb hK hP p0 t0 (x_ws_at h1) ht h2 hd (kk _ _ _ _ _ _ _ h ⟨hP, hS, hc1, hc2, hu⟩)
  | baload =>
    dsimp only [x_heap] at h
    obtain ⟨rfl, ty, i, p0, r, N, f, hty, rfl, h1, h2, h⟩ := x_bal_inv h
    obtain ⟨t0, ht⟩ := x_tyAt (ca := ca) (show ty ∈ tyl from x_oku_at hu h1)
    rcases hty with rfl | rfl
    · exact va_zald hx hb hK hP p0 t0 (x_ws_at h1) ht h2 hd (kk _ _ _ _ _ _ _ h ⟨hP, hS, hc1, hc2, hu⟩)
    · exact va_bald hx hb hK hP p0 t0 (x_ws_at h1) ht h2 hd (kk _ _ _ _ _ _ _ h ⟨hP, hS, hc1, hc2, hu⟩)
  | iastore =>
    dsimp only [x_heap] at h
    obtain ⟨rfl, z, i, p0, r, N, f, rfl, h1, h2, h⟩ := x_ias_inv h
    have hty : FieldType.int ∈ tyl := x_oku_at hu h1
    obtain ⟨t0, ht⟩ := x_tyAt (ca := ca) hty
    refine va_iast hx hb hK hP hD hS p0 t0 (x_ws_at h1) ht h2 hd (fun H1 locs1 hP1 _ hS1 => ?_)
    rw [show (x_ws ca b0 b b u).set p0 (b + p0, .inl (ca .int, N, .inl (upd f i.toNatClampNeg z))) = x_ws ca b0 b b (u.set p0 (.inl (.int, N, .inl (upd f i.toNatClampNeg z)))) from x_ws_set u b p0 (.inl (.int, N, .inl (upd f i.toNatClampNeg z)))] at hP1
    exact kk _ _ _ _ _ _ _ h ⟨hP1, hS1, by rw [List.length_set]; exact hc1, hc2.trans (Eq.symm (x_sz_set _ _ _ _ h1 rfl)), x_oku_set hu hty⟩
  | lastore =>
    dsimp only [x_heap] at h
    obtain ⟨rfl, z, i, p0, r, N, f, rfl, h1, h2, h⟩ := x_las_inv h
    have hty : FieldType.long ∈ tyl := x_oku_at hu h1
    obtain ⟨t0, ht⟩ := x_tyAt (ca := ca) hty
    refine va_last hx hb hK hP hD hS p0 t0 (x_ws_at h1) ht h2 hd (fun H1 locs1 hP1 _ hS1 => ?_)
    rw [show (x_ws ca b0 b b u).set p0 (b + p0, .inl (ca .long, N, .inr (.inl (vp_updL f i.toNatClampNeg z)))) = x_ws ca b0 b b (u.set p0 (.inl (.long, N, .inr (.inl (vp_updL f i.toNatClampNeg z))))) from x_ws_set u b p0 (.inl (.long, N, .inr (.inl (vp_updL f i.toNatClampNeg z))))] at hP1
    exact kk _ _ _ _ _ _ _ h ⟨hP1, hS1, by rw [List.length_set]; exact hc1, hc2.trans (Eq.symm (x_sz_set _ _ _ _ h1 rfl)), x_oku_set hu hty⟩
  | bastore =>
    dsimp only [x_heap] at h
    obtain ⟨rfl, ty, z, i, p0, r, N, f, hty2, rfl, h1, h2, h⟩ := x_bas_inv h
    have hty : ty ∈ tyl := x_oku_at hu h1
    obtain ⟨t0, ht⟩ := x_tyAt (ca := ca) hty
    have hnext : ∀ (H1 : Heap) (locs1 : List Loc), va_P D cl ((x_ws ca b0 b b u).set p0 (b + p0, .inl (ca ty, N, .inl (upd f i.toNatClampNeg (vp_nar ty z))))) H1 → va_D (fun q => b ≤ q) ((x_ws ca b0 b b u).set p0 (b + p0, .inl (ca ty, N, .inl (upd f i.toNatClampNeg (vp_nar ty z))))) → va_S (fun q => b ≤ q) s.heap H1 locs1 → W p l e R s m args below meth c H1 locs1 cells slots Q (F0 m (pc + 1) ls (r.map (x_v b0 b))) := by
      intro H1 locs1 hP1 _ hS1
      rw [show (x_ws ca b0 b b u).set p0 (b + p0, .inl (ca ty, N, .inl (upd f i.toNatClampNeg (vp_nar ty z)))) = x_ws ca b0 b b (u.set p0 (.inl (ty, N, .inl (upd f i.toNatClampNeg (vp_nar ty z))))) from x_ws_set u b p0 (.inl (ty, N, .inl (upd f i.toNatClampNeg (vp_nar ty z))))] at hP1
      exact kk _ _ _ _ _ _ _ h ⟨hP1, hS1, by rw [List.length_set]; exact hc1, hc2.trans (Eq.symm (x_sz_set _ _ _ _ h1 rfl)), x_oku_set hu hty⟩
    rcases hty2 with rfl | rfl
    · exact va_zast hx hb hK hP hD hS p0 t0 (x_ws_at h1) ht h2 hd hnext
    · exact va_bast hx hb hK hP hD hS p0 t0 (x_ws_at h1) ht h2 hd hnext
  | arraylength =>
    dsimp only [x_heap] at h
    obtain ⟨rfl, ⟨p0, r, rfl, h0, h⟩ | ⟨p0, r, ty, a, rfl, h1, h⟩⟩ := x_alen_inv h
    · show W p l e R s m args below meth c H locs cells slots Q (F0 m pc ls (x_v b0 b (.ref p0) :: r.map (x_v b0 b)))
      rw [x_v_old (p := p0) b0 b (Nat.lt_trans h0 (by decide))]
      exact va_tlen hx hb (hX.1 p0 h0) hS rfl hd (kk _ _ _ _ _ _ _ h ⟨hP, hS, hc1, hc2, hu⟩)
    · obtain ⟨t0, ht⟩ := x_tyAt (ca := ca) (show ty ∈ tyl from x_oku_at hu h1)
      exact va_alen hx hb hK hP p0 t0 (x_ws_at h1) ht (by rw [x_rc_n]) hd (kk _ _ _ _ _ _ _ h ⟨hP, hS, hc1, hc2, hu⟩)
  | new idx =>
    simp only [x_heap] at h
    split at h
    · rename_i hn
      have hn : n = 3 := hn
      subst hn
      obtain ⟨C, F, N, hc, hl1, hl2, hl3⟩ := hok
      obtain ⟨g1, g2, g3, g4, g5⟩ := hCL _ _ _ _ hc
      obtain ⟨r1, r2⟩ := hroom _ _ _ h
      rw [List.length_append, List.length_singleton] at r1
      rw [x_sz_app] at r2
      have hs1 : x_sz1 (.inr (q.1, df q.1)) = N := g5
      rw [hs1] at r2
      refine va_new (D := D) (A := fun q => b ≤ q) (fs := (df q.1).map (x_v b0 b)) hx hb hts g1 (tyf q.1) g2 hown (hts _ hl1) (hts _ hl2) (hts _ hl3) hK hP hD hS (fun q hq => by have := hsz; show b ≤ q; omega) hc (fun j hj => by rw [x_V_map, ← g4 j hj, x_v_def]) (by omega) (by omega) hd (fun a H1 hP1 hD1 hS1 => ?_)
      refine x_size (fun hz => ?_)
      have ha : a = b + u.length := x_fresh hP1 hD1 (by omega)
      subst ha
      rw [show x_ws ca b0 b b u ++ [(b + u.length, .inr (q.1, (df q.1).map (x_v b0 b)))] = x_ws ca b0 b b (u ++ [.inr (q.1, df q.1)]) from x_ws_app u b (.inr (q.1, df q.1))] at hP1
      exact kk _ _ _ _ _ _ _ h ⟨hP1, hS1, by rw [List.length_append, List.length_singleton]; omega, by rw [x_sz_app, hs1]; omega, x_oku_app hu trivial⟩
    · exact x_no h
  | newarray t =>
    dsimp only [x_heap] at h
    obtain ⟨rfl, z, r, rfl, hz0, hz1, h⟩ := x_na_inv h
    obtain ⟨a, ha1, ha2, ha3, ha4, ha5, h⟩ := x_zero_inv h
    obtain ⟨hl1, hl2⟩ := hok
    obtain ⟨r1, r2⟩ := hroom _ _ _ h
    rw [List.length_append, List.length_singleton] at r1
    rw [x_sz_app] at r2
    have hs1 : x_sz1 (.inl (newarray.typeOf t, a)) = z.toNatClampNeg := ha1
    rw [hs1] at r2
    refine va_newa (D := D) (A := fun q => b ≤ q) (atype := t) (a0 := a) hx hb (hts _ hl1) rfl hK hP hD hS (fun q hq => by have := hsz; show b ≤ q; omega) ha2 hz0 rfl (Nat.le_trans (Nat.mul_le_mul hz1 ha4) (Nat.le_of_ble_eq_true rfl)) (by omega) (by omega) hd (fun a1 cA H1 hK1 hP1 hD1 hS1 => ?_)
    refine x_size (fun hz => ?_)
    have hq : a1 = b + u.length := x_fresh hP1 hD1 (by omega)
    subst hq
    obtain ⟨t0, ht⟩ := x_tyAt (ca := ca) hl2
    have k1 := (hK.2 _ _ ht).2
    have k2 := (hK1.2 (tyl.map fun t => (ca t, t)).length (cA, newarray.typeOf t) (by simp)).2
    have hcA : cA = ca (newarray.typeOf t) := by
      dsimp only at k1 k2
      rcases ha5 with h5 | h5 | h5 | h5 <;> rw [h5] at k1 k2 ⊢ <;> exact Option.some.inj (k2.symm.trans k1)
    subst hcA
    rw [show x_ws ca b0 b b u ++ [(b + u.length, .inl (ca (newarray.typeOf t), a))] = x_ws ca b0 b b (u ++ [.inl (newarray.typeOf t, a)]) by rw [← x_ws_app]; simp only [x_e, ha3]] at hP1
    exact kk _ _ _ _ _ _ _ h ⟨hP1, hS1, by rw [List.length_append, List.length_singleton]; omega, by rw [x_sz_app, hs1]; omega, x_oku_app hu hl2⟩
  | ldc idx =>
    simp only [x_heap] at h
    split at h
    · rename_i hn
      have hn : n = 2 := hn
      subst hn
      rcases hok with ⟨v, hv, hl⟩ | ⟨tx, p0, hv, h0, hl⟩
      · dsimp only at hv h
        rw [hv] at h
        exact lv_ldc hx hb hown (hts _ hl) hd (kk _ _ _ _ _ _ _ h ⟨hP, hS, hc1, hc2, hu⟩)
      · dsimp only at hv h
        rw [hv] at h
        have hX9 := hX.2.2.1 _ hl
        refine va_ldcS hx hb hown hX9 hd ?_
        have hk := kk _ _ _ _ _ _ _ h ⟨hP, hS, hc1, hc2, hu⟩
        rw [List.map_cons, x_v_old b0 b h0] at hk
        exact hk
    · exact x_no h
  | ldc_w idx =>
    simp only [x_heap] at h
    split at h
    · rename_i hn
      have hn : n = 3 := hn
      subst hn
      obtain ⟨v, hv, hl⟩ := hok
      dsimp only at hv h
      rw [hv] at h
      exact lv_ldcw hx hb hown (hts _ hl) hd (kk _ _ _ _ _ _ _ h ⟨hP, hS, hc1, hc2, hu⟩)
    · exact x_no h
  | getstatic idx =>
    simp only [x_heap] at h
    split at h
    · rename_i hn
      obtain ⟨hn, h0⟩ := hn
      have hn : n = 3 := hn
      subst hn
      obtain ⟨C, nm, ds, hz, hl⟩ := hok
      have hk := kk _ _ _ _ _ _ _ h ⟨hP, hS, hc1, hc2, hu⟩
      rw [List.map_cons, x_v_old b0 b (Nat.lt_trans h0 (by decide))] at hk
      rcases hl with hl | ⟨host, hl⟩
      · exact va_gets hx hb (hX.2.1 _ hz) hS hown (hts _ hl) (fun _ h9 => h9) hd hk
      · exact va_getsN hx hb (hX.2.1 _ hz) hS hown (hts _ hl) (fun _ h9 => h9) hd hk
    · exact x_no h
  | ldc2_w idx =>
    simp only [x_heap] at h
    split at h
    · rename_i hn
      have hn : n = 3 := hn
      subst hn
      obtain ⟨v, hv, hl⟩ := hok
      dsimp only at hv h
      rw [hv] at h
      exact lv_ldc2 hx hb hown (hts _ hl) hd (kk _ _ _ _ _ _ _ h ⟨hP, hS, hc1, hc2, hu⟩)
    · exact x_no h
  | _ => exact x_no h
end
end
section
def x_w (T : List Jvm.Cond) (M : xM) : List Jvm.Cond := .code M.1 M.2.1 M.2.2.1 M.2.2.2.1 :: T
def x_rm (K d mc ms : Nat) : Room := { frames := d, cells := mc, slots := ms, locals := d * K }
def x_Pc (os : xT) (D : va_G) (cl : List vw_C) (tyl : List FieldType) (ca : FieldType → ClassId) (b0 : Nat → Nat) (b : Nat) (scr : xZ) (As : List Value) (u : List xC) : Array Value → State → Prop :=
  va_Pc (As.map (x_v b0 b)) (fun U => U.heap.size = b + u.length ∧ va_P D cl (x_ws ca b0 b b u) U.heap ∧ va_K D cl (tyl.map fun t => (ca t, t)) U ∧ x_O os b0 b scr U U.heap)
def x_Qc (D : va_G) (cl : List vw_C) (tyl : List FieldType) (ca : FieldType → ClassId) (b0 : Nat → Nat) (b : Nat) (z : xR) : Array Value → State → Outcome → State → Prop :=
  fun _ st oc t => oc = .returned (z.1.map (x_v b0 b)) ∧ va_P D cl (x_ws ca b0 b b z.2) t.heap ∧ va_F (fun q => b ≤ q) st t ∧ x_oku tyl z.2
/-- the contract of a method out of its run over the cells -/
def x_MetOf (os : xT) (l : Launch) (T : List Jvm.Cond) (K : Nat) (D : va_G) (cl : List vw_C) (tyl : List FieldType) (ca : FieldType → ClassId) (b0 : Nat → Nat) (b : Nat) (scr : xZ) (d : Nat) (M : xM) (As : List Value) (u : List xC) (z : xR) : Prop :=
  Met l M.1 (x_w T M) (x_rm K d (z.2.length - u.length) (x_sz z.2 - x_sz u)) (x_Pc os D cl tyl ca b0 b scr As u) (x_Qc D cl tyl ca b0 b z) (z.2.length - u.length) (x_sz z.2 - x_sz u) (fun q => b ≤ q)
theorem x_Pc_blind {os : xT} {D : va_G} {cl : List vw_C} {tyl : List FieldType} {ca : FieldType → ClassId} {b0 : Nat → Nat} {b : Nat} {scr : xZ} {As : List Value} {u : List xC} : FrameBlind (x_Pc os D cl tyl ca b0 b scr As u) := by
  intro a U g mk q
  obtain ⟨q0, q1, qP, qK, qX⟩ := q
  exact ⟨q0, q1, qP, va_K.moved (u := U) (U := U.calling g mk a) (Vm.Alike.refl U.vm) qK, x_O.moved (u := U) (U := U.calling g mk a) (Vm.Alike.refl U.vm) (fun _ _ h => h.same rfl) (fun _ _ h => h.same rfl rfl) qX⟩
theorem x_cats (b0 : Nat → Nat) (b : Nat) (r : List Value) : ((r.map (x_v b0 b)).map fun v => v.category) = r.map fun v => v.category := by
  rw [List.map_map]
  exact List.map_congr_left fun v _ => x_v_cat b0 b v
theorem x_sl_len : ∀ vs : List Value, (lg_sl vs).length = (vs.map fun v => v.category).sum
  | [] => rfl
  | v :: vs => by
    have h := x_sl_len vs
    unfold lg_sl at h ⊢
    rw [List.flatMap_cons, List.length_append, h, List.map_cons, List.sum_cons]
    rcases lv_cat v with hc | hc <;> simp [hc]
theorem x_lv_args (b0 : Nat → Nat) (b : Nat) : ∀ (As : List Value) (i : Nat), lv_args i (As.map (x_v b0 b)) = x_lv b0 b (lv_args i As)
  | [], _ => rfl
  | v :: vs, i => by
    have h := x_lv_args b0 b vs (if v.category = 2 then i + 2 else i + 1)
    simp only [List.map_cons, lv_args, x_v_cat, h]
    rfl
theorem x_args_inv {n : Nat} {st As r : List Value} (h : x_args n st = some (As, r)) : As.length = n ∧ st = As.reverse ++ r := by
  unfold x_args at h
  split at h
  · rename_i hn
    have h1 := Option.some.inj h
    have h2 : (st.take n).reverse = As := congrArg Prod.fst h1
    have h3 : st.drop n = r := congrArg Prod.snd h1
    subst h2
    subst h3
    refine ⟨by rw [List.length_reverse, List.length_take]; omega, ?_⟩
    rw [List.reverse_reverse, List.take_append_drop]
  · exact x_no h
theorem x_low_inv {ρ : Type} {res : ρ} {r : List Value} {a : Option ρ} (h : x_low r a = some res) : (r.map fun v => v.category).sum ≤ 8 ∧ a = some res := by
  unfold x_low at h
  split at h
  · exact ⟨by assumption, h⟩
  · exact x_no h
/-- the three ways of a call -/
theorem x_inv_inv {ρ : Type} {res : ρ} {scr : xZ} {call : Nat → List Value → List xC → Option xR} {d n pc : Nat} {q : Nat × Nat × Nat × Nat} {st : List Value} {u : List xC} {k : Nat → List Value → List xC → Option ρ} (hq : ¬ 7 ≤ q.2.2.1) (h : x_inv scr call d q n pc st u k = some res) : n = 3 ∧
    ((q.2.2.1 = 0 ∧ ¬ d = 0 ∧ ∃ p0 r, st = .ref (p0 + 8) :: r ∧ (r.map fun v => v.category).sum ≤ 8 ∧ k (pc + 3) r u = some res) ∨
    ((q.2.2.1 = 3 ∨ q.2.2.1 = 6) ∧ ∃ As r z, As.length = q.2.1 ∧ st = As.reverse ++ r ∧ (r.map fun v => v.category).sum ≤ 8 ∧ call q.1 As u = some z ∧ k (pc + 3) (z.1.toList ++ r) z.2 = some res) ∨
    (¬ (q.2.2.1 = 3 ∨ q.2.2.1 = 6) ∧ ¬ q.2.2.1 = 0 ∧ ∃ As p0 r fs z, As.length = q.2.1 ∧ st = As.reverse ++ .ref (p0 + 8) :: r ∧ u[p0]? = some (.inr (q.2.2.2, fs)) ∧ (r.map fun v => v.category).sum ≤ 8 ∧ call q.1 (.ref (p0 + 8) :: As) u = some z ∧ k (pc + 3) (z.1.toList ++ r) z.2 = some res)) := by
  unfold x_inv at h
  split at h
  · rename_i hn
    refine ⟨hn, ?_⟩
    try rw [if_neg hq] at h
    split at h
    · rename_i h0
      split at h
      · split at h
        · exact x_no h
        · obtain ⟨h1, h⟩ := x_low_inv h
          exact .inl ⟨h0, by assumption, _, _, rfl, h1, h⟩
      · exact x_no h
    · rename_i h0
      split at h
      · rename_i h3
        split at h
        · rename_i ha
          obtain ⟨h1, h2⟩ := x_args_inv ha
          obtain ⟨h4, h⟩ := x_low_inv h
          obtain ⟨z, h5, h⟩ := Option.bind_eq_some_iff.mp h
          exact .inr (.inl ⟨h3, _, _, z, h1, h2, h4, h5, h⟩)
        · exact x_no h
      · rename_i h3
        split at h
        · rename_i ha
          obtain ⟨h1, h2⟩ := x_args_inv ha
          split at h
          · rename_i hu
            split at h
            · rename_i hc
              subst hc
              obtain ⟨h4, h⟩ := x_low_inv h
              obtain ⟨z, h5, h⟩ := Option.bind_eq_some_iff.mp h
              exact .inr (.inr ⟨h3, h0, _, _, _, _, z, h1, h2, hu, h4, h5, h⟩)
            · exact x_no h
          · exact x_no h
        · exact x_no h
  · exact x_no h
/-- what is no method of ours -/
theorem x_bi_inv {ρ : Type} {res : ρ} {scr : xZ} {call : Nat → List Value → List xC → Option xR} {d n pc : Nat} {q : Nat × Nat × Nat × Nat} {st : List Value} {u : List xC} {k : Nat → List Value → List xC → Option ρ} (hq : 7 ≤ q.2.2.1) (h : x_inv scr call d q n pc st u k = some res) : n = 3 ∧ 12 ≤ d ∧
    ((q.2.2.1 = 7 ∧ x_cp scr st u (fun r h => x_low r (k (pc + 3) r h)) = some res) ∨ (8 ≤ q.2.2.1 ∧ q.2.2.1 ≤ 9 ∧ x_tx scr q.2.2.1 st (fun st => x_low (st.drop 1) (k (pc + 3) st u)) = some res) ∨ (10 ≤ q.2.2.1 ∧ x_ma q.2.2.1 st (fun st => x_low (st.drop 1) (k (pc + 3) st u)) = some res)) := by
  unfold x_inv at h
  split at h
  · rename_i hn
    try rw [if_pos hq] at h
    split at h
    · exact x_no h
    · rename_i hd
      refine ⟨hn, by omega, ?_⟩
      split at h
      · exact .inl ⟨by assumption, h⟩
      · split at h
        · exact .inr (.inl ⟨by omega, by assumption, h⟩)
        · exact .inr (.inr ⟨by omega, h⟩)
  · exact x_no h
theorem x_cpi_inv {ρ : Type} {res : ρ} {n sp dp : Int32} {N0 N1 : Nat} {a : Option ρ} (h : x_cpi n sp dp N0 N1 a = some res) : (¬ sp < 0 ∧ ¬ dp < 0 ∧ ¬ n < 0 ∧ sp.toNatClampNeg + n.toNatClampNeg ≤ N0 ∧ dp.toNatClampNeg + n.toNatClampNeg ≤ N1) ∧ a = some res := by
  unfold x_cpi at h
  split at h
  · exact x_no h
  · rename_i h1
    split at h
    · rename_i h2
      exact ⟨⟨fun z => h1 (.inr (.inl z)), fun z => h1 (.inr (.inr z)), fun z => h1 (.inl z), h2.1, h2.2⟩, h⟩
    · exact x_no h
theorem x_cp_inv {ρ : Type} {res : ρ} {scr : xZ} {st : List Value} {u : List xC} {k : List Value → List xC → Option ρ} (h : x_cp scr st u k = some res) : ∃ n dp p1 sp p0 r, st = .int n :: .int dp :: .ref (p1 + 8) :: .int sp :: .ref p0 :: r ∧ ¬ sp < 0 ∧ ¬ dp < 0 ∧ ¬ n < 0 ∧
    ((∃ N1 g N0 f, u[p1]? = some (.inl (.int, N1, .inl g)) ∧ sp.toNatClampNeg + n.toNatClampNeg ≤ N0 ∧ dp.toNatClampNeg + n.toNatClampNeg ≤ N1 ∧ ((∃ p2, p0 = p2 + 8 ∧ u[p2]? = some (.inl (.int, N0, .inl f))) ∨ (p0 < 4 ∧ N0 = (scr.1 p0).1 ∧ f = (scr.1 p0).2)) ∧ k r (u.set p1 (.inl (.int, N1, .inl (va_cpy f g sp.toNatClampNeg dp.toNatClampNeg n.toNatClampNeg)))) = some res) ∨
    (∃ N1 g N0 f p2, u[p1]? = some (.inl (.long, N1, .inr (.inl g))) ∧ sp.toNatClampNeg + n.toNatClampNeg ≤ N0 ∧ dp.toNatClampNeg + n.toNatClampNeg ≤ N1 ∧ p0 = p2 + 8 ∧ u[p2]? = some (.inl (.long, N0, .inr (.inl f))) ∧ k r (u.set p1 (.inl (.long, N1, .inr (.inl (va_cpy f g sp.toNatClampNeg dp.toNatClampNeg n.toNatClampNeg))))) = some res)) := by
  unfold x_cp at h
  split at h
  · rename_i n dp p1 sp p0 r
    split at h
    · rename_i N1 g hu
      unfold x_src at h
      split at h
      · split at h
        · obtain ⟨⟨h1, h2, h3, h4, h5⟩, h⟩ := x_cpi_inv h
          exact ⟨_, _, _, _, _, _, rfl, h1, h2, h3, .inl ⟨_, _, _, _, hu, h4, h5, .inl ⟨_, rfl, by assumption⟩, h⟩⟩
        · exact x_no h
      · split at h
        · obtain ⟨⟨h1, h2, h3, h4, h5⟩, h⟩ := x_cpi_inv h
          exact ⟨_, _, _, _, _, _, rfl, h1, h2, h3, .inl ⟨_, _, _, _, hu, h4, h5, .inr ⟨by assumption, rfl, rfl⟩, h⟩⟩
        · exact x_no h
    · rename_i N1 g hu
      unfold x_srcl at h
      split at h
      · split at h
        · obtain ⟨⟨h1, h2, h3, h4, h5⟩, h⟩ := x_cpi_inv h
          exact ⟨_, _, _, _, _, _, rfl, h1, h2, h3, .inr ⟨_, _, _, _, _, hu, h4, h5, rfl, by assumption, h⟩⟩
        · exact x_no h
      · exact x_no h
    · exact x_no h
  · exact x_no h
section
variable {p : Program} {l : Launch} {e : Env} {R : Room} {s : State} {m : MethodId} {args : Array Value} {below : List Frame} {meth : Method} {c : Code} {H : Heap} {locs : List Loc} {cells slots : Nat} {Q : State → Prop}
variable {pc : Nat} {ls : Array Slot} {res : xR}
variable {os : xT} {cL cC : ByteArray} {T : List Jvm.Cond} {D : va_G} {cl : List vw_C} {tyf : Nat → Nat → FieldType} {tyl : List FieldType} {ca : FieldType → ClassId} {b0 : Nat → Nat} {b : Nat} {scr : xZ} {df : Nat → List Value} {P : Nat → Option xM} {u0 u : List xC} {M : xM} {x : xI} {st : List Value}
/-- System.arraycopy out of an old row of ints -/
theorem x_copyt {ws : va_W} {A : Nat → Prop} {tys : List (ClassId × FieldType)} {rest : List Value} {a : Nat} {cc : ByteArray} (hexec : p.tables.exec = Jvm.exec) (hb : c.code = cc) (hml : c.maxLocals = ls.size) {own : String} {index : Nat} (hown : s.vm.findClass own = some m.cls) (w1 : (Jvm.Cond.methodLink own index arraycopyName).before args s = true) (w2 : (Jvm.Cond.native arraycopyName).before args s = true) (w3 : (Jvm.Cond.static arraycopyName).before args s = true) (w4 : (Jvm.Cond.initialized "java/lang/System").before args s = true)
    (hK : va_K D cl tys s) (hP : va_P D cl ws H) (hD : va_D A ws) (hS : va_S A s.heap H locs) {o n0 : Nat} {f : Nat → Int32} (hX : va_T .int o n0 (fun j => .int (f j)) A s s.heap) (q1 t1 : Nat) {c1 : ClassId} {n1 : Nat} {g : Nat → Int32} (ha1 : ws[q1]? = some (a, .inl (c1, n1, .inl g))) (ht1 : tys[t1]? = some (c1, .int))
    {sp dp n : Int32} (h1 : ¬ sp < 0) (h2 : ¬ dp < 0) (h3 : ¬ n < 0) (h4 : sp.toNatClampNeg + n.toNatClampNeg ≤ n0) (h5 : dp.toNatClampNeg + n.toNatClampNeg ≤ n1)
    (hfr : 1 ≤ R.frames) (hlo : (rest.map fun v => v.category).sum + (nativeFrameWords "java/lang/System" "arraycopy" 5 + 11) ≤ R.locals) (hd : decode cc pc = .ok (.invokestatic index, 3))
    (kk : ∀ (H1 : Heap) (locs1 : List Loc), va_P D cl (ws.set q1 (a, .inl (c1, n1, .inl (va_cpy f g sp.toNatClampNeg dp.toNatClampNeg n.toNatClampNeg)))) H1 → va_D A (ws.set q1 (a, .inl (c1, n1, .inl (va_cpy f g sp.toNatClampNeg dp.toNatClampNeg n.toNatClampNeg)))) → va_S A s.heap H1 locs1 → W p l e R s m args below meth c H1 locs1 cells slots Q (F0 m (pc + 3) ls rest)) : W p l e R s m args below meth c H locs cells slots Q (F0 m pc ls (.int n :: .int dp :: .ref a :: .int sp :: .ref o :: rest)) := by
  have nat : ∀ z : Int32, ¬ z < 0 → z.toInt = (z.toNatClampNeg : Int) := fun z hz => by
    have h9 : (0 : Int) ≤ z.toInt := by simpa using Int32.le_iff_toInt_le.mp (Int32.not_lt.mp hz)
    show z.toInt = ((z.toInt.toNat : Nat) : Int)
    omega
  intro T hT X
  obtain ⟨old, o1, ⟨o2, k0, o3, _, o4⟩, o5, o6, -, o7, o8⟩ := hX
  have hold : H[o]? = some old := (hS.2.1 o (Array.getElem?_eq_some_iff.mp o1).1 o8).trans o1
  have hnew : H[a]? = some (vp_cell c1 (n1, .inl g)) := hP q1 _ ha1
  obtain ⟨-, k1, n3, _, n4⟩ := (hK.2 t1 _ ht1).1 n1 (fun j => .int (g j))
  obtain ⟨vm', X', step⟩ := X.arraycopy hexec hown w1 w2 w3 w4 (src := o) (dst := a) (cs := old) (cd := vp_cell c1 (n1, .inl g)) (srcPos := sp) (destPos := dp) (n := n) (by rw [hT]; exact hold) (by rw [hT]; exact hnew) o2 (fun _ h => by cases h) o5 (fun h => by cases h) o3 n3 o4 n4 (by simp [refKind]) h1 h2 h3
    (by rw [nat sp h1, nat n h3]; omega)
    (by rw [nat dp h2, nat n h3]; show ¬ _ > ((arrV c1 n1 (fun j => .int (g j))).slots.size : Int); rw [arrV_size]; omega)
    (fun _ _ i hi => by
      have e : old.slots.getD (sp.toNatClampNeg + i) .null = .int (f (sp.toNatClampNeg + i)) := by rw [Array.getD_eq_getD_getElem?, o7 _ (by omega)]; rfl
      exact ⟨by rw [e]; rfl, by rw [e]; exact trivial⟩)
    (g := F0 m pc ls (.int n :: .int dp :: .ref a :: .int sp :: .ref o :: rest)) rfl (by rw [hml]) (rest := rest) rfl (by rw [hb]; exact hd) hfr (by show 2 * 0 + _ + _ ≤ _; omega)
  rw [show copied old (vp_cell c1 (n1, .inl g)) sp dp n = vp_cell c1 (n1, .inl (va_cpy f g sp.toNatClampNeg dp.toNatClampNeg n.toNatClampNeg)) from va_copiedX (fun z => .int z) old c1 f g o7 h4] at X' step
  have hl : a < H.size := (Array.getElem?_eq_some_iff.mp hnew).1
  have oq : ∀ q : Nat, q ≠ a → (H.setIfInBounds a (vp_cell c1 (n1, .inl (va_cpy f g sp.toNatClampNeg dp.toNatClampNeg n.toNatClampNeg))))[q]? = H[q]? := fun q hq => by simp [Array.getElem?_setIfInBounds, Ne.symm hq]
  obtain ⟨t, a1, b1⟩ := kk _ _ (hP.set hD ha1 (show (H.setIfInBounds a _)[a]? = some _ by simp [Array.getElem?_setIfInBounds, hl]) oq) (hD.set ha1) ⟨by simp; exact hS.1, fun q g1 g2 => (oq q (fun e => g2 (by rw [e]; exact hD.2 q1 _ ha1))).trans (hS.2.1 q g1 g2), fun q hq => by
      rcases List.mem_append.mp hq with h | h
      · exact hS.2.2 q h
      · obtain ⟨z, -, rfl⟩ := List.mem_map.mp h
        exact hD.2 q1 _ ha1⟩ ((T.setVm vm').setCell a (vp_cell c1 (n1, .inl (va_cpy f g sp.toNatClampNeg dp.toNatClampNeg n.toNatClampNeg)))) (by rw [← hT]; rfl) X'
  exact ⟨t, step t a1, b1⟩
theorem x_callR {z : xR} {mc ms : Nat} {st0 rest : List Value} {arr : Array Value} (hr : va_Run p l e R s m args below meth c H locs cells slots mc ms (F0 m pc ls st0) rest (x_Qc D cl tyl ca b0 b z arr) (fun q => b ≤ q)) (hS : va_S (fun q => b ≤ q) s.heap H locs)
    (kk : ∀ (H1 : Heap) (locs1 : List Loc), va_P D cl (x_ws ca b0 b b z.2) H1 → va_S (fun q => b ≤ q) s.heap H1 locs1 → x_oku tyl z.2 → W p l e R s m args below meth c H1 locs1 (cells + mc) (slots + ms) Q (F0 m (pc + 3) ls ((z.1.map (x_v b0 b)).toList ++ rest))) : W p l e R s m args below meth c H locs cells slots Q (F0 m pc ls st0) := by
  intro T hT X
  obtain ⟨v, st₀, t, T', L, h0, X', hL, e1, e2, ⟨hv, hp, ⟨hz, hk⟩, hu⟩, st⟩ := hr T hT X
  cases hv
  rw [h0] at hz hk
  obtain ⟨t2, a1, b1⟩ := kk T'.heap (locs ++ L) (by rw [e1]; exact hp)
    ⟨Nat.le_trans hS.1 (by rw [e1]; exact hz), fun q h1 h2 => by rw [e1, hk q (Nat.lt_of_lt_of_le h1 hS.1) h2]; exact hS.2.1 q h1 h2, fun q hq => by
      rcases List.mem_append.mp hq with h | h
      · exact hS.2.2 q h
      · exact hL q h⟩ hu T' rfl X'
  exact ⟨t2, st t2 a1, b1⟩
theorem x_lower (hP : va_P D cl (x_ws ca b0 b b u) H) (h : b ≤ H.size) : b + u.length ≤ H.size := by
  cases hu : u.length with
  | zero => omega
  | succ k =>
    have hk : k < u.length := by omega
    have h1 := x_has (hP k _ (x_ws_at (List.getElem?_eq_getElem hk)))
    omega
set_option maxHeartbeats 8000000 in
/-- a call -/
theorem x_inv_ok {K d : Nat} {call : Nat → List Value → List xC → Option xR} {k : Nat → List Value → List xC → Option xR}
    (hT : ∀ w ∈ T, (w.onTables && w.keeps) = true ∨ ∃ ty, w = .arrayClass ty) (hKm : ∀ (j : Nat) (M' : xM), P j = some M' → M'.2.2.1 + 19 ≤ K) (hK20 : 20 ≤ K)
    (hcall : ∀ (j : Nat) (As : List Value) (u : List xC) (z : xR) (M' : xM), call j As u = some z → P j = some M' → x_oku tyl u → ∃ d', d = d' + 1 ∧ u.length ≤ z.2.length ∧ x_sz u ≤ x_sz z.2 ∧ x_MetOf os l T K D cl tyl ca b0 b scr d' M' As u z)
    (hF : x_Fix os T D cl tyl ca b0 b scr u0 M p s m args meth c) (hok : x_okI os cL cC T cl tyf tyl P M pc x) (hki : x_kind x.1 = 4) (hq7 : ¬ 7 ≤ x.2.2.1.2.2.1) (hI : x_Inv D cl tyl ca b0 b s u0 u H locs cells slots) (hls : ls.size = M.2.2.1) (hdR : d ≤ R.frames) (hdL : d * K ≤ R.locals)
    (h : x_inv scr call d x.2.2.1 x.2.1 pc st u k = some res)
    (hroom : ∀ pc' st' u', k pc' st' u' = some res → u'.length ≤ R.cells + u0.length ∧ x_sz u' ≤ R.slots + x_sz u0)
    (kk : ∀ pc' st' u' H' locs' cells' slots', k pc' st' u' = some res → x_Inv D cl tyl ca b0 b s u0 u' H' locs' cells' slots' → W p l e R s m args below meth c H' locs' cells' slots' Q (F0 m pc' ls (st'.map (x_v b0 b)))) :
    W p l e R s m args below meth c H locs cells slots Q (F0 m pc ls (st.map (x_v b0 b))) := by
  obtain ⟨hx, hb, hml, hr, hmn, hown, hts, hKK, hX, hsz, hlocks⟩ := hF
  obtain ⟨hP, hS, hc1, hc2, hu⟩ := hI
  obtain ⟨i, n, q, cst⟩ := x
  obtain ⟨hd, -, hok⟩ := hok
  dsimp only at h hki hd hq7
  replace h := x_inv_inv hq7 h
  obtain ⟨hn3, h⟩ := h
  subst hn3
  refine x_size (fun hz0 => ?_)
  have hlow : b + u.length ≤ H.size := x_lower hP (by have := hS.1; omega)
  have hHs : H.size = b + u.length := by omega
  have hXH : x_O os b0 b scr s H := hX.kept hS.2.1
  have hpre : ∀ (As : List Value) (U : State), U.heap = H → s.WarmedH U.vm → x_Pc os D cl tyl ca b0 b scr As u (As.map (x_v b0 b)).toArray U := fun As U hU hW => ⟨rfl, by rw [hU]; exact hHs, by rw [hU]; exact hP, va_K.moved hW.alike hKK, by rw [hU]; exact hXH.moved hW.alike (fun _ _ h9 => h9.warm hW) (fun _ _ h9 => h9.warmM hW)⟩
  have hG : ∀ M' : xM, Jvm.Cond.code M'.1 M'.2.1 M'.2.2.1 M'.2.2.2.1 ∈ T → GoodIn T (x_w T M') := by
    intro M' hM' w hw
    rcases List.mem_cons.mp hw with rfl | hw
    · exact ⟨hM', hT _ hM'⟩
    · exact ⟨hw, hT _ hw⟩
  have hFix : CallFix p m c M.2.1 M.2.2.1 s args T M.1.cls := ⟨hx, hb, hml, hown, hts⟩
  have hcat : ∀ r : List Value, (r.map fun v => v.category).sum ≤ 8 → 2 * (F0 m pc ls (st.map (x_v b0 b))).monitorRoom + ((r.map (x_v b0 b)).map fun v => v.category).sum ≤ 8 := fun r hr8 => lv_room (by rw [x_cats]; exact hr8)
  -- what follows behind the callee
  have hgo : ∀ (r : List Value) (z : xR) (arr : Array Value), k (pc + 3) (z.1.toList ++ r) z.2 = some res → u.length ≤ z.2.length → x_sz u ≤ x_sz z.2 →
      va_Run p l e R s m args below meth c H locs cells slots (z.2.length - u.length) (x_sz z.2 - x_sz u) (F0 m pc ls (st.map (x_v b0 b))) (r.map (x_v b0 b)) (x_Qc D cl tyl ca b0 b z arr) (fun q => b ≤ q) → W p l e R s m args below meth c H locs cells slots Q (F0 m pc ls (st.map (x_v b0 b))) := by
    intro r z arr hk h1 h2 hrun
    refine x_callR hrun hS (fun H1 locs1 hP1 hS1 hu1 => ?_)
    rw [show (z.1.map (x_v b0 b)).toList ++ r.map (x_v b0 b) = (z.1.toList ++ r).map (x_v b0 b) by cases z.1 <;> simp]
    exact kk _ _ _ _ _ _ _ hk ⟨hP1, hS1, by omega, by omega, hu1⟩
  have hfit : ∀ (r : List Value) (z : xR), k (pc + 3) (z.1.toList ++ r) z.2 = some res → u.length ≤ z.2.length → x_sz u ≤ x_sz z.2 → cells + (z.2.length - u.length) ≤ R.cells ∧ slots + (x_sz z.2 - x_sz u) ≤ R.slots := by
    intro r z hk h1 h2
    obtain ⟨r1, r2⟩ := hroom _ _ _ hk
    exact ⟨by omega, by omega⟩
  have hRm : ∀ (d' mc ms : Nat) (M' : xM), d = d' + 1 → M'.2.2.1 + 19 ≤ K → (x_rm K d' mc ms).frames + 1 ≤ R.frames ∧ 8 + (M'.2.2.1 + 11) + (x_rm K d' mc ms).locals ≤ R.locals := by
    intro d' mc ms M' h1 h2
    subst h1
    refine ⟨hdR, ?_⟩
    show 8 + (M'.2.2.1 + 11) + d' * K ≤ R.locals
    rw [Nat.add_mul] at hdL
    omega
  cases i with
  | invokestatic idx =>
    rcases hok with hok | hok
    · exfalso; apply hq7; dsimp only at hok; rcases hok with ⟨h9, -⟩ | ⟨h9, -⟩ | ⟨h9, -⟩ | ⟨h9, -⟩ | ⟨h9, -⟩ | ⟨h9, -⟩ <;> rw [h9] <;> decide
    obtain ⟨hk3, M', hM', hini, hcode, hnm, hlink, -, -, hst⟩ := hok
    rcases h with ⟨h0, -⟩ | ⟨-, As, r, z, h1, rfl, h3, h4, h5⟩ | ⟨h0, -⟩
    · exfalso; rcases hk3 with h9 | h9 <;> exact absurd (h0.symm.trans h9) (by decide)
    · obtain ⟨d', h6, h7, h8, hMet⟩ := hcall _ _ _ _ _ h4 hM' hu
      refine hgo r z (As.map (x_v b0 b)).toArray h5 h7 h8 ?_
      rcases hlink with ⟨-, hl⟩ | ⟨-, host, hl⟩
      · exact va_runS hFix hMet ⟨callB_of q.2.1 hts (hG M' hcode) rfl rfl rfl (hts _ hini) (hts _ hl) hnm (hRm _ _ _ M' h6 (hKm _ _ hM')), hts _ (hst hk3)⟩ ⟨x_Pc_blind, hpre As⟩ rfl (by rw [List.length_map]; exact h1) hls (by show List.map _ _ = _; rw [List.map_append, List.map_reverse]) (hcat r h3) hd (hfit r z h5 h7 h8)
      · have hX9 := hX.2.2.2.1 _ hl
        exact va_runSN hFix hMet ⟨va_cnB q.2.1 hts (hG M' hcode) rfl rfl rfl hX9 (hts _ hini) hnm (hRm _ _ _ M' h6 (hKm _ _ hM')), hts _ (hst hk3), trivial⟩ ⟨x_Pc_blind, hpre As⟩ rfl (by rw [List.length_map]; exact h1) hls (by show List.map _ _ = _; rw [List.map_append, List.map_reverse]) (hcat r h3) hd (hfit r z h5 h7 h8)
    · exact absurd hk3 h0
  | invokevirtual idx =>
    rcases hok with hok | hok
    · exfalso; apply hq7; dsimp only at hok; rcases hok with ⟨h9, -⟩ | ⟨h9, -⟩ <;> rw [h9] <;> decide
    obtain ⟨hk3, M', hM', hini, hcode, hnm, hlink, hvi, -, -⟩ := hok
    obtain ⟨v1, v2, F, N, v3⟩ := hvi hk3
    rcases h with ⟨h0, -⟩ | ⟨h0, -⟩ | ⟨-, -, As, p0, r, fs, z, h1, rfl, hcell, h3, h4, h5⟩
    · exfalso; rcases hk3 with h9 | h9 <;> exact absurd (h0.symm.trans h9) (by decide)
    · exfalso; rcases hk3 with h9 | h9 <;> rcases h0 with h0 | h0 <;> exact absurd (h0.symm.trans h9) (by decide)
    · obtain ⟨d', h6, h7, h8, hMet⟩ := hcall _ _ _ _ _ h4 hM' hu
      refine hgo r z ((Value.ref (p0 + 8) :: As).map (x_v b0 b)).toArray h5 h7 h8 ?_
      have hrecv : ∃ cellB : Cell, H[b + p0]? = some cellB ∧ cellB.vm.isStatics = false ∧ s.vm.findClass M'.1.cls = some cellB.cls := va_recv hKK hP v3 (x_ws_at hcell)
      rcases hlink with ⟨-, hl⟩ | ⟨-, host, hl⟩
      · exact va_runV (b := b + p0) (As := As.map (x_v b0 b)) hFix hMet ⟨callB_of q.2.1 hts (hG M' hcode) rfl rfl rfl (hts _ hini) (hts _ hl) hnm (hRm _ _ _ M' h6 (hKm _ _ hM')), hts _ v1, hts _ v2⟩ ⟨x_Pc_blind, hrecv, hpre (.ref (p0 + 8) :: As)⟩ rfl (by rw [List.length_map]; exact h1) hls (by show List.map _ _ = _; rw [List.map_append, List.map_reverse]; rfl) (hcat r h3) hd (hfit r z h5 h7 h8)
      · have hX9 := hX.2.2.2.1 _ hl
        exact va_runVN (b := b + p0) (As := As.map (x_v b0 b)) hFix hMet ⟨va_cnB q.2.1 hts (hG M' hcode) rfl rfl rfl hX9 (hts _ hini) hnm (hRm _ _ _ M' h6 (hKm _ _ hM')), hts _ v1, hts _ v2⟩ ⟨x_Pc_blind, hrecv, hpre (.ref (p0 + 8) :: As)⟩ rfl (by rw [List.length_map]; exact h1) hls (by show List.map _ _ = _; rw [List.map_append, List.map_reverse]; rfl) (hcat r h3) hd (hfit r z h5 h7 h8)
  | invokespecial idx =>
    rcases hok with ⟨hk0, o1, o2, o3⟩ | ⟨hk3, M', hM', hini, hcode, hnm, hlink, -, hvi, -⟩
    · dsimp only at hk0
      rcases h with ⟨-, hd0, p0, r, rfl, h3, h5⟩ | ⟨h0, -⟩ | ⟨-, h0, -⟩
      · have hRL : 20 ≤ R.locals := by
          have h9 : 1 * K ≤ d * K := Nat.mul_le_mul_right K (by omega)
          omega
        have h8 := hcat r h3
        refine W.objInit hx hb hown (hts _ o1) (hts _ o2) (hts _ o3) rfl (by show ls.size = _; rw [hml]; exact hls) rfl hd (by omega) (by omega) ?_
        refine W.eq (g2 := F0 m (pc + 3) ls (r.map (x_v b0 b))) rfl ?_
        exact kk _ _ _ _ _ _ _ h5 ⟨hP, hS, hc1, hc2, hu⟩
      · exfalso; rcases h0 with h0 | h0 <;> exact absurd (hk0.symm.trans h0) (by decide)
      · exact absurd hk0 h0
    · obtain ⟨v1, v2, v3⟩ := hvi hk3
      rcases h with ⟨h0, -⟩ | ⟨h0, -⟩ | ⟨-, -, As, p0, r, fs, z, h1, rfl, hcell, h3, h4, h5⟩
      · exfalso; rcases hk3 with h9 | h9 <;> exact absurd (h0.symm.trans h9) (by decide)
      · exfalso; rcases hk3 with h9 | h9 <;> rcases h0 with h0 | h0 <;> exact absurd (h0.symm.trans h9) (by decide)
      · obtain ⟨d', h6, h7, h8, hMet⟩ := hcall _ _ _ _ _ h4 hM' hu
        refine hgo r z ((Value.ref (p0 + 8) :: As).map (x_v b0 b)).toArray h5 h7 h8 ?_
        have hcode' : Jvm.Cond.code M'.1 M'.2.1 M'.2.2.1 none ∈ T := by rw [← v2]; exact hcode
        have hw' : x_w T M' = Jvm.Cond.code M'.1 M'.2.1 M'.2.2.1 none :: T := by unfold x_w; rw [v2]
        rcases hlink with ⟨-, hl⟩ | ⟨-, host, hl⟩
        · exact va_runI (b := b + p0) (As := As.map (x_v b0 b)) hFix hMet ⟨callB_of q.2.1 hts (hG M' hcode) hw' rfl rfl (hts _ hini) (hts _ hl) hnm (hRm _ _ _ M' h6 (hKm _ _ hM')), v1, hts _ v3⟩ ⟨x_Pc_blind, hpre (.ref (p0 + 8) :: As)⟩ rfl (by rw [List.length_map]; exact h1) hls (by show List.map _ _ = _; rw [List.map_append, List.map_reverse]; rfl) (hcat r h3) hd (hfit r z h5 h7 h8)
        · have hX9 := hX.2.2.2.1 _ hl
          exact va_runIN (b := b + p0) (As := As.map (x_v b0 b)) hFix hMet ⟨va_cnB q.2.1 hts (hG M' hcode) hw' rfl rfl hX9 (hts _ hini) hnm (hRm _ _ _ M' h6 (hKm _ _ hM')), v1, hts _ v3⟩ ⟨x_Pc_blind, hpre (.ref (p0 + 8) :: As)⟩ rfl (by rw [List.length_map]; exact h1) hls (by show List.map _ _ = _; rw [List.map_append, List.map_reverse]; rfl) (hcat r h3) hd (hfit r z h5 h7 h8)
  | _ => simp [x_kind] at hki
/-- what length and charAt of a text do: to be shown once -/
def x_St (os : xT) (l : Launch) (T : List Jvm.Cond) (K : Nat) (D : va_G) (cl : List vw_C) (tyl : List FieldType) (ca : FieldType → ClassId) (b0 : Nat → Nat) (b : Nat) (scr : xZ) (cL cC : ByteArray) : Prop :=
  ∀ (p0 : Nat) (u : List xC), 4 ≤ p0 → p0 < 8 → x_oku tyl u →
    Met l x_yL (Jvm.Cond.code x_yL cL 1 (some .int) :: T) (x_rm K 11 0 0) (x_Pc os D cl tyl ca b0 b scr [.ref p0] u) (x_Qc D cl tyl ca b0 b (some (.int (Int32.ofNat (scr.2 p0).length)), u)) 0 0 (fun q => b ≤ q) ∧
    ∀ i : Int32, vp_in i (scr.2 p0).length → Met l x_yC (Jvm.Cond.code x_yC cC 2 (some .char) :: T) (x_rm K 11 0 0) (x_Pc os D cl tyl ca b0 b scr [.ref p0, .int i] u) (x_Qc D cl tyl ca b0 b (some (.int ((scr.2 p0).getD i.toNatClampNeg 0)), u)) 0 0 (fun q => b ≤ q)
theorem x_tx_inv {ρ : Type} {res : ρ} {t : Nat} {k : List Value → Option ρ} (h : x_tx scr t st k = some res) : (t = 8 ∧ ∃ p0 r, st = .ref p0 :: r ∧ 4 ≤ p0 ∧ p0 < 8 ∧ k (.int (Int32.ofNat (scr.2 p0).length) :: r) = some res) ∨ (¬ t = 8 ∧ ∃ i p0 r, st = .int i :: .ref p0 :: r ∧ 4 ≤ p0 ∧ p0 < 8 ∧ vp_in i (scr.2 p0).length ∧ k (.int ((scr.2 p0).getD i.toNatClampNeg 0) :: r) = some res) := by
  unfold x_tx at h
  split at h
  · split at h
    · split at h
      · rename_i h1 _ _ _ h2
        exact .inl ⟨h1, _, _, rfl, h2.1, h2.2, h⟩
      · exact x_no h
    · exact x_no h
  · split at h
    · split at h
      · rename_i h1 _ _ _ _ h2
        obtain ⟨h3, h⟩ := x_in_inv h
        exact .inr ⟨h1, _, _, _, rfl, h2.1, h2.2, h3, h⟩
      · exact x_no h
    · exact x_no h
set_option maxHeartbeats 8000000 in
/-- what is no method of ours -/
theorem x_bi_ok {K d : Nat} {call : Nat → List Value → List xC → Option xR} {k : Nat → List Value → List xC → Option xR}
    (hT : ∀ w ∈ T, (w.onTables && w.keeps) = true ∨ ∃ ty, w = .arrayClass ty) (hK20 : 30 ≤ K) (hSt : x_St os l T K D cl tyl ca b0 b scr cL cC)
    (hF : x_Fix os T D cl tyl ca b0 b scr u0 M p s m args meth c) (hok : x_okI os cL cC T cl tyf tyl P M pc x) (hki : x_kind x.1 = 4) (hq7 : 7 ≤ x.2.2.1.2.2.1) (hI : x_Inv D cl tyl ca b0 b s u0 u H locs cells slots) (hls : ls.size = M.2.2.1) (hdR : d ≤ R.frames) (hdL : d * K ≤ R.locals)
    (h : x_inv scr call d x.2.2.1 x.2.1 pc st u k = some res)
    (hroom : ∀ pc' st' u', k pc' st' u' = some res → u'.length ≤ R.cells + u0.length ∧ x_sz u' ≤ R.slots + x_sz u0)
    (kk : ∀ pc' st' u' H' locs' cells' slots', k pc' st' u' = some res → x_Inv D cl tyl ca b0 b s u0 u' H' locs' cells' slots' → W p l e R s m args below meth c H' locs' cells' slots' Q (F0 m pc' ls (st'.map (x_v b0 b)))) :
    W p l e R s m args below meth c H locs cells slots Q (F0 m pc ls (st.map (x_v b0 b))) := by
  obtain ⟨hx, hb, hml, hr, hmn, hown, hts, hKK, hX, hsz, hlocks⟩ := hF
  obtain ⟨hP, hS, hc1, hc2, hu⟩ := hI
  have hD : va_D (fun q => b ≤ q) (x_ws ca b0 b b u) := x_ws_D u
  obtain ⟨i, n, q, cst⟩ := x
  obtain ⟨hd, -, hok⟩ := hok
  dsimp only at h hki hd hq7
  replace h := x_bi_inv hq7 h
  obtain ⟨hn3, hd12, h⟩ := h
  subst hn3
  have hfr : 1 ≤ R.frames := by omega
  have hnf : nativeFrameWords "java/lang/System" "arraycopy" 5 + 11 ≤ 300 := by decide
  have hRL : 12 * 30 ≤ R.locals := Nat.le_trans (Nat.mul_le_mul hd12 hK20) hdL
  have hmls : c.maxLocals = ls.size := hml.trans hls.symm
  have hcs : ∀ (r : List Value), (r.map fun v => v.category).sum ≤ 8 → ((r.map (x_v b0 b)).map fun v => v.category).sum ≤ 8 := fun r h9 => by rw [x_cats]; exact h9
  have hfit : ∀ pc' st', k pc' st' u = some res → cells ≤ R.cells ∧ slots ≤ R.slots := fun pc' st' h9 => by
    obtain ⟨r1, r2⟩ := hroom _ _ _ h9
    exact ⟨by omega, by omega⟩
  cases i with
  | invokestatic idx =>
    rcases hok with hok | ⟨hok, -⟩
    · dsimp only [x_lkB] at hok
      rcases hok with ⟨e7, w1, w2, w3, w4⟩ | ⟨e7, w1, w2, w3, w4⟩ | ⟨e7, w1, w2, w3, w4⟩ | ⟨e7, w1, w2, w3, w4⟩ | ⟨e7, w1, w2, w3, w4⟩ | ⟨e7, w1, w2, w3, w4⟩
      · have h := h.resolve_right (fun z => by rcases z with ⟨z, -⟩ | ⟨z, -⟩ <;> omega)
        obtain ⟨nn, dp, p1, sp, p0, r, rfl, g1, g2, g3, h⟩ := x_cp_inv h.2
        rcases h with ⟨N1, g, N0, f, hu1, g4, g5, hsrc, h⟩ | ⟨N1, g, N0, f, p2, hu1, g4, g5, rfl, hu2, h⟩
        · obtain ⟨hlow, h⟩ := x_low_inv h
          have hlow' := hcs r hlow
          have hty : FieldType.int ∈ tyl := x_oku_at hu hu1
          obtain ⟨t1, ht1⟩ := x_tyAt (ca := ca) hty
          have hnext : ∀ (H1 : Heap) (locs1 : List Loc), va_P D cl ((x_ws ca b0 b b u).set p1 (b + p1, .inl (ca .int, N1, .inl (va_cpy f g sp.toNatClampNeg dp.toNatClampNeg nn.toNatClampNeg)))) H1 → va_D (fun q => b ≤ q) ((x_ws ca b0 b b u).set p1 (b + p1, .inl (ca .int, N1, .inl (va_cpy f g sp.toNatClampNeg dp.toNatClampNeg nn.toNatClampNeg)))) → va_S (fun q => b ≤ q) s.heap H1 locs1 → W p l e R s m args below meth c H1 locs1 cells slots Q (F0 m (pc + 3) ls (r.map (x_v b0 b))) := by
            intro H1 locs1 hP1 _ hS1
            rw [show (x_ws ca b0 b b u).set p1 (b + p1, .inl (ca .int, N1, .inl (va_cpy f g sp.toNatClampNeg dp.toNatClampNeg nn.toNatClampNeg))) = x_ws ca b0 b b (u.set p1 (.inl (.int, N1, .inl (va_cpy f g sp.toNatClampNeg dp.toNatClampNeg nn.toNatClampNeg)))) from x_ws_set u b p1 (.inl (.int, N1, .inl (va_cpy f g sp.toNatClampNeg dp.toNatClampNeg nn.toNatClampNeg)))] at hP1
            exact kk _ _ _ _ _ _ _ h ⟨hP1, hS1, by rw [List.length_set]; exact hc1, hc2.trans (Eq.symm (x_sz_set _ _ _ _ hu1 rfl)), x_oku_set hu hty⟩
          rcases hsrc with ⟨p2, rfl, hu2⟩ | ⟨h4, rfl, rfl⟩
          · exact va_copyi hx hb hmls hown (hts _ w1) (hts _ w2) (hts _ w3) (hts _ w4) hKK hP hD hS p2 p1 t1 t1 (x_ws_at hu2) (x_ws_at hu1) ht1 ht1 rfl g1 g2 g3 g4 g5 (fun _ _ => rfl) hfr (by omega) hd hnext
          · show W p l e R s m args below meth c H locs cells slots Q (F0 m pc ls (.int nn :: .int dp :: .ref (b + p1) :: .int sp :: x_v b0 b (.ref p0) :: r.map (x_v b0 b)))
            rw [x_v_old (p := p0) b0 b (Nat.lt_trans h4 (by decide))]
            exact x_copyt hx hb hmls hown (hts _ w1) (hts _ w2) (hts _ w3) (hts _ w4) hKK hP hD hS (hX.1 p0 h4) p1 t1 (x_ws_at hu1) ht1 g1 g2 g3 g4 g5 hfr (by omega) hd hnext
        · obtain ⟨hlow, h⟩ := x_low_inv h
          have hlow' := hcs r hlow
          have hty : FieldType.long ∈ tyl := x_oku_at hu hu1
          obtain ⟨t1, ht1⟩ := x_tyAt (ca := ca) hty
          refine va_copyl hx hb hmls hown (hts _ w1) (hts _ w2) (hts _ w3) (hts _ w4) hKK hP hD hS p2 p1 t1 t1 (x_ws_at hu2) (x_ws_at hu1) ht1 ht1 rfl g1 g2 g3 g4 g5 (fun _ _ => rfl) hfr (by omega) hd (fun H1 locs1 hP1 _ hS1 => ?_)
          rw [show (x_ws ca b0 b b u).set p1 (b + p1, .inl (ca .long, N1, .inr (.inl (va_cpy f g sp.toNatClampNeg dp.toNatClampNeg nn.toNatClampNeg)))) = x_ws ca b0 b b (u.set p1 (.inl (.long, N1, .inr (.inl (va_cpy f g sp.toNatClampNeg dp.toNatClampNeg nn.toNatClampNeg))))) from x_ws_set u b p1 (.inl (.long, N1, .inr (.inl (va_cpy f g sp.toNatClampNeg dp.toNatClampNeg nn.toNatClampNeg))))] at hP1
          exact kk _ _ _ _ _ _ _ h ⟨hP1, hS1, by rw [List.length_set]; exact hc1, hc2.trans (Eq.symm (x_sz_set _ _ _ _ hu1 rfl)), x_oku_set hu hty⟩
      all_goals
        have h := (h.resolve_left (fun z => by omega)).resolve_left (fun z => by omega)
        have h := h.2
        rw [e7] at h
        simp only [x_ma, if_neg (show ¬ (11 : Nat) = 10 by decide), if_neg (show ¬ (12 : Nat) = 10 by decide), if_neg (show ¬ (12 : Nat) = 11 by decide), if_neg (show ¬ (13 : Nat) = 10 by decide), if_neg (show ¬ (13 : Nat) = 11 by decide), if_neg (show ¬ (13 : Nat) = 12 by decide), if_neg (show ¬ (14 : Nat) = 10 by decide), if_neg (show ¬ (14 : Nat) = 11 by decide), if_neg (show ¬ (14 : Nat) = 12 by decide), if_neg (show ¬ (14 : Nat) = 13 by decide), if_true] at h
        split at h
      · obtain ⟨hlow, h⟩ := x_low_inv h
        obtain ⟨f1, f2⟩ := hfit _ _ h
        exact va_mmax hx hb hmls hown (hts _ w1) (hts _ w2) (hts _ w3) (hts _ w4) hfr (by have := hcs _ hlow; simp only [List.drop_succ_cons, List.drop_zero] at this; omega) f1 f2 hd (kk _ _ _ _ _ _ _ h ⟨hP, hS, hc1, hc2, hu⟩)
      · exact x_no h
      · obtain ⟨hlow, h⟩ := x_low_inv h
        obtain ⟨f1, f2⟩ := hfit _ _ h
        exact va_mmin hx hb hmls hown (hts _ w1) (hts _ w2) (hts _ w3) (hts _ w4) hfr (by have := hcs _ hlow; simp only [List.drop_succ_cons, List.drop_zero] at this; omega) f1 f2 hd (kk _ _ _ _ _ _ _ h ⟨hP, hS, hc1, hc2, hu⟩)
      · exact x_no h
      · obtain ⟨hlow, h⟩ := x_low_inv h
        obtain ⟨f1, f2⟩ := hfit _ _ h
        exact va_mmax_long hx hb hmls hown (hts _ w1) (hts _ w2) (hts _ w3) (hts _ w4) hfr (by have := hcs _ hlow; simp only [List.drop_succ_cons, List.drop_zero] at this; omega) f1 f2 hd (kk _ _ _ _ _ _ _ h ⟨hP, hS, hc1, hc2, hu⟩)
      · exact x_no h
      · obtain ⟨hlow, h⟩ := x_low_inv h
        obtain ⟨f1, f2⟩ := hfit _ _ h
        exact va_mmin_long hx hb hmls hown (hts _ w1) (hts _ w2) (hts _ w3) (hts _ w4) hfr (by have := hcs _ hlow; simp only [List.drop_succ_cons, List.drop_zero] at this; omega) f1 f2 hd (kk _ _ _ _ _ _ _ h ⟨hP, hS, hc1, hc2, hu⟩)
      · exact x_no h
      · obtain ⟨hlow, h⟩ := x_low_inv h
        obtain ⟨f1, f2⟩ := hfit _ _ h
        exact va_mabs_long hx hb hmls hown (hts _ w1) (hts _ w2) (hts _ w3) (hts _ w4) hfr (by have := hcs _ hlow; simp only [List.drop_succ_cons, List.drop_zero] at this; omega) f1 f2 hd (kk _ _ _ _ _ _ _ h ⟨hP, hS, hc1, hc2, hu⟩)
      · exact x_no h
    · exfalso; dsimp only at hok; rcases hok with h9 | h9 <;> rw [h9] at hq7 <;> exact absurd hq7 (by decide)
  | invokevirtual idx =>
    rcases hok with hok | ⟨hok, -⟩
    · dsimp only [x_lkS] at hok
      refine x_size (fun hz0 => ?_)
      have hlow0 : b + u.length ≤ H.size := x_lower hP (by have := hS.1; omega)
      have hHs : H.size = b + u.length := by omega
      have hXH : x_O os b0 b scr s H := hX.kept hS.2.1
      have hpre : ∀ (As : List Value) (U : State), U.heap = H → s.WarmedH U.vm → x_Pc os D cl tyl ca b0 b scr As u (As.map (x_v b0 b)).toArray U := fun As U hU hW => ⟨rfl, by rw [hU]; exact hHs, by rw [hU]; exact hP, va_K.moved hW.alike hKK, by rw [hU]; exact hXH.moved hW.alike (fun _ _ h9 => h9.warm hW) (fun _ _ h9 => h9.warmM hW)⟩
      have hFix : CallFix p m c M.2.1 M.2.2.1 s args T M.1.cls := ⟨hx, hb, hml, hown, hts⟩
      have hRm : ∀ mL : Nat, mL ≤ 2 → (x_rm K 11 0 0).frames + 1 ≤ R.frames ∧ 8 + (mL + 11) + (x_rm K 11 0 0).locals ≤ R.locals := by
        intro mL hmL
        refine ⟨Nat.le_trans hd12 hdR, ?_⟩
        show 8 + (mL + 11) + 11 * K ≤ R.locals
        have h9 : 12 * K ≤ d * K := Nat.mul_le_mul_right K hd12
        omega
      have hcat : ∀ r : List Value, (r.map fun v => v.category).sum ≤ 8 → 2 * (F0 m pc ls (st.map (x_v b0 b))).monitorRoom + ((r.map (x_v b0 b)).map fun v => v.category).sum ≤ 8 := fun r hr8 => lv_room (by rw [x_cats]; exact hr8)
      have hG : ∀ w0 : Jvm.Cond, w0 ∈ T → GoodIn T (w0 :: T) := by
        intro w0 hw0 w hw
        rcases List.mem_cons.mp hw with rfl | hw
        · exact ⟨hw0, hT _ hw0⟩
        · exact ⟨hw, hT _ hw⟩
      have hrecv : ∀ p0 : Nat, 4 ≤ p0 → p0 < 8 → ∃ cellB : Cell, H[b0 p0]? = some cellB ∧ cellB.vm.isStatics = false ∧ s.vm.findClass "java/lang/String" = some cellB.cls := by
        intro p0 h4 h8
        obtain ⟨adV, hv⟩ := hX.2.2.2.2.2
        have h9 := vk_recv hv (show p0 - 4 < 4 by omega) hS
        rw [show 4 + (p0 - 4) = p0 by omega] at h9
        exact h9
      rcases hok with ⟨e7, w1, w2, w3, w4, w5⟩ | ⟨e7, w1, w2, w3, w4, w5⟩
      · have h := (h.resolve_left (fun z => by omega)).resolve_right (fun z => by omega)
        rcases x_tx_inv h.2.2 with ⟨-, p0, r, rfl, g4, g8, h⟩ | ⟨h9, -⟩
        · obtain ⟨hlow, h⟩ := x_low_inv h
          have hlow : (r.map fun v => v.category).sum ≤ 8 := hlow
          have hMet := (hSt p0 u g4 g8 hu).1
          refine x_callR (z := (some (.int (Int32.ofNat (scr.2 p0).length)), u)) (mc := 0) (ms := 0) (rest := r.map (x_v b0 b)) (arr := (([Value.ref p0] : List Value).map (x_v b0 b)).toArray) ?_ hS (fun H1 locs1 hP1 hS1 hu1 => kk _ _ _ _ _ _ _ h ⟨hP1, hS1, hc1, hc2, hu1⟩)
          refine va_runV (b := b0 p0) (As := []) hFix hMet ⟨callB_of 0 hts (hG _ w3) rfl rfl rfl (hts _ w2) (hts _ w1) ⟨by decide, by decide, by decide⟩ (hRm 1 (by decide)), hts _ w4, hts _ w5⟩ ⟨x_Pc_blind, hrecv p0 g4 g8, ?_⟩ rfl rfl hls ?_ (hcat r hlow) hd ⟨by have := (hfit _ _ h).1; omega, by have := (hfit _ _ h).2; omega⟩
          · have h9 := hpre [.ref p0]
            rw [List.map_cons, x_v_old (p := p0) b0 b g8] at h9
            exact h9
          · show x_v b0 b (.ref p0) :: _ = _
            rw [x_v_old (p := p0) b0 b g8]
            rfl
        · exact absurd e7 h9
      · have h := (h.resolve_left (fun z => by omega)).resolve_right (fun z => by omega)
        rcases x_tx_inv h.2.2 with ⟨h9, -⟩ | ⟨-, i, p0, r, rfl, g4, g8, g9, h⟩
        · exfalso; omega
        · obtain ⟨hlow, h⟩ := x_low_inv h
          have hlow : (r.map fun v => v.category).sum ≤ 8 := hlow
          have hMet := (hSt p0 u g4 g8 hu).2 i g9
          refine x_callR (z := (some (.int ((scr.2 p0).getD i.toNatClampNeg 0)), u)) (mc := 0) (ms := 0) (rest := r.map (x_v b0 b)) (arr := (([Value.ref p0, Value.int i] : List Value).map (x_v b0 b)).toArray) ?_ hS (fun H1 locs1 hP1 hS1 hu1 => kk _ _ _ _ _ _ _ h ⟨hP1, hS1, hc1, hc2, hu1⟩)
          refine va_runV (b := b0 p0) (As := [.int i]) hFix hMet ⟨callB_of 1 hts (hG _ w3) rfl rfl rfl (hts _ w2) (hts _ w1) ⟨by decide, by decide, by decide⟩ (hRm 2 (by decide)), hts _ w4, hts _ w5⟩ ⟨x_Pc_blind, hrecv p0 g4 g8, ?_⟩ rfl rfl hls ?_ (hcat r hlow) hd ⟨by have := (hfit _ _ h).1; omega, by have := (hfit _ _ h).2; omega⟩
          · have h9 := hpre [.ref p0, .int i]
            rw [List.map_cons, x_v_old (p := p0) b0 b g8] at h9
            exact h9
          · show Value.int i :: x_v b0 b (.ref p0) :: _ = _
            rw [x_v_old (p := p0) b0 b g8]
            rfl
    · exfalso; dsimp only at hok; rcases hok with h9 | h9 <;> rw [h9] at hq7 <;> exact absurd hq7 (by decide)
  | invokespecial idx =>
    exfalso
    rcases hok with ⟨hok, -⟩ | ⟨hok, -⟩
    · dsimp only at hok; rw [hok] at hq7; exact absurd hq7 (by decide)
    · dsimp only at hok; rcases hok with h9 | h9 <;> rw [h9] at hq7 <;> exact absurd hq7 (by decide)
  | _ => simp [x_kind] at hki
/-- its end, in a method -/
theorem x_ret_ok {i : Instr} {n : Nat} (hF : x_Fix os T D cl tyl ca b0 b scr u0 M p s m args meth c) (hI : x_Inv D cl tyl ca b0 b s u0 u H locs cells slots) (hd : decode M.2.1 pc = .ok (i, n)) (h : x_ret i n M.2.2.2.1 st u = some res) :
    W p l e R s m args below meth c H locs cells slots (MQ below (x_Qc D cl tyl ca b0 b res) args s cells slots (fun q => b ≤ q)) (F0 m pc ls (st.map (x_v b0 b))) := by
  obtain ⟨hx, hb, hml, hr, hmn, hown, hts, hKK, hX, hsz, hlocks⟩ := hF
  obtain ⟨hP, hS, hc1, hc2, hu⟩ := hI
  generalize M.2.2.2.1 = ty at h hr
  cases i with
  | ireturn =>
    simp only [x_ret] at h
    split at h
    · split at h
      · rename_i hn; subst hn
        cases h
        exact W.iret hx hb hr (fun t ht hW => ⟨rfl, by rw [ht]; exact hP, hS.F ht, hu⟩) hS.2.2 hd hlocks
      · exact x_no h
    · split at h
      · rename_i hn; subst hn
        split at h
        · rename_i hv
          cases h
          exact W.zret hx hb hr (by rcases hv with rfl | rfl <;> rfl) (fun t ht hW => ⟨rfl, by rw [ht]; exact hP, hS.F ht, hu⟩) hS.2.2 hd hlocks
        · exact x_no h
      · exact x_no h
    · exact x_no h
  | lreturn =>
    simp only [x_ret] at h
    split at h
    · split at h
      · rename_i hn; subst hn
        cases h
        exact W.lret hx hb hr (fun t ht hW => ⟨rfl, by rw [ht]; exact hP, hS.F ht, hu⟩) hS.2.2 hd hlocks
      · exact x_no h
    · exact x_no h
  | areturn =>
    simp only [x_ret] at h
    split at h
    · split at h
      · rename_i hn; subst hn
        cases h
        exact W.aret hx hb hr (.inl ⟨_, rfl⟩) (.inr ⟨_, rfl⟩) (fun t ht hW => ⟨rfl, by rw [ht]; exact hP, hS.F ht, hu⟩) hS.2.2 hd hlocks
      · exact x_no h
    · split at h
      · rename_i hn; subst hn
        cases h
        exact W.aret hx hb hr (.inr ⟨_, rfl⟩) (.inr ⟨_, rfl⟩) (fun t ht hW => ⟨rfl, by rw [ht]; exact hP, hS.F ht, hu⟩) hS.2.2 hd hlocks
      · exact x_no h
    · exact x_no h
  | return_ =>
    simp only [x_ret] at h
    split at h
    · split at h
      · rename_i hn; subst hn
        cases h
        exact W.vret hx hb hr (fun t ht hW => ⟨rfl, by rw [ht]; exact hP, hS.F ht, hu⟩) hS.2.2 hd hlocks
      · exact x_no h
    · exact x_no h
  | _ => exact x_no h
end
end
section
section
variable {ρ : Type} {res : ρ}
theorem x_pure_ex {i : Instr} {n : Nat} {st : List Value} {k : List Value → Option ρ} (h : x_pure i n st k = some res) : ∃ st', k st' = some res := by
  cases i with
  | iconst c => exact ⟨_, (x_push_inv h).2⟩
  | bipush c => exact ⟨_, (x_push_inv h).2⟩
  | sipush c => exact ⟨_, (x_push_inv h).2⟩
  | lconst c => exact ⟨_, (x_push_inv h).2⟩
  | aconst_null => exact ⟨_, (x_push_inv h).2⟩
  | iadd =>
    obtain ⟨-, x, y, r, -, h⟩ := x_ii_inv h
    exact ⟨_, h⟩
  | isub =>
    obtain ⟨-, x, y, r, -, h⟩ := x_ii_inv h
    exact ⟨_, h⟩
  | imul =>
    obtain ⟨-, x, y, r, -, h⟩ := x_ii_inv h
    exact ⟨_, h⟩
  | iand =>
    obtain ⟨-, x, y, r, -, h⟩ := x_ii_inv h
    exact ⟨_, h⟩
  | ior =>
    obtain ⟨-, x, y, r, -, h⟩ := x_ii_inv h
    exact ⟨_, h⟩
  | ixor =>
    obtain ⟨-, x, y, r, -, h⟩ := x_ii_inv h
    exact ⟨_, h⟩
  | ishl =>
    obtain ⟨-, x, y, r, -, h⟩ := x_ii_inv h
    exact ⟨_, h⟩
  | ishr =>
    obtain ⟨-, x, y, r, -, h⟩ := x_ii_inv h
    exact ⟨_, h⟩
  | iushr =>
    obtain ⟨-, x, y, r, -, h⟩ := x_ii_inv h
    exact ⟨_, h⟩
  | idiv =>
    obtain ⟨-, x, y, r, -, -, h⟩ := x_id_inv h
    exact ⟨_, h⟩
  | irem =>
    obtain ⟨-, x, y, r, -, -, h⟩ := x_id_inv h
    exact ⟨_, h⟩
  | ladd =>
    obtain ⟨-, x, y, r, -, h⟩ := x_ll_inv h
    exact ⟨_, h⟩
  | lsub =>
    obtain ⟨-, x, y, r, -, h⟩ := x_ll_inv h
    exact ⟨_, h⟩
  | lmul =>
    obtain ⟨-, x, y, r, -, h⟩ := x_ll_inv h
    exact ⟨_, h⟩
  | land =>
    obtain ⟨-, x, y, r, -, h⟩ := x_ll_inv h
    exact ⟨_, h⟩
  | lor =>
    obtain ⟨-, x, y, r, -, h⟩ := x_ll_inv h
    exact ⟨_, h⟩
  | lxor =>
    obtain ⟨-, x, y, r, -, h⟩ := x_ll_inv h
    exact ⟨_, h⟩
  | ldiv =>
    obtain ⟨-, x, y, r, -, -, h⟩ := x_ld_inv h
    exact ⟨_, h⟩
  | lrem =>
    obtain ⟨-, x, y, r, -, -, h⟩ := x_ld_inv h
    exact ⟨_, h⟩
  | lshl =>
    obtain ⟨-, x, y, r, -, h⟩ := x_li_inv h
    exact ⟨_, h⟩
  | lshr =>
    obtain ⟨-, x, y, r, -, h⟩ := x_li_inv h
    exact ⟨_, h⟩
  | lushr =>
    obtain ⟨-, x, y, r, -, h⟩ := x_li_inv h
    exact ⟨_, h⟩
  | lcmp =>
    obtain ⟨-, x, y, r, -, h⟩ := x_lli_inv h
    exact ⟨_, h⟩
  | ineg =>
    obtain ⟨-, x, r, -, h⟩ := x_i1_inv h
    exact ⟨_, h⟩
  | i2b =>
    obtain ⟨-, x, r, -, h⟩ := x_i1_inv h
    exact ⟨_, h⟩
  | i2s =>
    obtain ⟨-, x, r, -, h⟩ := x_i1_inv h
    exact ⟨_, h⟩
  | i2c =>
    obtain ⟨-, x, r, -, h⟩ := x_i1_inv h
    exact ⟨_, h⟩
  | lneg =>
    obtain ⟨-, x, r, -, h⟩ := x_l1_inv h
    exact ⟨_, h⟩
  | i2l =>
    obtain ⟨-, x, r, -, h⟩ := x_i2_inv h
    exact ⟨_, h⟩
  | l2i =>
    obtain ⟨-, x, r, -, h⟩ := x_l2_inv h
    exact ⟨_, h⟩
  | dup =>
    obtain ⟨-, v, r, -, -, h⟩ := x_s1'_inv h
    exact ⟨_, h⟩
  | pop =>
    obtain ⟨-, v, r, -, -, h⟩ := x_s1'_inv h
    exact ⟨_, h⟩
  | dup_x1 =>
    obtain ⟨-, v, w, r, -, -, -, h⟩ := x_s2'_inv h
    exact ⟨_, h⟩
  | dup2_x1 =>
    obtain ⟨-, v, w, r, -, -, -, h⟩ := x_s2'_inv h
    exact ⟨_, h⟩
  | dup_x2 =>
    obtain ⟨-, v, w, z, r, -, -, -, -, h⟩ := x_s3'_inv h
    exact ⟨_, h⟩
  | dup2_x2 =>
    obtain ⟨-, v, w, z, r, -, -, -, -, h⟩ := x_s3'_inv h
    exact ⟨_, h⟩
  | dup2 =>
    replace h : x_d2 n (fun v r => v :: v :: r) (fun v w r => v :: w :: v :: w :: r) st k = some res := h
    obtain ⟨-, ⟨v, r, -, -, h⟩ | ⟨v, w, r, -, -, -, h⟩⟩ := x_d2_inv h
    · exact ⟨_, h⟩
    · exact ⟨_, h⟩
  | pop2 =>
    replace h : x_d2 n (fun _ r => r) (fun _ _ r => r) st k = some res := h
    obtain ⟨-, ⟨v, r, -, -, h⟩ | ⟨v, w, r, -, -, -, h⟩⟩ := x_d2_inv h
    · exact ⟨_, h⟩
    · exact ⟨_, h⟩
  | _ => exact x_no h
theorem x_loc_ex {i : Instr} {n : Nat} {lv : xL} {st : List Value} {k : xL → List Value → Option ρ} (h : x_loc i n lv st k = some res) : ∃ lv' st', k lv' st' = some res := by
  cases i with
  | iload j =>
    obtain ⟨-, x, -, h⟩ := x_ldi_inv h
    exact ⟨_, _, h⟩
  | iload_n j =>
    obtain ⟨-, x, -, h⟩ := x_ldi_inv h
    exact ⟨_, _, h⟩
  | istore j =>
    obtain ⟨-, x, r, -, h⟩ := x_sti_inv h
    exact ⟨_, _, h⟩
  | istore_n j =>
    obtain ⟨-, x, r, -, h⟩ := x_sti_inv h
    exact ⟨_, _, h⟩
  | lload j =>
    obtain ⟨-, x, -, h⟩ := x_ldl_inv h
    exact ⟨_, _, h⟩
  | lload_n j =>
    obtain ⟨-, x, -, h⟩ := x_ldl_inv h
    exact ⟨_, _, h⟩
  | lstore j =>
    obtain ⟨-, x, r, -, h⟩ := x_stl_inv h
    exact ⟨_, _, h⟩
  | lstore_n j =>
    obtain ⟨-, x, r, -, h⟩ := x_stl_inv h
    exact ⟨_, _, h⟩
  | aload j =>
    obtain ⟨-, ⟨x, -, h⟩ | ⟨-, h⟩⟩ := x_lda_inv h
    · exact ⟨_, _, h⟩
    · exact ⟨_, _, h⟩
  | aload_n j =>
    obtain ⟨-, ⟨x, -, h⟩ | ⟨-, h⟩⟩ := x_lda_inv h
    · exact ⟨_, _, h⟩
    · exact ⟨_, _, h⟩
  | astore j =>
    obtain ⟨-, ⟨x, r, -, h⟩ | ⟨r, -, h⟩⟩ := x_sta_inv h
    · exact ⟨_, _, h⟩
    · exact ⟨_, _, h⟩
  | astore_n j =>
    obtain ⟨-, ⟨x, r, -, h⟩ | ⟨r, -, h⟩⟩ := x_sta_inv h
    · exact ⟨_, _, h⟩
    · exact ⟨_, _, h⟩
  | iinc j z =>
    obtain ⟨-, x, -, h⟩ := x_inc_inv h
    exact ⟨_, _, h⟩
  | _ => exact x_no h
theorem x_c0_ex {c : Jvm.ClassFile.Cond} {x : Int32} {a b : Option ρ} (h : x_c0 c x a b = some res) : a = some res ∨ b = some res := by
  cases c <;> simp only [x_c0] at h <;> split at h <;> first | exact .inl h | exact .inr h
theorem x_c2_ex {c : Jvm.ClassFile.Cond} {x y : Int32} {a b : Option ρ} (h : x_c2 c x y a b = some res) : a = some res ∨ b = some res := by
  cases c <;> simp only [x_c2] at h <;> split at h <;> first | exact .inl h | exact .inr h
theorem x_br_ex {i : Instr} {n pc : Nat} {st : List Value} {k : Nat → List Value → Option ρ} (h : x_br i n pc st k = some res) : ∃ pc' st', k pc' st' = some res := by
  cases i with
  | goto off =>
    simp only [x_br] at h
    split at h
    · obtain ⟨t, -, h⟩ := x_to_inv h
      exact ⟨_, _, h⟩
    · exact x_no h
  | ifCond z off =>
    simp only [x_br] at h
    split at h
    · split at h
      · obtain ⟨t, -, h⟩ := x_to_inv h
        rcases x_c0_ex h with h | h <;> exact ⟨_, _, h⟩
      · exact x_no h
    · exact x_no h
  | if_icmp z off =>
    simp only [x_br] at h
    split at h
    · split at h
      · obtain ⟨t, -, h⟩ := x_to_inv h
        rcases x_c2_ex h with h | h <;> exact ⟨_, _, h⟩
      · exact x_no h
    · exact x_no h
  | ifnull off =>
    simp only [x_br] at h
    split at h
    · split at h
      · obtain ⟨t, -, h⟩ := x_to_inv h
        exact ⟨_, _, h⟩
      · exact x_no h
    · split at h
      · exact ⟨_, _, h⟩
      · exact x_no h
    · exact x_no h
  | ifnonnull off =>
    simp only [x_br] at h
    split at h
    · split at h
      · exact ⟨_, _, h⟩
      · exact x_no h
    · split at h
      · obtain ⟨t, -, h⟩ := x_to_inv h
        exact ⟨_, _, h⟩
      · exact x_no h
    · exact x_no h
  | tableswitch dflt lo hi offs =>
    simp only [x_br] at h
    split at h
    · split at h
      · obtain ⟨t, -, h⟩ := x_to_inv h
        exact ⟨_, _, h⟩
      · split at h
        · obtain ⟨t, -, h⟩ := x_to_inv h
          exact ⟨_, _, h⟩
        · exact x_no h
    · exact x_no h
  | lookupswitch dflt ps =>
    simp only [x_br] at h
    split at h
    · split at h
      · obtain ⟨t, -, h⟩ := x_to_inv h
        exact ⟨_, _, h⟩
      · exact x_no h
    · exact x_no h
  | _ => exact x_no h
theorem x_heap_ex {scr : xZ} {df : Nat → List Value} {x : xI} {pc : Nat} {st : List Value} {u : List xC} {k : Nat → List Value → List xC → Option ρ} (h : x_heap scr df x pc st u k = some res) : ∃ pc' st' u', k pc' st' u' = some res ∧ u.length ≤ u'.length ∧ x_sz u ≤ x_sz u' := by
  obtain ⟨i, n, q, cst⟩ := x
  cases i with
  | getfield idx =>
    dsimp only [x_heap] at h
    obtain ⟨-, p0, r, fs, v, -, -, -, h⟩ := x_gf_inv h
    exact ⟨_, _, _, h, Nat.le_refl _, Nat.le_refl _⟩
  | putfield idx =>
    dsimp only [x_heap] at h
    obtain ⟨-, p0, r, fs, v, -, h1, -, h⟩ := x_pf_inv h
    exact ⟨_, _, _, (x_fit_inv h).1, by rw [List.length_set]; exact Nat.le_refl _, by rw [x_sz_set _ _ _ _ h1 (by simp [x_sz1])]; exact Nat.le_refl _⟩
  | iaload =>
    dsimp only [x_heap] at h
    obtain ⟨-, ⟨i, p0, r, -, -, -, h⟩ | ⟨i, p0, r, N, f, -, -, -, h⟩⟩ := x_ial_inv h
    · exact ⟨_, _, _, h, Nat.le_refl _, Nat.le_refl _⟩
    · exact ⟨_, _, _, h, Nat.le_refl _, Nat.le_refl _⟩
  | laload =>
    dsimp only [x_heap] at h
    obtain ⟨-, i, p0, r, N, f, -, -, -, h⟩ := x_lal_inv h
    exact ⟨_, _, _, h, Nat.le_refl _, Nat.le_refl _⟩
  | baload =>
    dsimp only [x_heap] at h
    obtain ⟨-, ty, i, p0, r, N, f, -, -, -, -, h⟩ := x_bal_inv h
    exact ⟨_, _, _, h, Nat.le_refl _, Nat.le_refl _⟩
  | iastore =>
    dsimp only [x_heap] at h
    obtain ⟨-, z, i, p0, r, N, f, -, h1, -, h⟩ := x_ias_inv h
    exact ⟨_, _, _, h, by rw [List.length_set]; exact Nat.le_refl _, Nat.le_of_eq (Eq.symm (x_sz_set _ _ _ _ h1 rfl))⟩
  | lastore =>
    dsimp only [x_heap] at h
    obtain ⟨-, z, i, p0, r, N, f, -, h1, -, h⟩ := x_las_inv h
    exact ⟨_, _, _, h, by rw [List.length_set]; exact Nat.le_refl _, Nat.le_of_eq (Eq.symm (x_sz_set _ _ _ _ h1 rfl))⟩
  | bastore =>
    dsimp only [x_heap] at h
    obtain ⟨-, ty, z, i, p0, r, N, f, -, -, h1, -, h⟩ := x_bas_inv h
    exact ⟨_, _, _, h, by rw [List.length_set]; exact Nat.le_refl _, Nat.le_of_eq (Eq.symm (x_sz_set _ _ _ _ h1 rfl))⟩
  | arraylength =>
    dsimp only [x_heap] at h
    obtain ⟨-, ⟨p0, r, -, -, h⟩ | ⟨p0, r, ty, a, -, -, h⟩⟩ := x_alen_inv h
    · exact ⟨_, _, _, h, Nat.le_refl _, Nat.le_refl _⟩
    · exact ⟨_, _, _, h, Nat.le_refl _, Nat.le_refl _⟩
  | new idx =>
    simp only [x_heap] at h
    split at h
    · exact ⟨_, _, _, h, by simp, by rw [x_sz_app]; omega⟩
    · exact x_no h
  | newarray t =>
    dsimp only [x_heap] at h
    obtain ⟨-, z, r, -, -, -, h⟩ := x_na_inv h
    obtain ⟨a, -, -, -, -, -, h⟩ := x_zero_inv h
    exact ⟨_, _, _, h, by simp, by rw [x_sz_app]; omega⟩
  | ldc idx =>
    simp only [x_heap] at h
    split at h
    · exact ⟨_, _, _, h, Nat.le_refl _, Nat.le_refl _⟩
    · exact x_no h
  | ldc_w idx =>
    simp only [x_heap] at h
    split at h
    · exact ⟨_, _, _, h, Nat.le_refl _, Nat.le_refl _⟩
    · exact x_no h
  | getstatic idx =>
    simp only [x_heap] at h
    split at h
    · exact ⟨_, _, _, h, Nat.le_refl _, Nat.le_refl _⟩
    · exact x_no h
  | ldc2_w idx =>
    simp only [x_heap] at h
    split at h
    · exact ⟨_, _, _, h, Nat.le_refl _, Nat.le_refl _⟩
    · exact x_no h
  | _ => exact x_no h
theorem x_ma_ex {t : Nat} {st : List Value} {k : List Value → Option ρ} (h : x_ma t st k = some res) : ∃ st', k st' = some res := by
  unfold x_ma at h
  repeat' split at h
  all_goals first | exact x_no h | exact ⟨_, h⟩
theorem x_tx_ex {scr : xZ} {t : Nat} {st : List Value} {k : List Value → Option ρ} (h : x_tx scr t st k = some res) : ∃ st', k st' = some res := by
  rcases x_tx_inv h with ⟨-, p0, r, -, -, -, h⟩ | ⟨-, i, p0, r, -, -, -, -, h⟩
  · exact ⟨_, h⟩
  · exact ⟨_, h⟩
end
theorem x_ret_u {i : Instr} {n : Nat} {ty : Option FieldType} {st : List Value} {u : List xC} {res : xR} (h : x_ret i n ty st u = some res) : res.2 = u := by
  cases i with
  | ireturn =>
    simp only [x_ret] at h
    split at h
    · split at h
      · cases h; rfl
      · exact x_no h
    · split at h
      · split at h
        · cases h; rfl
        · exact x_no h
      · exact x_no h
    · exact x_no h
  | lreturn =>
    simp only [x_ret] at h
    split at h
    · split at h
      · cases h; rfl
      · exact x_no h
    · exact x_no h
  | areturn =>
    simp only [x_ret] at h
    split at h
    · split at h
      · cases h; rfl
      · exact x_no h
    · split at h
      · cases h; rfl
      · exact x_no h
    · exact x_no h
  | return_ =>
    simp only [x_ret] at h
    split at h
    · split at h
      · cases h; rfl
      · exact x_no h
    · exact x_no h
  | _ => exact x_no h
/-- a run over the cells never has fewer of them -/
theorem x_exec_len {scr : xZ} {df : Nat → List Value} {P : Nat → Option xM} : ∀ (n d j pc : Nat) (lv : xL) (st : List Value) (u : List xC) (res : xR), x_exec scr df P n d j pc lv st u = some res → u.length ≤ res.2.length ∧ x_sz u ≤ x_sz res.2
  | 0, _, _, _, _, _, _, _, h => x_no h
  | n + 1, d, j, pc, lv, st, u, res, h => by
    have ih := x_exec_len (scr := scr) (df := df) (P := P) n
    unfold x_exec at h
    split at h
    · split at h
      · rename_i M _ _ x _
        unfold x_step at h
        split at h
        · obtain ⟨st', h⟩ := x_pure_ex h
          exact ih _ _ _ _ _ _ _ h
        · obtain ⟨lv', st', h⟩ := x_loc_ex h
          exact ih _ _ _ _ _ _ _ h
        · obtain ⟨pc', st', h⟩ := x_br_ex h
          exact ih _ _ _ _ _ _ _ h
        · obtain ⟨pc', st', u', h, h1, h2⟩ := x_heap_ex h
          obtain ⟨h3, h4⟩ := ih _ _ _ _ _ _ _ h
          exact ⟨Nat.le_trans h1 h3, Nat.le_trans h2 h4⟩
        · rcases Nat.lt_or_ge x.2.2.1.2.2.1 7 with hq | hq
          · obtain ⟨-, ⟨-, -, p0, r, -, -, h⟩ | ⟨-, As, r, z, -, -, -, hc, h⟩ | ⟨-, -, As, p0, r, fs, z, -, -, -, -, hc, h⟩⟩ := x_inv_inv (by omega) h
            · exact ih _ _ _ _ _ _ _ h
            · obtain ⟨h3, h4⟩ := ih _ _ _ _ _ _ _ h
              split at hc
              · exact x_no hc
              · split at hc
                · split at hc
                  · obtain ⟨h1, h2⟩ := ih _ _ _ _ _ _ _ hc
                    exact ⟨Nat.le_trans h1 h3, Nat.le_trans h2 h4⟩
                  · exact x_no hc
                · exact x_no hc
            · obtain ⟨h3, h4⟩ := ih _ _ _ _ _ _ _ h
              split at hc
              · exact x_no hc
              · split at hc
                · split at hc
                  · obtain ⟨h1, h2⟩ := ih _ _ _ _ _ _ _ hc
                    exact ⟨Nat.le_trans h1 h3, Nat.le_trans h2 h4⟩
                  · exact x_no hc
                · exact x_no hc
          · obtain ⟨-, -, ⟨-, h⟩ | ⟨-, -, h⟩ | ⟨-, h⟩⟩ := x_bi_inv hq h
            · obtain ⟨nn, dp, p1, sp, p0, r, -, -, -, -, ⟨N1, g, N0, f, hu1, -, -, -, h⟩ | ⟨N1, g, N0, f, p2, hu1, -, -, -, -, h⟩⟩ := x_cp_inv h
              · obtain ⟨h3, h4⟩ := ih _ _ _ _ _ _ _ (x_low_inv h).2
                rw [List.length_set] at h3
                refine ⟨h3, Nat.le_trans (Nat.le_of_eq (Eq.symm (x_sz_set _ _ _ _ hu1 ?_))) h4⟩; rfl
              · obtain ⟨h3, h4⟩ := ih _ _ _ _ _ _ _ (x_low_inv h).2
                rw [List.length_set] at h3
                refine ⟨h3, Nat.le_trans (Nat.le_of_eq (Eq.symm (x_sz_set _ _ _ _ hu1 ?_))) h4⟩; rfl
            · obtain ⟨st', h⟩ := x_tx_ex h
              exact ih _ _ _ _ _ _ _ (x_low_inv h).2
            · obtain ⟨st', h⟩ := x_ma_ex h
              exact ih _ _ _ _ _ _ _ (x_low_inv h).2
        · rw [x_ret_u h]
          exact ⟨Nat.le_refl _, Nat.le_refl _⟩
      · exact x_no h
    · exact x_no h
/-- what must be known of the whole program -/
def x_OK (os : xT) (cL cC : ByteArray) (T : List Jvm.Cond) (cl : List vw_C) (tyf : Nat → Nat → FieldType) (tyl : List FieldType) (df : Nat → List Value) (P : Nat → Option xM) (K : Nat) : Prop :=
  (∀ w ∈ T, (w.onTables && w.keeps) = true ∨ ∃ ty, w = .arrayClass ty) ∧ x_CL T cl tyf df ∧ 30 ≤ K ∧ (∀ (j : Nat) (M : xM), P j = some M → M.2.2.1 + 19 ≤ K ∧ plainName M.1.cls = true ∧ ∀ (pc : Nat) (x : xI), M.2.2.2.2 pc = some x → x_okI os cL cC T cl tyf tyl P M pc x)
set_option maxHeartbeats 8000000 in
/-- THE SOUND ROW: where the run over the cells ends, the machine comes to its end with these cells -/
theorem x_sound {l : Launch} {os : xT} {cL cC : ByteArray} {T : List Jvm.Cond} {D : va_G} {cl : List vw_C} {tyf : Nat → Nat → FieldType} {tyl : List FieldType} {ca : FieldType → ClassId} {b0 : Nat → Nat} {b : Nat} {scr : xZ} {df : Nat → List Value} {P : Nat → Option xM} {K : Nat} (hOK : x_OK os cL cC T cl tyf tyl df P K) (hSt : x_St os l T K D cl tyl ca b0 b scr cL cC) :
    ∀ (n d j : Nat) (M : xM), P j = some M → ∀ (p : Program) (e : Env) (R : Room) (s : State) (m : MethodId) (args : Array Value) (below : List Frame) (meth : Method) (c : Code) (Q : State → Prop) (u0 : List xC) (res : xR),
      x_Fix os T D cl tyl ca b0 b scr u0 M p s m args meth c → d ≤ R.frames → d * K ≤ R.locals → res.2.length ≤ R.cells + u0.length → x_sz res.2 ≤ R.slots + x_sz u0 →
      (∀ (i : Instr) (k pc : Nat) (st : List Value) (u : List xC) (H : Heap) (locs : List Loc) (cells slots : Nat) (ls : Array Slot), decode M.2.1 pc = .ok (i, k) → x_ret i k M.2.2.2.1 st u = some res → x_Inv D cl tyl ca b0 b s u0 u H locs cells slots → W p l e R s m args below meth c H locs cells slots Q (F0 m pc ls (st.map (x_v b0 b)))) →
      ∀ (pc : Nat) (lv : xL) (st : List Value) (u : List xC) (H : Heap) (locs : List Loc) (cells slots : Nat) (ls : Array Slot), x_exec scr df P n d j pc lv st u = some res → x_Inv D cl tyl ca b0 b s u0 u H locs cells slots → lv_has ls M.2.2.1 (x_lv b0 b lv) →
        W p l e R s m args below meth c H locs cells slots Q (F0 m pc ls (st.map (x_v b0 b)))
  | 0, _, _, _, _, _, _, _, _, _, _, _, _, _, _, _, _, _, _, _, _, _, _, _, _, _, _, _, _, _, _, _, h, _, _ => x_no h
  | n + 1, d, j, M, hM, p, e, R, s, m, args, below, meth, c, Q, u0, res, hF, hR1, hR2, hR3, hR4, hret, pc, lv, st, u, H, locs, cells, slots, ls, h, hI, hl => by
    have ih := x_sound (l := l) (D := D) (ca := ca) (scr := scr) hOK hSt n
    obtain ⟨hT, hCL, hK20, hPM⟩ := hOK
    obtain ⟨-, -, hcodes⟩ := hPM j M hM
    have hgo : ∀ (pc' : Nat) (lv' : xL) (st' : List Value) (u' : List xC) (H' : Heap) (locs' : List Loc) (cells' slots' : Nat) (ls' : Array Slot), x_exec scr df P n d j pc' lv' st' u' = some res → x_Inv D cl tyl ca b0 b s u0 u' H' locs' cells' slots' → lv_has ls' M.2.2.1 (x_lv b0 b lv') → W p l e R s m args below meth c H' locs' cells' slots' Q (F0 m pc' ls' (st'.map (x_v b0 b))) :=
      fun pc' lv' st' u' H' locs' cells' slots' ls' h' hI' hl' => ih d j M hM p e R s m args below meth c Q u0 res hF hR1 hR2 hR3 hR4 hret pc' lv' st' u' H' locs' cells' slots' ls' h' hI' hl'
    have hroom : ∀ (lv : xL) (pc' : Nat) (st' : List Value) (u' : List xC), x_exec scr df P n d j pc' lv st' u' = some res → u'.length ≤ R.cells + u0.length ∧ x_sz u' ≤ R.slots + x_sz u0 := by
      intro lv pc' st' u' h'
      obtain ⟨h1, h2⟩ := x_exec_len _ _ _ _ _ _ _ _ h'
      exact ⟨Nat.le_trans h1 hR3, Nat.le_trans h2 hR4⟩
    have hx := hF.1
    have hb := hF.2.1
    unfold x_exec at h
    rw [hM] at h
    dsimp only at h
    split at h
    · rename_i x hx0
      have hok := hcodes pc x hx0
      have hlc := x_cut_has x.2.2.2.2 hl
      unfold x_step at h
      split at h
      · exact x_pure_ok hx hb b0 b hok.1 h (fun st' h' => hgo _ _ _ _ _ _ _ _ _ h' hI hlc)
      · exact x_loc_ok hx hb b0 b hlc hok.1 hok.2.1 h (fun ls' lv' st' hl' h' => hgo _ _ _ _ _ _ _ _ _ h' hI hl')
      · exact x_br_ok hx hb b0 b hok.1 h (fun pc' st' h' => hgo _ _ _ _ _ _ _ _ _ h' hI hlc)
      · exact x_heap_ok hCL hF hok hI h (hroom _) (fun pc' st' u' H' locs' cells' slots' h' hI' => hgo _ _ _ _ _ _ _ _ _ h' hI' hlc)
      · rename_i hki
        rcases Nat.lt_or_ge x.2.2.1.2.2.1 7 with hq7 | hq7
        case inr => exact x_bi_ok hT hK20 hSt hF hok hki hq7 hI hl.1 hR1 hR2 h (hroom _) (fun pc' st' u' H' locs' cells' slots' h' hI' => hgo _ _ _ _ _ _ _ _ _ h' hI' hlc)
        refine x_inv_ok (K := K) (d := d) hT (fun j' M' h' => (hPM j' M' h').1) (by omega) ?_ hF hok hki (by omega) hI hl.1 hR1 hR2 h (hroom _) (fun pc' st' u' H' locs' cells' slots' h' hI' => hgo _ _ _ _ _ _ _ _ _ h' hI' hlc)
        intro j' As u' z M' hc hM' hu'
        split at hc
        · exact x_no hc
        · rename_i d'
          rw [hM'] at hc
          dsimp only at hc
          split at hc
          · rename_i hcat
            obtain ⟨h1, h2⟩ := x_exec_len _ _ _ _ _ _ _ _ hc
            refine ⟨d', rfl, h1, h2, ?_⟩
            refine Met.ofW (cc := M'.2.1) (maxL := M'.2.2.1) (ret := M'.2.2.2.1) (hPM j' M' hM').2.1 rfl ?_
            intro p e s m args below meth c s₁ B hml hv
            obtain ⟨rfl, hsz, hP, hK, hX⟩ := hv
            have hts := atoms_spec (ws := x_w T M') B.pre
            have hl' := lv_entry (As.map (x_v b0 b)) (n := M'.2.2.1) (by rw [x_sl_len, x_cats]; exact hcat)
            rw [lg_entry_eq]
            generalize (lg_sl (As.map (x_v b0 b)) ++ List.replicate (M'.2.2.1 - (lg_sl (As.map (x_v b0 b))).length) Slot.unset).toArray = ls at hl' ⊢
            rw [x_lv_args] at hl'
            have hF' : x_Fix os T D cl tyl ca b0 b scr u' M' p s m (As.map (x_v b0 b)).toArray meth c := ⟨B.exec, B.bytes, hml, B.returns, (name_of_methodNamed B.named B.method).1, findClass_of_methodNamed B.named, fun w hw => hts w (List.mem_cons_of_mem _ hw), hK, hX, hsz, B.notSynchronized⟩
            refine ih d' j' M' hM' p e (x_rm K d' (z.2.length - u'.length) (x_sz z.2 - x_sz u')) s m _ below meth c _ u' z hF' (Nat.le_refl _) (Nat.le_refl _) (by show z.2.length ≤ z.2.length - u'.length + u'.length; omega) (by show x_sz z.2 ≤ x_sz z.2 - x_sz u' + x_sz u'; omega) ?_ 0 (lv_args 0 As) [] u' s.heap [] 0 0 ls hc ⟨hP, va_S.rf, by omega, by omega, hu'⟩ hl'
            intro i k pc st u H locs cells slots ls hd hr hI'
            have e1 : res.2 = res.2 := rfl
            have e2 := x_ret_u hr
            obtain ⟨-, -, g1, g2, -⟩ := id hI'
            have g3 : z.2.length - u'.length = cells := by rw [e2]; omega
            have g4 : x_sz z.2 - x_sz u' = slots := by rw [e2]; omega
            rw [g3, g4]
            exact x_ret_ok hF' hI' hd hr
          · exact x_no hc
      · exact hret _ _ _ _ _ _ _ _ _ _ hok.1 h hI
    · exact x_no h
end
section
/-! Runs over the cells, without counting steps: x_Re .. r: from here on it ends with r. -/
section
variable {scr : xZ} {df : Nat → List Value} {P : Nat → Option xM}
def x_Re (scr : xZ) (df : Nat → List Value) (P : Nat → Option xM) (d j pc : Nat) (lv : xL) (st : List Value) (u : List xC) (r : xR) : Prop := ∃ c, ∀ n, x_exec scr df P (n + c) d j pc lv st u = some r
/-- a step: 'refine x_Re.step (fun n => rfl) ?_' -/
theorem x_Re.step {d j pc pc' : Nat} {lv lv' : xL} {st st' : List Value} {u u' : List xC} {r : xR} (h : ∀ n, x_exec scr df P (n + 1) d j pc lv st u = x_exec scr df P n d j pc' lv' st' u') (k : x_Re scr df P d j pc' lv' st' u' r) : x_Re scr df P d j pc lv st u r := by
  obtain ⟨c, hc⟩ := k
  exact ⟨c + 1, fun n => (h (n + c)).trans (hc n)⟩
/-- a branch -/
theorem x_Re.br {d j pc pc1 pc2 : Nat} {lv lv1 lv2 : xL} {st st1 st2 : List Value} {u u1 u2 : List xC} {r : xR} {C : Prop} [hC : Decidable C] (h : ∀ n, x_exec scr df P (n + 1) d j pc lv st u = if C then x_exec scr df P n d j pc1 lv1 st1 u1 else x_exec scr df P n d j pc2 lv2 st2 u2) (k1 : C → x_Re scr df P d j pc1 lv1 st1 u1 r) (k2 : ¬ C → x_Re scr df P d j pc2 lv2 st2 u2 r) : x_Re scr df P d j pc lv st u r := by
  by_cases hc : C
  · exact x_Re.step (fun n => (h n).trans (if_pos hc)) (k1 hc)
  · exact x_Re.step (fun n => (h n).trans (if_neg hc)) (k2 hc)
/-- what must not be: a divisor 0, a place outside its row -/
theorem x_Re.no {d j pc pc' : Nat} {lv lv' : xL} {st st' : List Value} {u u' : List xC} {r : xR} {C : Prop} [hC : Decidable C] (h : ∀ n, x_exec scr df P (n + 1) d j pc lv st u = if C then none else x_exec scr df P n d j pc' lv' st' u') (hc : ¬ C) (k : x_Re scr df P d j pc' lv' st' u' r) : x_Re scr df P d j pc lv st u r :=
  x_Re.step (fun n => (h n).trans (if_neg hc)) k
/-- a call: the callee's own run, then what is behind it -/
theorem x_Re.call {d d' j j' pc pc' : Nat} {lv lv1 lv' : xL} {st : List Value} {st' : xR → List Value} {u u1 : List xC} {r z : xR} (h : ∀ n, x_exec scr df P (n + 1) d j pc lv st u = (x_exec scr df P n d' j' 0 lv1 [] u1).bind fun z => x_exec scr df P n d j pc' lv' (st' z) z.2) (hz : x_Re scr df P d' j' 0 lv1 [] u1 z) (k : x_Re scr df P d j pc' lv' (st' z) z.2 r) : x_Re scr df P d j pc lv st u r := by
  obtain ⟨c1, h1⟩ := hz
  obtain ⟨c2, h2⟩ := k
  refine ⟨c1 + c2 + 1, fun n => ?_⟩
  have e1 := h (n + (c1 + c2))
  have e2 := h1 (n + c2)
  have e3 := h2 (n + c1)
  rw [show n + c2 + c1 = n + (c1 + c2) by omega] at e2
  rw [show n + c1 + c2 = n + (c1 + c2) by omega] at e3
  rw [e2] at e1
  exact e1.trans e3
/-- an end -/
theorem x_Re.ret {d j pc : Nat} {lv : xL} {st : List Value} {u : List xC} {r : xR} (h : ∀ n, x_exec scr df P (n + 1) d j pc lv st u = some r) : x_Re scr df P d j pc lv st u r := ⟨1, h⟩
end
end
