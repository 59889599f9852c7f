/-! A machine of places. A method runs over a list of cells instead of the heap; places 0 to 7 are old things that are never written (0 the script, 1 to 3 rows of ints, 4 to 7 texts), place k + 8 is the k-th cell. All groups are written with what goes on behind them (k), so that a run over known places and unknown numbers unfolds to nested ifs. -/
abbrev xC : Type := (FieldType × vp_A) ⊕ (Nat × List Value)
abbrev xL : Type := List (Nat × Value)
abbrev xR : Type := Option Value × List xC
/-- an instruction, its length, four numbers that its link gave, a constant, which of the frame's own numbers are kept here -/
abbrev xI : Type := Instr × Nat × (Nat × Nat × Nat × Nat) × Value × Option (List Nat)
/-- what is old: rows of ints by their places, texts by their places -/
abbrev xZ : Type := (Nat → Nat × (Nat → Int32)) × (Nat → List Int32)
/-- a method: name, bytes, maxLocals, what it returns, its instructions by their places -/
abbrev xM : Type := MethodName × ByteArray × Nat × Option FieldType × (Nat → Option xI)
def x_ad (b0 : Nat → Nat) (b : Nat) (p : Nat) : Nat := match p with
  | k + 8 => b + k
  | p => b0 p
def x_v (b0 : Nat → Nat) (b : Nat) (v : Value) : Value := match v with
  | .ref p => .ref (x_ad b0 b p)
  | v => v
-- numbers on the stack
section
variable {ρ : Type}
def x_push (w n : Nat) (v : Value) (st : List Value) (k : List Value → Option ρ) : Option ρ := if n = w then k (v :: st) else none
def x_ii (f : Int32 → Int32 → Int32) (n : Nat) (st : List Value) (k : List Value → Option ρ) : Option ρ := match st with
  | .int y :: .int x :: r => if n = 1 then k (.int (f x y) :: r) else none
  | _ => none
def x_id (f : Int32 → Int32 → Int32) (n : Nat) (st : List Value) (k : List Value → Option ρ) : Option ρ := match st with
  | .int y :: .int x :: r => if n = 1 then (if y = 0 then none else k (.int (f x y) :: r)) else none
  | _ => none
def x_ll (f : Int64 → Int64 → Int64) (n : Nat) (st : List Value) (k : List Value → Option ρ) : Option ρ := match st with
  | .long y :: .long x :: r => if n = 1 then k (.long (f x y) :: r) else none
  | _ => none
def x_ld (f : Int64 → Int64 → Int64) (n : Nat) (st : List Value) (k : List Value → Option ρ) : Option ρ := match st with
  | .long y :: .long x :: r => if n = 1 then (if y = 0 then none else k (.long (f x y) :: r)) else none
  | _ => none
def x_lli (f : Int64 → Int64 → Int32) (n : Nat) (st : List Value) (k : List Value → Option ρ) : Option ρ := match st with
  | .long y :: .long x :: r => if n = 1 then k (.int (f x y) :: r) else none
  | _ => none
def x_li (f : Int64 → Int32 → Int64) (n : Nat) (st : List Value) (k : List Value → Option ρ) : Option ρ := match st with
  | .int y :: .long x :: r => if n = 1 then k (.long (f x y) :: r) else none
  | _ => none
def x_i1 (f : Int32 → Int32) (n : Nat) (st : List Value) (k : List Value → Option ρ) : Option ρ := match st with
  | .int x :: r => if n = 1 then k (.int (f x) :: r) else none
  | _ => none
def x_i2 (f : Int32 → Int64) (n : Nat) (st : List Value) (k : List Value → Option ρ) : Option ρ := match st with
  | .int x :: r => if n = 1 then k (.long (f x) :: r) else none
  | _ => none
def x_l1 (f : Int64 → Int64) (n : Nat) (st : List Value) (k : List Value → Option ρ) : Option ρ := match st with
  | .long x :: r => if n = 1 then k (.long (f x) :: r) else none
  | _ => none
def x_l2 (f : Int64 → Int32) (n : Nat) (st : List Value) (k : List Value → Option ρ) : Option ρ := match st with
  | .long x :: r => if n = 1 then k (.int (f x) :: r) else none
  | _ => none
def x_s1' (c1 n : Nat) (f : Value → List Value → List Value) (st : List Value) (k : List Value → Option ρ) : Option ρ := match st with
  | v :: r => if n = 1 ∧ v.category = c1 then k (f v r) else none
  | _ => none
def x_s2' (c1 c2 n : Nat) (f : Value → Value → List Value → List Value) (st : List Value) (k : List Value → Option ρ) : Option ρ := match st with
  | v :: w :: r => if n = 1 ∧ v.category = c1 ∧ w.category = c2 then k (f v w r) else none
  | _ => none
def x_s3' (c1 c2 c3 n : Nat) (f : Value → Value → Value → List Value → List Value) (st : List Value) (k : List Value → Option ρ) : Option ρ := match st with
  | v :: w :: z :: r => if n = 1 ∧ v.category = c1 ∧ w.category = c2 ∧ z.category = c3 then k (f v w z r) else none
  | _ => none
/-- dup2, pop2: by the first one's kind -/
def x_d2 (n : Nat) (f : Value → List Value → List Value) (g : Value → Value → List Value → List Value) (st : List Value) (k : List Value → Option ρ) : Option ρ := match st with
  | .long x :: r => if n = 1 then k (f (.long x) r) else none
  | .int x :: .int y :: r => if n = 1 then k (g (.int x) (.int y) r) else none
  | .int x :: .ref y :: r => if n = 1 then k (g (.int x) (.ref y) r) else none
  | _ => none
def x_pure (i : Instr) (n : Nat) (st : List Value) (k : List Value → Option ρ) : Option ρ := match i with
  | .iconst c => x_push 1 n (.int (Int32.ofInt c)) st k
  | .bipush c => x_push 2 n (.int (Int8.ofInt c).toInt32) st k
  | .sipush c => x_push 3 n (.int (Int16.ofInt c).toInt32) st k
  | .lconst c => x_push 1 n (.long (Int64.ofNat (c : Nat))) st k
  | .aconst_null => x_push 1 n .null st k
  | .iadd => x_ii (fun x y => x + y) n st k
  | .isub => x_ii (fun x y => x - y) n st k
  | .imul => x_ii (fun x y => x * y) n st k
  | .iand => x_ii (fun x y => x &&& y) n st k
  | .ior => x_ii (fun x y => x ||| y) n st k
  | .ixor => x_ii (fun x y => x ^^^ y) n st k
  | .ishl => x_ii (fun x y => x <<< (y &&& 31)) n st k
  | .ishr => x_ii (fun x y => x >>> (y &&& 31)) n st k
  | .iushr => x_ii (fun x y => (x.toUInt32 >>> (y.toUInt32 &&& Int32.toUInt32 31)).toInt32) n st k
  | .idiv => x_id (fun x y => x / y) n st k
  | .irem => x_id (fun x y => x - x / y * y) n st k
  | .ineg => x_i1 (fun x => -x) n st k
  | .ladd => x_ll (fun x y => x + y) n st k
  | .lsub => x_ll (fun x y => x - y) n st k
  | .lmul => x_ll (fun x y => x * y) n st k
  | .land => x_ll (fun x y => x &&& y) n st k
  | .lor => x_ll (fun x y => x ||| y) n st k
  | .lxor => x_ll (fun x y => x ^^^ y) n st k
  | .ldiv => x_ld (fun x y => x / y) n st k
  | .lrem => x_ld (fun x y => x - x / y * y) n st k
  | .lneg => x_l1 (fun x => -x) n st k
  | .lshl => x_li (fun x y => x <<< (y.toInt64 &&& 63)) n st k
  | .lshr => x_li (fun x y => x >>> (y.toInt64 &&& 63)) n st k
  | .lushr => x_li (fun x y => (x.toUInt64 >>> (y.toInt64.toUInt64 &&& Int64.toUInt64 63)).toInt64) n st k
  | .lcmp => x_lli lg_cmp n st k
  | .i2l => x_i2 (fun x => x.toInt64) n st k
  | .l2i => x_l2 (fun x => x.toInt32) n st k
  | .i2b => x_i1 (fun x => x.toInt8.toInt32) n st k
  | .i2s => x_i1 (fun x => x.toInt16.toInt32) n st k
  | .i2c => x_i1 (fun x => (x.toUInt32 % 65536).toInt32) n st k
  | .dup => x_s1' 1 n (fun v r => v :: v :: r) st k
  | .pop => x_s1' 1 n (fun _ r => r) st k
  | .dup_x1 => x_s2' 1 1 n (fun v w r => v :: w :: v :: r) st k
  | .dup_x2 => x_s3' 1 1 1 n (fun v w z r => v :: w :: z :: v :: r) st k
  | .dup2_x1 => x_s2' 2 1 n (fun v w r => v :: w :: v :: r) st k
  | .dup2_x2 => x_s3' 2 1 1 n (fun v w z r => v :: w :: z :: v :: r) st k
  | .dup2 => x_d2 n (fun v r => v :: v :: r) (fun v w r => v :: w :: v :: w :: r) st k
  | .pop2 => x_d2 n (fun _ r => r) (fun _ _ r => r) st k
  | _ => none
-- the frame's own numbers
def x_get (lv : xL) (i : Nat) : Option Value := (lv.find? fun q => q.1 == i).map fun q => q.2
def x_ins (q : Nat × Value) : xL → xL
  | [] => [q]
  | z :: r => if z.1 < q.1 then z :: x_ins q r else q :: z :: r
def x_s1 (lv : xL) (i : Nat) (v : Value) : xL := x_ins (i, v) (lv.filter (fun q => !(q.1 == i) && !(q.1 + 1 == i && q.2.category == 2)))
def x_s2 (lv : xL) (i : Nat) (v : Value) : xL := x_ins (i, v) (lv.filter (fun q => !(q.1 == i) && (!(q.1 == i + 1) && !(q.1 + 1 == i && q.2.category == 2))))
def x_cut (ks : Option (List Nat)) (lv : xL) : xL := match ks with
  | none => lv
  | some ks => lv.filter (fun q => ks.contains q.1)
def x_ldi (i w n : Nat) (lv : xL) (st : List Value) (k : xL → List Value → Option ρ) : Option ρ := match x_get lv i with
  | some (.int x) => if n = w then k lv (.int x :: st) else none
  | _ => none
def x_ldl (i w n : Nat) (lv : xL) (st : List Value) (k : xL → List Value → Option ρ) : Option ρ := match x_get lv i with
  | some (.long x) => if n = w then k lv (.long x :: st) else none
  | _ => none
def x_lda (i w n : Nat) (lv : xL) (st : List Value) (k : xL → List Value → Option ρ) : Option ρ := match x_get lv i with
  | some (.ref x) => if n = w then k lv (.ref x :: st) else none
  | some .null => if n = w then k lv (.null :: st) else none
  | _ => none
def x_sti (i w n : Nat) (lv : xL) (st : List Value) (k : xL → List Value → Option ρ) : Option ρ := match st with
  | .int x :: r => if n = w then k (x_s1 lv i (.int x)) r else none
  | _ => none
def x_stl (i w n : Nat) (lv : xL) (st : List Value) (k : xL → List Value → Option ρ) : Option ρ := match st with
  | .long x :: r => if n = w then k (x_s2 lv i (.long x)) r else none
  | _ => none
def x_sta (i w n : Nat) (lv : xL) (st : List Value) (k : xL → List Value → Option ρ) : Option ρ := match st with
  | .ref x :: r => if n = w then k (x_s1 lv i (.ref x)) r else none
  | .null :: r => if n = w then k (x_s1 lv i .null) r else none
  | _ => none
def x_inc (i : Nat) (c : Int) (n : Nat) (lv : xL) (st : List Value) (k : xL → List Value → Option ρ) : Option ρ := match x_get lv i with
  | some (.int x) => if n = 3 then k (x_s1 lv i (.int (x + Int32.ofInt c))) st else none
  | _ => none
def x_loc (i : Instr) (n : Nat) (lv : xL) (st : List Value) (k : xL → List Value → Option ρ) : Option ρ := match i with
  | .iload j => x_ldi j 2 n lv st k
  | .iload_n j => x_ldi (j : Nat) 1 n lv st k
  | .lload j => x_ldl j 2 n lv st k
  | .lload_n j => x_ldl (j : Nat) 1 n lv st k
  | .aload j => x_lda j 2 n lv st k
  | .aload_n j => x_lda (j : Nat) 1 n lv st k
  | .istore j => x_sti j 2 n lv st k
  | .istore_n j => x_sti (j : Nat) 1 n lv st k
  | .lstore j => x_stl j 2 n lv st k
  | .lstore_n j => x_stl (j : Nat) 1 n lv st k
  | .astore j => x_sta j 2 n lv st k
  | .astore_n j => x_sta (j : Nat) 1 n lv st k
  | .iinc j c => x_inc j c n lv st k
  | _ => none
-- where it goes on
def x_to (pc : Nat) (off : Int) (k : Nat → Option ρ) : Option ρ := if (pc : Int) + off < 0 then none else k ((pc : Int) + off).toNat
def x_c0 (c : Jvm.ClassFile.Cond) (x : Int32) (a b : Option ρ) : Option ρ := match c with
  | .eq => if x = 0 then a else b
  | .ne => if x = 0 then b else a
  | .lt => if x < 0 then a else b
  | .ge => if 0 ≤ x then a else b
  | .gt => if 0 < x then a else b
  | .le => if x ≤ 0 then a else b
def x_c2 (c : Jvm.ClassFile.Cond) (x y : Int32) (a b : Option ρ) : Option ρ := match c with
  | .eq => if x = y then a else b
  | .ne => if x = y then b else a
  | .lt => if x < y then a else b
  | .ge => if y ≤ x then a else b
  | .gt => if y < x then a else b
  | .le => if x ≤ y then a else b
def x_br (i : Instr) (n pc : Nat) (st : List Value) (k : Nat → List Value → Option ρ) : Option ρ := match i with
  | .goto off => if n = 3 then x_to pc off fun t => k t st else none
  | .ifCond c off => match st with
    | .int x :: r => if n = 3 then x_to pc off fun t => x_c0 c x (k t r) (k (pc + 3) r) else none
    | _ => none
  | .if_icmp c off => match st with
    | .int y :: .int x :: r => if n = 3 then x_to pc off fun t => x_c2 c x y (k t r) (k (pc + 3) r) else none
    | _ => none
  | .ifnull off => match st with
    | .null :: r => if n = 3 then x_to pc off fun t => k t r else none
    | .ref _ :: r => if n = 3 then k (pc + 3) r else none
    | _ => none
  | .ifnonnull off => match st with
    | .null :: r => if n = 3 then k (pc + 3) r else none
    | .ref _ :: r => if n = 3 then x_to pc off fun t => k t r else none
    | _ => none
  | .tableswitch dflt lo hi offs => match st with
    | .int x :: r => if x.toInt < lo ∨ hi < x.toInt then x_to pc dflt fun t => k t r else (match offs[(x.toInt - lo).toNat]? with
      | some off => x_to pc off fun t => k t r
      | none => none)
    | _ => none
  | .lookupswitch dflt ps => match st with
    | .int x :: r => if (ps.toList.zip (ps.toList.drop 1)).all (fun (a, next) => a.1 < next.1) = true then x_to pc (Op.lookupswitch.offset ps.toList dflt x.toInt) fun t => k t r else none
    | _ => none
  | _ => none
-- the cells
def x_in (i : Int32) (n : Nat) (a : Option ρ) : Option ρ := if i < 0 ∨ n ≤ i.toNatClampNeg then none else a
/-- a value that may stand in a field of this kind: 0 int, 1 long, 2 boolean, 3 a reference -/
def x_fit (t : Nat) (v : Value) (a : Option ρ) : Option ρ := match v with
  | .int x => if t = 0 then a else if t = 2 then (if x = 0 ∨ x = 1 then a else none) else none
  | .long _ => if t = 1 then a else none
  | .ref _ => if t = 3 then a else none
  | .null => if t = 3 then a else none
  | _ => none
def x_gf (q : Nat × Nat × Nat × Nat) (n : Nat) (st : List Value) (h : List xC) (k : List Value → Option ρ) : Option ρ := match st with
  | .ref (p + 8) :: r => match h[p]? with
    | some (.inr (ci, fs)) => if n = 3 ∧ ci = q.1 then (match fs[q.2.1]? with
      | some v => k (v :: r)
      | none => none) else none
    | _ => none
  | _ => none
def x_pf (q : Nat × Nat × Nat × Nat) (n : Nat) (st : List Value) (h : List xC) (k : List Value → List xC → Option ρ) : Option ρ := match st with
  | v :: .ref (p + 8) :: r => match h[p]? with
    | some (.inr (ci, fs)) => if n = 3 ∧ ci = q.1 ∧ q.2.1 < fs.length then x_fit q.2.2.1 v (k r (h.set p (.inr (ci, fs.set q.2.1 v)))) else none
    | _ => none
  | _ => none
/-- an int out of an array of ints, or out of the script -/
def x_ial (scr : xZ) (n : Nat) (st : List Value) (h : List xC) (k : List Value → Option ρ) : Option ρ := match st with
  | .int i :: .ref (p + 8) :: r => match h[p]? with
    | some (.inl (.int, N, .inl f)) => if n = 1 then x_in i N (k (.int (f i.toNatClampNeg) :: r)) else none
    | _ => none
  | .int i :: .ref p :: r => if n = 1 ∧ p < 4 then x_in i (scr.1 p).1 (k (.int ((scr.1 p).2 i.toNatClampNeg) :: r)) else none
  | _ => none
def x_bal (n : Nat) (st : List Value) (h : List xC) (k : List Value → Option ρ) : Option ρ := match st with
  | .int i :: .ref (p + 8) :: r => match h[p]? with
    | some (.inl (.boolean, N, .inl f)) => if n = 1 then x_in i N (k (.int (f i.toNatClampNeg) :: r)) else none
    | some (.inl (.byte, N, .inl f)) => if n = 1 then x_in i N (k (.int (f i.toNatClampNeg) :: r)) else none
    | _ => none
  | _ => none
def x_lal (n : Nat) (st : List Value) (h : List xC) (k : List Value → Option ρ) : Option ρ := match st with
  | .int i :: .ref (p + 8) :: r => match h[p]? with
    | some (.inl (.long, N, .inr (.inl f))) => if n = 1 then x_in i N (k (.long (f i.toNatClampNeg) :: r)) else none
    | _ => none
  | _ => none
def x_ias (n : Nat) (st : List Value) (h : List xC) (k : List Value → List xC → Option ρ) : Option ρ := match st with
  | .int x :: .int i :: .ref (p + 8) :: r => match h[p]? with
    | some (.inl (.int, N, .inl f)) => if n = 1 then x_in i N (k r (h.set p (.inl (.int, N, .inl (upd f i.toNatClampNeg x))))) else none
    | _ => none
  | _ => none
def x_bas (n : Nat) (st : List Value) (h : List xC) (k : List Value → List xC → Option ρ) : Option ρ := match st with
  | .int x :: .int i :: .ref (p + 8) :: r => match h[p]? with
    | some (.inl (.boolean, N, .inl f)) => if n = 1 then x_in i N (k r (h.set p (.inl (.boolean, N, .inl (upd f i.toNatClampNeg (vp_nar .boolean x)))))) else none
    | some (.inl (.byte, N, .inl f)) => if n = 1 then x_in i N (k r (h.set p (.inl (.byte, N, .inl (upd f i.toNatClampNeg (vp_nar .byte x)))))) else none
    | _ => none
  | _ => none
def x_las (n : Nat) (st : List Value) (h : List xC) (k : List Value → List xC → Option ρ) : Option ρ := match st with
  | .long x :: .int i :: .ref (p + 8) :: r => match h[p]? with
    | some (.inl (.long, N, .inr (.inl f))) => if n = 1 then x_in i N (k r (h.set p (.inl (.long, N, .inr (.inl (vp_updL f i.toNatClampNeg x)))))) else none
    | _ => none
  | _ => none
def x_alen (scr : xZ) (n : Nat) (st : List Value) (h : List xC) (k : List Value → Option ρ) : Option ρ := match st with
  | .ref (p + 8) :: r => match h[p]? with
    | some (.inl (_, a)) => if n = 1 then k (.int (Int32.ofNat a.1) :: r) else none
    | _ => none
  | .ref p :: r => if n = 1 ∧ p < 4 then k (.int (Int32.ofNat (scr.1 p).1) :: r) else none
  | _ => none
def x_zero (t : ArrayType) (N : Nat) (k : FieldType → vp_A → Option ρ) : Option ρ := match t with
  | .int => k .int (N, .inl fun _ => 0)
  | .boolean => k .boolean (N, .inl fun _ => 0)
  | .byte => k .byte (N, .inl fun _ => 0)
  | .long => k .long (N, .inr (.inl fun _ => 0))
  | _ => none
def x_na (t : ArrayType) (n : Nat) (st : List Value) (h : List xC) (k : List Value → List xC → Option ρ) : Option ρ := match st with
  | .int c :: r => if n = 2 then (if c < 0 ∨ 1000000 < c.toNatClampNeg then none else x_zero t c.toNatClampNeg fun ty a => k (.ref (h.length + 8) :: r) (h ++ [.inl (ty, a)])) else none
  | _ => none
def x_heap (scr : xZ) (df : Nat → List Value) (x : xI) (pc : Nat) (st : List Value) (h : List xC) (k : Nat → List Value → List xC → Option ρ) : Option ρ := match x.1 with
  | .getfield _ => x_gf x.2.2.1 x.2.1 st h fun st => k (pc + 3) st h
  | .putfield _ => x_pf x.2.2.1 x.2.1 st h fun st h => k (pc + 3) st h
  | .iaload => x_ial scr x.2.1 st h fun st => k (pc + 1) st h
  | .laload => x_lal x.2.1 st h fun st => k (pc + 1) st h
  | .baload => x_bal x.2.1 st h fun st => k (pc + 1) st h
  | .iastore => x_ias x.2.1 st h fun st h => k (pc + 1) st h
  | .lastore => x_las x.2.1 st h fun st h => k (pc + 1) st h
  | .bastore => x_bas x.2.1 st h fun st h => k (pc + 1) st h
  | .arraylength => x_alen scr x.2.1 st h fun st => k (pc + 1) st h
  | .new _ => if x.2.1 = 3 then k (pc + 3) (.ref (h.length + 8) :: st) (h ++ [.inr (x.2.2.1.1, df x.2.2.1.1)]) else none
  | .newarray t => x_na t x.2.1 st h fun st h => k (pc + 2) st h
  | .ldc _ => if x.2.1 = 2 then k (pc + 2) (x.2.2.2.1 :: st) h else none
  | .ldc_w _ => if x.2.1 = 3 then k (pc + 3) (x.2.2.2.1 :: st) h else none
  | .ldc2_w _ => if x.2.1 = 3 then k (pc + 3) (x.2.2.2.1 :: st) h else none
  | .getstatic _ => if x.2.1 = 3 ∧ x.2.2.1.1 < 4 then k (pc + 3) (.ref x.2.2.1.1 :: st) h else none
  | _ => none
-- calls: (callee, how many arguments, kind, number of the receiver's kind of object). Kinds: 0 Object's constructor, 1 of an object, 2 a constructor, 3 static; 4, 5, 6 the same of a nest mate; 7 System.arraycopy; 8, 9 length and charAt of a text; 10 to 14 Math's max, min of ints, max, min of longs, abs of a long
def x_src (scr : xZ) (h : List xC) (p : Nat) (k : Nat → (Nat → Int32) → Option ρ) : Option ρ := match p with
  | p + 8 => match h[p]? with
    | some (.inl (.int, N, .inl f)) => k N f
    | _ => none
  | p => if p < 4 then k (scr.1 p).1 (scr.1 p).2 else none
def x_srcl (h : List xC) (p : Nat) (k : Nat → (Nat → Int64) → Option ρ) : Option ρ := match p with
  | p + 8 => match h[p]? with
    | some (.inl (.long, N, .inr (.inl f))) => k N f
    | _ => none
  | _ => none
def x_cpi (n sp dp : Int32) (N0 N1 : Nat) (a : Option ρ) : Option ρ := if n < 0 ∨ sp < 0 ∨ dp < 0 then none else if sp.toNatClampNeg + n.toNatClampNeg ≤ N0 ∧ dp.toNatClampNeg + n.toNatClampNeg ≤ N1 then a else none
def x_cp (scr : xZ) (st : List Value) (h : List xC) (k : List Value → List xC → Option ρ) : Option ρ := match st with
  | .int n :: .int dp :: .ref (p1 + 8) :: .int sp :: .ref p0 :: r => match h[p1]? with
    | some (.inl (.int, N1, .inl g)) => x_src scr h p0 fun N0 f => x_cpi n sp dp N0 N1 (k r (h.set p1 (.inl (.int, N1, .inl (va_cpy f g sp.toNatClampNeg dp.toNatClampNeg n.toNatClampNeg)))))
    | some (.inl (.long, N1, .inr (.inl g))) => x_srcl h p0 fun N0 f => x_cpi n sp dp N0 N1 (k r (h.set p1 (.inl (.long, N1, .inr (.inl (va_cpy f g sp.toNatClampNeg dp.toNatClampNeg n.toNatClampNeg))))))
    | _ => none
  | _ => none
def x_tx (scr : xZ) (t : Nat) (st : List Value) (k : List Value → Option ρ) : Option ρ :=
  if t = 8 then (match st with
    | .ref p :: r => if 4 ≤ p ∧ p < 8 then k (.int (Int32.ofNat (scr.2 p).length) :: r) else none
    | _ => none)
  else (match st with
    | .int i :: .ref p :: r => if 4 ≤ p ∧ p < 8 then x_in i (scr.2 p).length (k (.int ((scr.2 p).getD i.toNatClampNeg 0) :: r)) else none
    | _ => none)
def x_ma (t : Nat) (st : List Value) (k : List Value → Option ρ) : Option ρ :=
  if t = 10 then (match st with
    | .int y :: .int x :: r => k (.int (if x < y then y else x) :: r)
    | _ => none)
  else if t = 11 then (match st with
    | .int y :: .int x :: r => k (.int (if y < x then y else x) :: r)
    | _ => none)
  else if t = 12 then (match st with
    | .long y :: .long x :: r => k (.long (if y < x then x else y) :: r)
    | _ => none)
  else if t = 13 then (match st with
    | .long y :: .long x :: r => k (.long (if y < x then y else x) :: r)
    | _ => none)
  else (match st with
    | .long x :: r => k (.long (if 0 < x then x else -x) :: r)
    | _ => none)
def x_args (n : Nat) (st : List Value) : Option (List Value × List Value) := if n ≤ st.length then some ((st.take n).reverse, st.drop n) else none
def x_low (r : List Value) (a : Option ρ) : Option ρ := if (r.map fun v => v.category).sum ≤ 8 then a else none
def x_inv (scr : xZ) (call : Nat → List Value → List xC → Option xR) (d : Nat) (q : Nat × Nat × Nat × Nat) (n pc : Nat) (st : List Value) (h : List xC) (k : Nat → List Value → List xC → Option ρ) : Option ρ :=
  if n = 3 then (if 7 ≤ q.2.2.1 then (if d < 12 then none else if q.2.2.1 = 7 then x_cp scr st h fun r h => x_low r (k (pc + 3) r h) else if q.2.2.1 ≤ 9 then x_tx scr q.2.2.1 st fun st => x_low (st.drop 1) (k (pc + 3) st h) else x_ma q.2.2.1 st fun st => x_low (st.drop 1) (k (pc + 3) st h))
    else if q.2.2.1 = 0 then (match st with
      | .ref (_ + 8) :: r => if d = 0 then none else x_low r (k (pc + 3) r h)
      | _ => none)
    else if q.2.2.1 = 3 ∨ q.2.2.1 = 6 then (match x_args q.2.1 st with
      | some (As, r) => x_low r ((call q.1 As h).bind fun z => k (pc + 3) (z.1.toList ++ r) z.2)
      | none => none)
    else (match x_args q.2.1 st with
      | some (As, .ref (p + 8) :: r) => (match h[p]? with
        | some (.inr (ci, _)) => if ci = q.2.2.2 then x_low r ((call q.1 (.ref (p + 8) :: As) h).bind fun z => k (pc + 3) (z.1.toList ++ r) z.2) else none
        | _ => none)
      | _ => none)) else none
end
-- its end
def x_ret (i : Instr) (n : Nat) (ty : Option FieldType) (st : List Value) (h : List xC) : Option xR := match i with
  | .ireturn => match st, ty with
    | [.int v], some .int => if n = 1 then some (some (.int v), h) else none
    | [.int v], some .boolean => if n = 1 then (if v = 0 ∨ v = 1 then some (some (.int v), h) else none) else none
    | _, _ => none
  | .lreturn => match st, ty with
    | [.long v], some .long => if n = 1 then some (some (.long v), h) else none
    | _, _ => none
  | .areturn => match st, ty with
    | [.ref v], some (.object _) => if n = 1 then some (some (.ref v), h) else none
    | [.ref v], some (.array _) => if n = 1 then some (some (.ref v), h) else none
    | _, _ => none
  | .return_ => match st, ty with
    | [], none => if n = 1 then some (none, h) else none
    | _, _ => none
  | _ => none
/-- which group: 0 numbers, 1 the frame's own, 2 where to, 3 cells, 4 calls, 5 ends -/
def x_kind (i : Instr) : Nat := match i with
  | .iload _ | .iload_n _ | .lload _ | .lload_n _ | .aload _ | .aload_n _ | .istore _ | .istore_n _ | .lstore _ | .lstore_n _ | .astore _ | .astore_n _ | .iinc _ _ => 1
  | .goto _ | .ifCond _ _ | .if_icmp _ _ | .ifnull _ | .ifnonnull _ | .tableswitch _ _ _ _ | .lookupswitch _ _ => 2
  | .getfield _ | .putfield _ | .iaload | .laload | .baload | .iastore | .lastore | .bastore | .arraylength | .new _ | .newarray _ | .ldc _ | .ldc_w _ | .ldc2_w _ | .getstatic _ => 3
  | .invokevirtual _ | .invokespecial _ | .invokestatic _ => 4
  | .ireturn | .lreturn | .areturn | .return_ => 5
  | _ => 0
/-- where a number of the frame is written, it lies in the frame -/
def x_stok (i : Instr) (nL : Nat) : Prop := match i with
  | .istore j | .astore j | .iinc j _ => j < nL
  | .istore_n j | .astore_n j => (j : Nat) < nL
  | .lstore j => j + 1 < nL
  | .lstore_n j => (j : Nat) + 1 < nL
  | _ => True
def x_step (scr : xZ) (df : Nat → List Value) (call : Nat → List Value → List xC → Option xR) (d : Nat) (M : xM) (x : xI) (pc : Nat) (lv : xL) (st : List Value) (h : List xC) (k : Nat → xL → List Value → List xC → Option xR) : Option xR :=
  match x_kind x.1 with
  | 0 => x_pure x.1 x.2.1 st fun st => k (pc + x.2.1) lv st h
  | 1 => x_loc x.1 x.2.1 lv st fun lv st => k (pc + x.2.1) lv st h
  | 2 => x_br x.1 x.2.1 pc st fun pc st => k pc lv st h
  | 3 => x_heap scr df x pc st h fun pc st h => k pc lv st h
  | 4 => x_inv scr call d x.2.2.1 x.2.1 pc st h fun pc st h => k pc lv st h
  | _ => x_ret x.1 x.2.1 M.2.2.2.1 st h
/-- a table in rows of sixteen -/
def x_at (t : List (List (Option xI))) (pc : Nat) : Option xI := match t[pc / 16]? with
  | some r => match r[pc % 16]? with
    | some x => x
    | none => none
  | none => none
def x_exec (scr : xZ) (df : Nat → List Value) (P : Nat → Option xM) : Nat → Nat → Nat → Nat → xL → List Value → List xC → Option xR
  | 0, _, _, _, _, _, _ => none
  | n + 1, d, j, pc, lv, st, h => match P j with
    | some M => match M.2.2.2.2 pc with
      | some x => x_step scr df (fun j' As h' => match d with
          | 0 => none
          | d' + 1 => match P j' with
            | some M' => if (As.map fun v => v.category).sum ≤ M'.2.2.1 then x_exec scr df P n d' j' 0 (lv_args 0 As) [] h' else none
            | none => none) d M x pc (x_cut x.2.2.2.2 lv) st h fun pc lv st h => x_exec scr df P n d j pc lv st h
      | _ => none
    | none => none
-- how many slots the cells have
def x_sz1 (e : xC) : Nat := match e with
  | .inl (_, a) => a.1
  | .inr (_, fs) => fs.length
def x_sz (h : List xC) : Nat := (h.map x_sz1).sum
