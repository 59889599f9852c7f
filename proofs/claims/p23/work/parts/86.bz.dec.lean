/-! A row of sixteen places of a method's bytes is looked at through a window: what most instructions are told by is there. -/
abbrev yR (α : Type) := Reader DecodeError α
/-- what r tells over the window, r' tells over the whole, k further on -/
def ySh {α : Type} (k : Nat) (l w : List UInt8) (r r' : yR α) : Prop := ∀ (p : Nat) (x : α) (q : Nat), r ⟨⟨w⟩⟩ p = .ok (x, q) → r' ⟨⟨l⟩⟩ (p + k) = .ok (x, q + k)
def yWin (k : Nat) (l w : List UInt8) : Prop := ∀ (i : Nat) (b : UInt8), w[i]? = some b → l[i + k]? = some b
theorem y_bind {α β : Type} (r : yR α) (f : α → yR β) (A : ByteArray) (p : Nat) : (r >>= f) A p = (match r A p with
    | .error e => .error e
    | .ok z => f z.1 A z.2) := by
  show (do let (a, s) ← r A p; f a A s : Except DecodeError (β × Nat)) = _
  generalize r A p = y
  rcases y with e | ⟨a, s⟩ <;> rfl
theorem y_u1 (A : ByteArray) (i : Nat) : (Reader.u1 : yR Nat) A i = if h : i < A.size then .ok (A[i].toNat, i + 1) else .error (.truncated i) := by
  by_cases h : i < A.size
  · rw [dif_pos h]
    show (dite (i < A.size) (fun h => (do set (i + 1); pure A[i].toNat : yR Nat)) (fun _ => throw (HasTruncated.truncated i))) A i = _
    rw [dif_pos h]
    rfl
  · rw [dif_neg h]
    show (dite (i < A.size) (fun h => (do set (i + 1); pure A[i].toNat : yR Nat)) (fun _ => throw (HasTruncated.truncated i))) A i = _
    rw [dif_neg h]
    rfl
section
variable {k : Nat} {l w : List UInt8} {α β : Type}
theorem y_pure {a : α} : ySh k l w (pure a : yR α) (pure a : yR α) := fun p x q h => by
  cases (show (Except.ok (a, p) : Except DecodeError (α × Nat)) = .ok (x, q) from h)
  rfl
theorem y_then {r r' : yR α} {f f' : α → yR β} (h : ySh k l w r r') (hf : ∀ a, ySh k l w (f a) (f' a)) : ySh k l w (r >>= f) (r' >>= f') := by
  intro p x q h1
  rw [y_bind] at h1 ⊢
  cases hr : r ⟨⟨w⟩⟩ p with
  | error e =>
    rw [hr] at h1
    cases h1
  | ok z =>
    rw [hr] at h1
    obtain ⟨a, s⟩ := z
    rw [h p a s hr]
    exact hf a s x q h1
theorem y_first (hw : yWin k l w) {f f' : Nat → yR β} {p : Nat} (hf : ∀ b : UInt8, w[p]? = some b → ySh k l w (f b.toNat) (f' b.toNat)) {x : β} {q : Nat} (h : (Reader.u1 >>= f) ⟨⟨w⟩⟩ p = .ok (x, q)) : (Reader.u1 >>= f') ⟨⟨l⟩⟩ (p + k) = .ok (x, q + k) := by
  rw [y_bind, y_u1] at h
  rw [y_bind, y_u1]
  by_cases hp : p < (ByteArray.mk ⟨w⟩).size
  · rw [dif_pos hp] at h
    have hp' : p < w.length := hp
    have e1 : w[p]? = some w[p] := List.getElem?_eq_getElem hp'
    have e2 := hw p _ e1
    obtain ⟨h3, e3⟩ := List.getElem?_eq_some_iff.mp e2
    have h3' : p + k < (ByteArray.mk ⟨l⟩).size := h3
    rw [dif_pos h3']
    have e4 : (ByteArray.mk ⟨l⟩)[p + k] = w[p] := e3
    rw [e4, show p + k + 1 = p + 1 + k by omega]
    exact hf _ e1 _ _ _ h
  · rw [dif_neg hp] at h
    cases h
theorem y_sh1 (hw : yWin k l w) : ySh k l w Reader.u1 Reader.u1 := by
  intro p x q h
  have e : ∀ (A : ByteArray) (i : Nat), (Reader.u1 >>= fun a => pure a : yR Nat) A i = (Reader.u1 : yR Nat) A i := fun A i => by
    rw [y_bind]
    generalize (Reader.u1 : yR Nat) A i = y
    rcases y with _ | ⟨a, s⟩ <;> rfl
  rw [← e] at h ⊢
  exact y_first hw (fun b _ => y_pure) h
theorem y_sh2 (hw : yWin k l w) : ySh k l w Reader.u2 Reader.u2 := y_then (y_sh1 hw) fun _ => y_then (y_sh1 hw) fun _ => y_pure
theorem y_map {g : α → β} {r r' : yR α} (h : ySh k l w r r') : ySh k l w (g <$> r : yR β) (g <$> r' : yR β) := by
  have e : ∀ (t : yR α) (A : ByteArray) (i : Nat), (g <$> t) A i = (t >>= fun a => pure (g a) : yR β) A i := fun t A i => by
    rw [y_bind]
    show (do let (a, s) ← t A i; pure (g a, s) : Except DecodeError (β × Nat)) = _
    generalize t A i = y
    rcases y with _ | ⟨a, s⟩ <;> rfl
  intro p x q h1
  rw [e] at h1 ⊢
  exact y_then h (fun _ => y_pure) p x q h1
theorem y_ss1 (hw : yWin k l w) : ySh k l w Reader.s1 Reader.s1 := y_map (y_sh1 hw)
theorem y_ss2 (hw : yWin k l w) : ySh k l w Reader.s2 Reader.s2 := y_map (y_sh2 hw)
end
theorem y_c {P : Nat → Prop} {a : Nat} {l : List Nat} (h : P a) (t : ∀ b ∈ l, P b) : ∀ b ∈ a :: l, P b := List.forall_mem_cons.mpr ⟨h, t⟩
/-- the opcodes that are looked at so -/
def yOps : List Nat := [2, 3, 4, 5, 6, 7, 8, 9, 10, 16, 17, 18, 19, 20, 21, 22, 25, 26, 27, 28, 29, 30, 31, 32, 33, 42, 43, 44, 45, 46, 47, 51, 54, 55, 58, 59, 60, 61, 62, 63, 64, 65, 66, 75, 76, 77, 78, 79, 80, 84, 87, 88, 89, 92, 96, 97, 100, 101, 104, 105, 108, 109, 112, 113, 116, 117, 120, 121, 122, 123, 124, 125, 126, 127, 128, 129, 130, 131, 132, 133, 136, 145, 148, 153, 154, 155, 156, 157, 158, 159, 160, 161, 162, 163, 164, 167, 172, 173, 177, 178, 180, 181, 182, 183, 184, 187, 190]
set_option maxRecDepth 16384 in
set_option maxHeartbeats 4000000 in
theorem y_instr {k : Nat} {l w : List UInt8} (hw : yWin k l w) {p q pc pc' : Nat} {x : Instr} (hb : ∀ b : UInt8, w[p]? = some b → b.toNat ∈ yOps) (h : Decoder.instr pc ⟨⟨w⟩⟩ p = .ok (x, q)) : Decoder.instr pc' ⟨⟨l⟩⟩ (p + k) = .ok (x, q + k) := by
  delta Decoder.instr at h ⊢
  refine y_first hw ?_ h
  intro b e
  have hm := hb b e
  clear h hb e
  generalize b.toNat = n at hm ⊢
  clear b
  revert n
  show ∀ n ∈ [2, 3, 4, 5, 6, 7, 8, 9, 10, 16, 17, 18, 19, 20, 21, 22, 25, 26, 27, 28, 29, 30, 31, 32, 33, 42, 43, 44, 45, 46, 47, 51, 54, 55, 58, 59, 60, 61, 62, 63, 64, 65, 66, 75, 76, 77, 78, 79, 80, 84, 87, 88, 89, 92, 96, 97, 100, 101, 104, 105, 108, 109, 112, 113, 116, 117, 120, 121, 122, 123, 124, 125, 126, 127, 128, 129, 130, 131, 132, 133, 136, 145, 148, 153, 154, 155, 156, 157, 158, 159, 160, 161, 162, 163, 164, 167, 172, 173, 177, 178, 180, 181, 182, 183, 184, 187, 190], _
  refine y_c y_pure ?_
  refine y_c y_pure ?_
  refine y_c y_pure ?_
  refine y_c y_pure ?_
  refine y_c y_pure ?_
  refine y_c y_pure ?_
  refine y_c y_pure ?_
  refine y_c y_pure ?_
  refine y_c y_pure ?_
  refine y_c (y_then (y_ss1 hw) fun _ => y_pure) ?_
  refine y_c (y_then (y_ss2 hw) fun _ => y_pure) ?_
  refine y_c (y_then (y_sh1 hw) fun _ => y_pure) ?_
  refine y_c (y_then (y_sh2 hw) fun _ => y_pure) ?_
  refine y_c (y_then (y_sh2 hw) fun _ => y_pure) ?_
  refine y_c (y_then (y_sh1 hw) fun _ => y_pure) ?_
  refine y_c (y_then (y_sh1 hw) fun _ => y_pure) ?_
  refine y_c (y_then (y_sh1 hw) fun _ => y_pure) ?_
  refine y_c y_pure ?_
  refine y_c y_pure ?_
  refine y_c y_pure ?_
  refine y_c y_pure ?_
  refine y_c y_pure ?_
  refine y_c y_pure ?_
  refine y_c y_pure ?_
  refine y_c y_pure ?_
  refine y_c y_pure ?_
  refine y_c y_pure ?_
  refine y_c y_pure ?_
  refine y_c y_pure ?_
  refine y_c y_pure ?_
  refine y_c y_pure ?_
  refine y_c y_pure ?_
  refine y_c (y_then (y_sh1 hw) fun _ => y_pure) ?_
  refine y_c (y_then (y_sh1 hw) fun _ => y_pure) ?_
  refine y_c (y_then (y_sh1 hw) fun _ => y_pure) ?_
  refine y_c y_pure ?_
  refine y_c y_pure ?_
  refine y_c y_pure ?_
  refine y_c y_pure ?_
  refine y_c y_pure ?_
  refine y_c y_pure ?_
  refine y_c y_pure ?_
  refine y_c y_pure ?_
  refine y_c y_pure ?_
  refine y_c y_pure ?_
  refine y_c y_pure ?_
  refine y_c y_pure ?_
  refine y_c y_pure ?_
  refine y_c y_pure ?_
  refine y_c y_pure ?_
  refine y_c y_pure ?_
  refine y_c y_pure ?_
  refine y_c y_pure ?_
  refine y_c y_pure ?_
  refine y_c y_pure ?_
  refine y_c y_pure ?_
  refine y_c y_pure ?_
  refine y_c y_pure ?_
  refine y_c y_pure ?_
  refine y_c y_pure ?_
  refine y_c y_pure ?_
  refine y_c y_pure ?_
  refine y_c y_pure ?_
  refine y_c y_pure ?_
  refine y_c y_pure ?_
  refine y_c y_pure ?_
  refine y_c y_pure ?_
  refine y_c y_pure ?_
  refine y_c y_pure ?_
  refine y_c y_pure ?_
  refine y_c y_pure ?_
  refine y_c y_pure ?_
  refine y_c y_pure ?_
  refine y_c y_pure ?_
  refine y_c y_pure ?_
  refine y_c y_pure ?_
  refine y_c y_pure ?_
  refine y_c y_pure ?_
  refine y_c (y_then (y_sh1 hw) fun _ => y_then (y_ss1 hw) fun _ => y_pure) ?_
  refine y_c y_pure ?_
  refine y_c y_pure ?_
  refine y_c y_pure ?_
  refine y_c y_pure ?_
  refine y_c (y_then (y_ss2 hw) fun _ => y_pure) ?_
  refine y_c (y_then (y_ss2 hw) fun _ => y_pure) ?_
  refine y_c (y_then (y_ss2 hw) fun _ => y_pure) ?_
  refine y_c (y_then (y_ss2 hw) fun _ => y_pure) ?_
  refine y_c (y_then (y_ss2 hw) fun _ => y_pure) ?_
  refine y_c (y_then (y_ss2 hw) fun _ => y_pure) ?_
  refine y_c (y_then (y_ss2 hw) fun _ => y_pure) ?_
  refine y_c (y_then (y_ss2 hw) fun _ => y_pure) ?_
  refine y_c (y_then (y_ss2 hw) fun _ => y_pure) ?_
  refine y_c (y_then (y_ss2 hw) fun _ => y_pure) ?_
  refine y_c (y_then (y_ss2 hw) fun _ => y_pure) ?_
  refine y_c (y_then (y_ss2 hw) fun _ => y_pure) ?_
  refine y_c (y_then (y_ss2 hw) fun _ => y_pure) ?_
  refine y_c y_pure ?_
  refine y_c y_pure ?_
  refine y_c y_pure ?_
  refine y_c (y_then (y_sh2 hw) fun _ => y_pure) ?_
  refine y_c (y_then (y_sh2 hw) fun _ => y_pure) ?_
  refine y_c (y_then (y_sh2 hw) fun _ => y_pure) ?_
  refine y_c (y_then (y_sh2 hw) fun _ => y_pure) ?_
  refine y_c (y_then (y_sh2 hw) fun _ => y_pure) ?_
  refine y_c (y_then (y_sh2 hw) fun _ => y_pure) ?_
  refine y_c (y_then (y_sh2 hw) fun _ => y_pure) ?_
  refine y_c y_pure ?_
  exact fun _ h => absurd h List.not_mem_nil
theorem y_dec {k : Nat} {l w : List UInt8} (hw : yWin k l w) {p n : Nat} {i : Instr} (hb : ∀ b : UInt8, w[p]? = some b → b.toNat ∈ yOps) (h : decode ⟨⟨w⟩⟩ p = .ok (i, n)) : decode ⟨⟨l⟩⟩ (p + k) = .ok (i, n) := by
  have e : ∀ (A : ByteArray) (pc : Nat), decode A pc = (match Decoder.instr pc A pc with
      | .error e => .error e
      | .ok z => .ok (z.1, z.2 - pc)) := fun A pc => by
    show (do let (i, n) ← Decoder.instr pc A pc; pure (i, n - pc) : Except DecodeError (Instr × Nat)) = _
    generalize Decoder.instr pc A pc = y
    rcases y with _ | ⟨a, s⟩ <;> rfl
  rw [e] at h ⊢
  cases hi : Decoder.instr p ⟨⟨w⟩⟩ p with
  | error z =>
    rw [hi] at h
    cases h
  | ok z =>
    rw [hi] at h
    obtain ⟨a, s⟩ := z
    rw [y_instr hw (pc' := p + k) hb hi]
    have h : (Except.ok (a, s - p) : Except DecodeError (Instr × Nat)) = .ok (i, n) := h
    rw [← h]
    show (Except.ok (a, s + k - (p + k)) : Except DecodeError (Instr × Nat)) = _
    rw [Nat.add_sub_add_right]
def yMask : Nat := 1813535103433536263600554617184767561432543983688323368956
theorem y_mask : ∀ n : Nat, n < 256 → Nat.beq (Nat.land (Nat.shiftRight yMask n) 1) 1 = true → n ∈ yOps := by decide +kernel
def y_rchk (w : List UInt8) (nL : Nat) : Nat → List (Option xI) → Bool
  | _, [] => true
  | p, none :: r => y_rchk w nL (p + 1) r
  | p, some x :: r => (match w[p]? with
    | some b => Nat.beq (Nat.land (Nat.shiftRight yMask b.toNat) 1) 1
    | none => false) && (decide (decode ⟨⟨w⟩⟩ p = .ok (x.1, x.2.1)) && (x_stokb x.1 nL && y_rchk w nL (p + 1) r))
theorem y_rchk_ok {w L : List UInt8} {k nL : Nat} (hw : yWin k L w) : ∀ (r : List (Option xI)) (p : Nat), y_rchk w nL p r = true → x_rchk ⟨⟨L⟩⟩ nL (p + k) r = true
  | [], _, _ => rfl
  | none :: r, p, h => by
    have h1 := y_rchk_ok hw r (p + 1) h
    show x_rchk _ nL (p + k + 1) r = true
    rw [show p + k + 1 = p + 1 + k by omega]
    exact h1
  | some x :: r, p, h => by
    simp only [y_rchk, Bool.and_eq_true] at h
    obtain ⟨h1, h2, h3, h4⟩ := h
    have h5 := y_rchk_ok hw r (p + 1) h4
    have h6 : decode ⟨⟨L⟩⟩ (p + k) = .ok (x.1, x.2.1) := y_dec hw (fun b e => by
      rw [e] at h1
      exact y_mask _ b.toNat_lt h1) (of_decide_eq_true h2)
    simp only [x_rchk, Bool.and_eq_true]
    refine ⟨decide_eq_true h6, h3, ?_⟩
    rw [show p + k + 1 = p + 1 + k by omega]
    exact h5
theorem y_win (L : List UInt8) (k n : Nat) : yWin k L ((L.drop k).take n) := fun i b h => by
  rw [List.getElem?_take] at h
  split at h
  · rw [List.getElem?_drop] at h
    rw [Nat.add_comm i k]
    exact h
  · cases h
theorem y_row {cc : ByteArray} {nL pc : Nat} {r : List (Option xI)} (h : y_rchk ((cc.data.toList.drop pc).take 24) nL 0 r = true) : x_rchk cc nL pc r = true := by
  have h1 := y_rchk_ok (y_win cc.data.toList pc 24) r 0 h
  rw [Nat.zero_add] at h1
  exact h1
def y_tchk (cc : ByteArray) (nL : Nat) : Nat → List UInt8 → List (List (Option xI)) → Bool
  | _, _, [] => true
  | pc, l, r :: t => (y_rchk (l.take 24) nL 0 r || x_rchk cc nL pc r) && y_tchk cc nL (pc + 16) (l.drop 16) t
theorem y_tchk_ok {cc : ByteArray} {nL : Nat} : ∀ (t : List (List (Option xI))) (pc : Nat) (l : List UInt8), l = cc.data.toList.drop pc → y_tchk cc nL pc l t = true → x_tchk cc nL pc t = true
  | [], _, _, _, _ => rfl
  | r :: t, pc, l, e, h => by
    simp only [y_tchk, Bool.and_eq_true, Bool.or_eq_true] at h
    obtain ⟨h1, h2⟩ := h
    refine x_tcons ?_ (y_tchk_ok t (pc + 16) (l.drop 16) (by rw [e]; simp [List.drop_drop, Nat.add_comm]) h2)
    rcases h1 with h1 | h1
    · rw [e] at h1
      exact y_row h1
    · exact h1
theorem y_ok {cc : ByteArray} {nL : Nat} {t : List (List (Option xI))} (h : y_tchk cc nL 0 cc.data.toList t = true) : x_tchk cc nL 0 t = true := y_tchk_ok t 0 _ rfl h
