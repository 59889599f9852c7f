section
variable {E : zE} {d j pc : Nat} {lv : List (Nat × zV)} {st : List zV} {m : zM} {Q : Option zV → zM → Prop} {q : Nat × Nat × Nat × Nat} {c : Value} {ks : Option (List Nat)}
theorem z_tmod64 {x y : Int} (hy1 : -9223372036854775808 ≤ y ∧ y ≤ 9223372036854775807) (hy : y ≠ 0) : -9223372036854775808 ≤ x.tmod y ∧ x.tmod y ≤ 9223372036854775807 := by
  have h1 := Int.natAbs_tmod x y
  have h2 : x.natAbs % y.natAbs < y.natAbs := Nat.mod_lt _ (by omega)
  omega
theorem X.lremT (pc' : Nat) {x y : Int} (hi : z_I E j pc = some (.lrem, 1, q, c, ks)) (hc : z_cut ks lv = lv) (hp : pc + 1 = pc') (hy : y ≠ 0) (kk : X E d j pc' lv (zl (x.tmod y) :: st) m Q) : X E d j pc lv (zl y :: zl x :: st) m Q :=
  X.num pc' hi hc hp rfl kk (fun h => by
    have hy1 : -9223372036854775808 ≤ y ∧ y ≤ 9223372036854775807 := z_hd h
    have hx1 : -9223372036854775808 ≤ x ∧ x ≤ 9223372036854775807 := z_hd (z_tl h)
    refine ⟨z_cons (z_tmod64 hy1 hy) (z_tl (z_tl h)), fun _ => ?_⟩
    show x_ld (fun x y => x - x / y * y) 1 (.long (Int64.ofInt y) :: .long (Int64.ofInt x) :: _) _ = _
    simp only [x_ld, if_true, if_neg (z_ne64 hy1 hy), z_rem64 hx1 hy1]; rfl)
end
theorem z_half {b r p : Nat} (hr : 0 < r) (hrb : r < b) (hb : b < 2 * p) : b % r < p := by
  rcases Nat.lt_or_ge p r with h | h
  · rw [Nat.mod_eq_sub_mod (by omega), Nat.mod_eq_of_lt (by omega)]
    omega
  · exact Nat.lt_of_lt_of_le (Nat.mod_lt _ hr) h
theorem c_div1 {s : Nat × (Nat → Int32)} {m : zM} {d : Nat} {Q : Option zV → zM → Prop} (a b : Int) (hd : 1 ≤ d) (h0 : b = 0 → Q (some (zl a)) m)
    (h1 : b ≠ 0 → X (EE s) (d - 1) 294 0 [(0, zl b), (2, zl (a.tmod b))] [] m (fun r m' => X (EE s) d 294 17 [(0, zl a), (2, zl b)] (z_push r []) m' Q)) : X (EE s) d 294 0 [(0, zl a), (2, zl b)] [] m Q := by
  refine X.lload_n 1 i294_0 rfl rfl rfl ?_
  refine X.lconst (y := 0) 2 i294_1 rfl rfl rfl ?_
  refine X.lcmp 3 i294_2 rfl rfl (fun z hz => ?_)
  refine X.ifne 10 6 i294_3 rfl rfl rfl (fun h => ?_) (fun h => ?_)
  · have hb : b ≠ 0 := by omega
    refine X.lload_n 11 i294_10 rfl rfl rfl ?_
    refine X.lload_n 12 i294_11 rfl rfl rfl ?_
    refine X.lload_n 13 i294_12 rfl rfl rfl ?_
    refine X.lremT 14 i294_13 rfl rfl hb ?_
    refine X.calls 17 [zl b, zl (a.tmod b)] [] [(0, zl b), (2, zl (a.tmod b))] i294_14 (by decide) rfl rfl hd rfl rfl t294 (Nat.le_of_ble_eq_true rfl) (Nat.le_of_ble_eq_true rfl) rfl ?_
    exact h1 hb
  · have hb : b = 0 := by omega
    refine X.lload_n 7 i294_6 rfl rfl rfl ?_
    refine X.goto 17 i294_7 rfl rfl ?_
    refine X.cut [] i294_17 rfl ?_
    refine X.retl i294_17 rfl t294 ?_
    exact h0 hb
theorem c_divr {s : Nat × (Nat → Int32)} {m : zM} {d : Nat} {Q : Option zV → zM → Prop} (a b v : Int) (h : Q (some (zl v)) m) : X (EE s) d 294 17 [(0, zl a), (2, zl b)] (z_push (some (zl v)) []) m Q := by
  show X (EE s) d 294 17 [(0, zl a), (2, zl b)] [zl v] m Q
  refine X.cut [] i294_17 rfl ?_
  exact X.retl i294_17 rfl t294 h
/-- the reference's divisor -/
def fdivF : Nat → Int → Int → Int
  | 0, a, _ => a
  | n + 1, a, b => if b = 0 then a else fdivF n b (a.tmod b)
theorem fdivF_s (n : Nat) (a b : Int) : fdivF (n + 1) a b = if b = 0 then a else fdivF n b (a.tmod b) := rfl
def fdiv (a b : Int) (_m : zM) : Int := fdivF 128 a b
theorem c_div {s : Nat × (Nat → Int32)} {m : zM} : ∀ (k d : Nat) (a b : Int) (Q : Option zV → zM → Prop), b.natAbs < 2 ^ k → (a ≠ 0 ∨ b ≠ 0) → 2 * k + 1 ≤ d → (∀ v, v ≠ 0 → (∀ n, fdivF (2 * k + n) a b = v) → Q (some (zl v)) m) → X (EE s) d 294 0 [(0, zl a), (2, zl b)] [] m Q := by
  intro k
  induction k with
  | zero =>
    intro d a b Q hb hn hd hQ
    have e : b = 0 := by
      have h1 : (2 : Nat) ^ 0 = 1 := rfl
      omega
    refine c_div1 a b (by omega) (fun _ => hQ a (by omega) (fun n => ?_)) (fun h => absurd e h)
    cases n with
    | zero => rfl
    | succ n => rw [show 2 * 0 + (n + 1) = n + 1 by omega, fdivF_s, if_pos e]
  | succ k ih =>
    intro d a b Q hb hn hd hQ
    refine c_div1 a b (by omega) (fun h => hQ a (by omega) (fun n => by rw [show 2 * (k + 1) + n = (2 * k + n + 1) + 1 by omega, fdivF_s, if_pos h])) (fun h => ?_)
    have hr := Int.natAbs_tmod a b
    have hr2 : a.natAbs % b.natAbs < b.natAbs := Nat.mod_lt _ (by omega)
    refine c_div1 b (a.tmod b) (by omega) (fun h9 => c_divr a b b (hQ b h (fun n => by rw [show 2 * (k + 1) + n = (2 * k + n + 1) + 1 by omega, fdivF_s, if_neg h, fdivF_s, if_pos h9]))) (fun h2 => ?_)
    have hp : 2 ^ (k + 1) = 2 * 2 ^ k := by rw [Nat.pow_succ]; omega
    refine ih (d - 1 - 1) (a.tmod b) (b.tmod (a.tmod b)) _ ?_ (.inl h2) (by omega) (fun v hv hF => c_divr _ _ v (c_divr a b v (hQ v hv (fun n => by rw [show 2 * (k + 1) + n = (2 * k + n + 1) + 1 by omega, fdivF_s, if_neg h, fdivF_s, if_neg h2]; exact hF n))))
    rw [Int.natAbs_tmod b (a.tmod b)]
    exact z_half (by omega) (by omega) (by omega)
theorem c_dv {s : Nat × (Nat → Int32)} {S : zS} {m0 m : zM} {B : Int} {d : Nat} {Q : Option zV → zM → Prop} (a0 a1 : Int) (hd : 131 ≤ d) (_hJ : J S m0 B m) (_hB : B + 0 ≤ 1000000000) (ha0 : 1 ≤ a0) (ha1 : -9223372036854775808 ≤ a1 ∧ a1 ≤ 9223372036854775807)
    (hQ : ∀ v : Int, True → fdiv a0 a1 m = v → v ≠ 0 → Q (some (zl v)) m) : X (EE s) d 294 0 [(0, zl a0), (2, zl a1)] [] m Q :=
  c_div 64 d a0 a1 Q (by have h : (2 : Nat) ^ 64 = 18446744073709551616 := rfl; rw [h]; omega) (.inl (by omega)) (by omega) (fun v hv hF => hQ v trivial (hF 0) hv)
