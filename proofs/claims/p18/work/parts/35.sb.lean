/-! How many SWITCHES of a TABLE lie ahead of a second: the number itself. -/
def zsbF (m : zM) (g : Nat) (t s : Int) : Nat → Int → Int
  | 0, k => k
  | n + 1, k => if k < m g 12 t ∧ m g 13 (t * 6 + k) < s then zsbF m g t s n (k + 1) else k
def zsb (m : zM) (g : Nat) (t s : Int) : Int := zsbF m g t s 7 0
theorem l_sb {s : Nat × (Nat → Int32)} {S : zS} {m0 m : zM} {B : Int} {d : Nat} {Q : Option zV → zM → Prop} (g0 : Nat) (y1 y2 y3 : Int) (hd : 13 ≤ d) (hJ : J S m0 B m) (hy1 : 0 ≤ y1 ∧ y1 ≤ 7) (hy3 : y3 = y1 * 6)
    (K38 : ∀ (x4 : Int) , (0 ≤ x4 ∧ x4 ≤ 6) → (x4 ≤ m g0 12 y1) → (x4 < m g0 12 y1 → y2 ≤ m g0 13 (y1 * 6 + x4)) → x4 = zsb m g0 y1 y2 → X (EE s) d 32 38 [(4, zi x4)] [] m Q) :
    ∀ (n : Nat) (y4 : Int) , (0 ≤ y4 ∧ y4 ≤ 6) → (y4 ≤ m g0 12 y1) → y4 + (n : Int) = 7 → zsbF m g0 y1 y2 n y4 = zsb m g0 y1 y2 → X (EE s) d 32 8 [(0, zr g0 11), (1, zi y1), (2, zi y2), (3, zi y3), (4, zi y4)] [] m Q := by
  intro n
  induction n with
  | zero =>
    intro y4 hy4 hr0 hn
    exfalso
    omega
  | succ n ih =>
    intro y4 hy4 hr0 hn hz
    refine X.iload 10 i32_8 rfl rfl rfl ?_
    refine X.aload_n 11 i32_10 rfl rfl rfl ?_
    refine X.getR 14 i32_11 rfl rfl (by decide) rfl rfl ?_
    refine X.iload_n 15 i32_14 rfl rfl rfl ?_
    refine X.iald 16 i32_15 rfl rfl (by decide) rfl (by omega) ?_
    have h6 := r12_0 hJ g0 (i := y1) (by omega)
    refine X.icmpge 38 19 i32_16 rfl rfl rfl (fun h7 => ?_) (fun h7 => ?_)
    · refine X.cut [(4, zi y4)] i32_38 rfl ?_
      rw [zsbF, if_neg (by omega)] at hz
      exact K38 y4 (by omega) (by omega) (by omega) hz
    · refine X.aload_n 20 i32_19 rfl rfl rfl ?_
      refine X.getR 23 i32_20 rfl rfl (by decide) rfl rfl ?_
      refine X.iload_n 24 i32_23 rfl rfl rfl ?_
      refine X.iload 26 i32_24 rfl rfl rfl ?_
      refine X.iadd 27 i32_26 rfl rfl (by omega) ?_
      refine X.iald 28 i32_27 rfl rfl (by decide) rfl (by omega) ?_
      subst hy3
      refine X.iload_n 29 i32_28 rfl rfl rfl ?_
      refine X.icmpge 38 32 i32_29 rfl rfl rfl (fun h9 => ?_) (fun h9 => ?_)
      · refine X.cut [(4, zi y4)] i32_38 rfl ?_
        rw [zsbF, if_neg (by omega)] at hz
        exact K38 y4 (by omega) (by omega) (by omega) hz
      · refine X.iinc 35 [(0, zr g0 11), (1, zi y1), (2, zi y2), (3, zi (y1 * 6)), (4, zi (y4 + 1))] i32_32 rfl rfl rfl (by omega) rfl ?_
        refine X.goto 8 i32_35 rfl rfl ?_
        rw [zsbF, if_pos (by omega)] at hz
        exact ih (y4 + 1) (by omega) (by omega) (by omega) hz
theorem c_sb {s : Nat × (Nat → Int32)} {S : zS} {m0 m : zM} {B : Int} {d : Nat} {Q : Option zV → zM → Prop} (g0 : Nat) (a1 a2 : Int) (hd : 13 ≤ d) (hJ : J S m0 B m) (hB : B + 0 ≤ 1000000000) (ha1 : 0 ≤ a1 ∧ a1 ≤ 7) (hQ : ∀ (v : Int), (0 ≤ v ∧ v ≤ 6) → (v ≤ m g0 12 a1) → (v < m g0 12 a1 → a2 ≤ m g0 13 (a1 * 6 + v)) → v = zsb m g0 a1 a2 → Q (some (zi v)) m) : X (EE s) d 32 0 [(0, zr g0 11), (1, zi a1), (2, zi a2)] [] m Q := by
  have f0 := r12_0 hJ g0 (i := a1) (by omega)
  refine X.iload_n 1 i32_0 rfl rfl rfl ?_
  refine X.bipush 3 i32_1 rfl rfl (by decide) ?_
  refine X.imul 4 i32_3 rfl rfl (by omega) ?_
  refine X.istore_n 5 [(0, zr g0 11), (1, zi a1), (2, zi a2), (3, zi (a1 * 6))] i32_4 rfl rfl rfl ?_
  refine X.iconst 6 i32_5 rfl rfl (by decide) ?_
  refine X.istore 8 [(0, zr g0 11), (1, zi a1), (2, zi a2), (3, zi (a1 * 6)), (4, zi 0)] i32_6 rfl rfl rfl ?_
  refine l_sb (B := B) g0 a1 a2 (a1 * 6) hd hJ ha1 rfl (fun y10 h1 h2 h3 h4 => ?_) 7 0 (by omega) (by omega) (by omega) rfl
  refine X.iload 40 i32_38 rfl rfl rfl ?_
  refine X.reti i32_40 rfl t32 ?_
  exact hQ y10 h1 h2 h3 h4
