/-! What the time is behind a call. -/
theorem w32_r (x : Int) : -2147483648 ≤ w32 x ∧ w32 x ≤ 2147483647 := z_r32 _
theorem w64_r (x : Int) : -9223372036854775808 ≤ w64 x ∧ w64 x ≤ 9223372036854775807 := z_r64 _
/-- the words undone, step by step: no great check for the kernel -/
theorem zs_a {α : Type} (p : zM) (f : zM → α) : zs p f = f p := zs_eq rfl
theorem zn_a {α : Type} (p : Int) (f : Int → α) : zn p f = f p := zn_eq rfl
theorem zb_a {α : Type} (p : Int × zM) (f : Int → zM → α) : zb p f = f p.1 p.2 := zb_eq rfl
theorem OM.q {B B' : Int} {m0 m : zM} {L G : List Nat} (h : z_mok lL m) (hJ : J (zQ L G) m0 B' m) (hb : B' ≤ B) : OM B m := ⟨h, hJ.jb.up hb⟩
theorem OM.t {B : Int} {m : zM} (h : OM B m) (g : Nat) : 0 ≤ m g 8 9 ∧ m g 8 9 ≤ 2000000000 := r8_9 h.2.o g
theorem OM.w {B : Int} {m : zM} (h : OM B m) : 0 ≤ m 4 45 0 ∧ m 4 45 0 ≤ 2000000000 := r45_0 h.2.o 4
/-- a field that is an int -/
theorem OM.i {B : Int} {m : zM} {g k fj ci : Nat} {fs : List zF} (h : OM B m) (hk : lL.1 k = some (.inl (ci, fs))) (hf : fs[fj]? = some (.inl 0)) (hv : z_ok lL (zr g k)) (hg : g < 3) : -2147483648 ≤ m g k (fj : Int) ∧ m g k (fj : Int) ≤ 2147483647 := by
  rcases hv with e | hv
  · exact absurd e.1 (show ¬ g = 99 by omega)
  · have h1 := h.1 g k hv
    unfold z_ck at h1
    rw [hk] at h1
    exact (h1 fj (.inl 0) hf).1
theorem jt {L G : List Nat} {B : Int} {m0 m : zM} (h : J (zQ L G) m0 B m) (g : Nat) (hL : L.contains 11 = false) : m g 8 9 = m0 g 8 9 :=
  h.eqf 11 (ja8_0 (by omega)) (fun e => by rw [List.contains_iff_mem.mpr e] at hL; cases hL)
theorem jw0 {L G : List Nat} {B : Int} {m0 m : zM} (h : J (zQ L G) m0 B m) (hL : L.contains 31 = false) : m 4 45 0 = m0 4 45 0 :=
  h.eqf 31 ja45_0 (fun e => by rw [List.contains_iff_mem.mpr e] at hL; cases hL)
theorem f26_time {m : zM} {B a : Int} {g : Nat} (h : OM B m) (hB : B + 8 ≤ 1000000000) (hg : g < 3) (ha : 1 ≤ a ∧ a ≤ 3600) :
    ∃ v m', f26_1 g a m = (v, m') ∧ 1 ≤ v ∧ v ≤ a ∧ OM (B + 8) m' ∧ m' g 8 9 = min (m g 8 9 + v) 2000000000 := by
  obtain ⟨k1, k2, k3, k4, k5⟩ := q26_1 g a h.1 h.2 hB hg ha ha.1
  refine ⟨(f26_1 g a m).1, (f26_1 g a m).2, rfl, k4, k5, ⟨k1, k2.jb⟩, ?_⟩
  have ht := h.t g
  unfold f26_1
  simp only [zs, zn]
  have b1 := q27_1 g (m g 8 9) h.1 h.2 (by omega) (by omega) (by omega)
  generalize f27_1 g (m g 8 9) m = v1 at b1 ⊢
  have b2 := q34_1 g (m g 10 2) h.1 h.2 (by omega) hg (r10_0 h.2.o g (i := 2) (by omega))
  generalize f34_1 g (m g 10 2) m = v2 at b2 ⊢
  obtain ⟨b3, b4, b5, b6⟩ := q35_1 g a v1 v2 h.1 h.2 (by omega) hg ha b1 b2 ha.1
  generalize f35_1 g a v1 v2 m = v at b3 b4 b5 b6 ⊢
  obtain ⟨c1, c2⟩ := q49_1 g v v1 h.1 h.2 (by omega) hg b3 b1
  have e1 := jt c2 g rfl
  have o1 : OM B (f49_1 g v v1 m) := ⟨c1, c2.jb⟩
  generalize f49_1 g v v1 m = m1 at e1 o1 ⊢
  have o2 := u8_13 (g := g) o1 (w32_r (m1 g 8 13 + v))
  have e2 : z_upd m1 g 8 13 (w32 (m1 g 8 13 + v)) g 8 9 = m1 g 8 9 := z_upd_o _ _ rfl
  generalize z_upd m1 g 8 13 (w32 (m1 g 8 13 + v)) = m2 at o2 e2 ⊢
  have o3 := u8_9 (g := g) (x := m2 g 8 9 + (v - 1)) o2 (by omega)
  have e3 : z_upd m2 g 8 9 (m2 g 8 9 + (v - 1)) g 8 9 = m2 g 8 9 + (v - 1) := z_upd_same _ _ _ _ _
  generalize z_upd m2 g 8 9 (m2 g 8 9 + (v - 1)) = m3 at o3 e3 ⊢
  obtain ⟨d1, d2⟩ := q53_1 g o3.1 o3.2 (by omega) hg
  have e4 := jt d2 g rfl
  have o4 : OM (B + 1) (f53_1 g m3) := ⟨d1, d2.jb⟩
  generalize f53_1 g m3 = m4 at o4 e4 ⊢
  have t4 := o4.t g
  obtain ⟨f1, f2⟩ := q56_1 g g v v2 (m4 g 10 3) (m4 g 8 9) o4.1 o4.2 (by omega) hg hg b3 b2 (r10_0 o4.2.o g (i := 3) (by omega)) t4
  have e5 := jt f2 g rfl
  have o5 : OM (B + 7) (f56_1 g g v v2 (m4 g 10 3) (m4 g 8 9) m4) := .q f1 f2 (by omega)
  generalize f56_1 g g v v2 (m4 g 10 3) (m4 g 8 9) m4 = m5 at o5 e5 ⊢
  obtain ⟨s1, s2⟩ := q58_1 g v (m5 g 33 3) o5.1 o5.2 (by omega) hg b3 (o5.i (k := 33) (fj := 3) rfl rfl (zv33 hg) hg)
  have e6 := jt s2 g rfl
  have o6 : OM (B + 7) (f58_1 g v (m5 g 33 3) m5) := ⟨s1, s2.jb⟩
  generalize f58_1 g v (m5 g 33 3) m5 = m6 at o6 e6 ⊢
  by_cases c : 2000000000 ≤ m6 g 8 9
  · rw [if_pos c]
    obtain ⟨r1, r2⟩ := q59_1 g v1 o6.1 o6.2 (by omega) hg b1
    rw [jt r2 g rfl]
    omega
  · rw [if_neg c]
    have o7 := u8_9 (g := g) (x := m6 g 8 9 + 1) o6 (by omega)
    have e7 : z_upd m6 g 8 9 (m6 g 8 9 + 1) g 8 9 = m6 g 8 9 + 1 := z_upd_same _ _ _ _ _
    generalize z_upd m6 g 8 9 (m6 g 8 9 + 1) = m7 at o7 e7 ⊢
    obtain ⟨r1, r2⟩ := q59_1 g v1 o7.1 o7.2 (by omega) hg b1
    rw [jt r2 g rfl]
    omega
theorem f25_loop {g : Nat} (hg : g < 3) {a : Int} (ha : 1 ≤ a ∧ a ≤ 900) : ∀ (n : Nat) (y2 y3 : Int) (m : zM) (B : Int), OM B m → 0 ≤ y2 → y2 ≤ 900 → 0 ≤ y3 → y2 + y3 ≤ a → a - y3 < n → B + 8 * (a - y3) ≤ 1000000000 →
    ∃ m', fl25_4_1 (fun m => m) g a n y2 y3 m = m' ∧ m' g 8 9 = min (m g 8 9 + y2) 2000000000 := by
  intro n
  induction n with
  | zero =>
    intro y2 y3 m B h h0 h1 h2 h3 h4
    omega
  | succ n ih =>
    intro y2 y3 m B h h0 h1 h2 h3 h4 hB
    have ht := h.t g
    show ∃ m', fl25_4_1_b (fl25_4_1 (fun m => m) g a n) (fun m => m) g a y2 y3 m = m' ∧ _
    unfold fl25_4_1_b
    by_cases c : a ≤ y3
    · rw [if_pos c]
      exact ⟨m, rfl, by omega⟩
    rw [if_neg c]
    by_cases c2 : y2 ≤ 0
    · rw [if_pos c2]
      exact ⟨m, rfl, by omega⟩
    rw [if_neg c2]
    obtain ⟨v, m1, e1, e2, e3, e4, e5⟩ := f26_time (a := y2) h (by omega) hg (by omega)
    rw [zb_eq e1]
    obtain ⟨m', g1, g2⟩ := ih (y2 - v) (y3 + 1) m1 (B + 8) e4 (by omega) (by omega) (by omega) (by omega) (by omega) (by omega)
    exact ⟨m', g1, by omega⟩
theorem f25_time {m : zM} {B a : Int} {g : Nat} (h : OM B m) (hB : B + 7208 ≤ 1000000000) (hg : g < 3) (ha : 1 ≤ a ∧ a ≤ 900) : f25_1 g a m g 8 9 = min (m g 8 9 + a) 2000000000 := by
  obtain ⟨m', e1, e2⟩ := f25_loop hg ha (zfu 901) a 0 m B h (by omega) (by omega) (by omega) (by omega) (by rw [zfu_eq]; omega) (by omega)
  rw [show f25_1 g a m = m' from e1]
  exact e2
/-! the reference -/
theorem f230_time {m : zM} {B : Int} (h : OM B m) (hB : B + 1 ≤ 1000000000) : f230_1 m 4 45 0 = min (m 4 45 0 + 1) 2000000000 := by
  unfold f230_1
  simp only [zs, zn]
  have hw := h.w
  have o1 : OM B (z_upd m 4 45 27 (zorL (m 4 45 27) (f231_1 m))) := u45_21 h (by omega) (z_r64 _)
  have e1 : z_upd m 4 45 27 (zorL (m 4 45 27) (f231_1 m)) 4 45 0 = m 4 45 0 := z_upd_o _ _ rfl
  generalize z_upd m 4 45 27 (zorL (m 4 45 27) (f231_1 m)) = m1 at o1 e1 ⊢
  by_cases c : m1 4 45 0 = 2000000000
  · rw [if_pos c]
    omega
  · rw [if_neg c]
    have o2 := u45_0 (g := 4) (x := m1 4 45 0 + 1) o1 (by omega)
    have e2 : z_upd m1 4 45 0 (m1 4 45 0 + 1) 4 45 0 = m1 4 45 0 + 1 := z_upd_same _ _ _ _ _
    generalize z_upd m1 4 45 0 (m1 4 45 0 + 1) = m2 at o2 e2 ⊢
    by_cases c2 : m2 4 45 0 % m2 4 45 8 = 0
    · rw [if_pos c2]
      obtain ⟨r1, r2⟩ := q232_1 0 o2.1 o2.2 (by omega) (by omega)
      rw [jw0 r2 rfl]
      omega
    · rw [if_neg c2]
      omega
noncomputable def g208 (v07 v17 : Int) (m : zM) : zM := zn ((v07 * v07)) fun z22 => zn ((v17 * v17)) fun z23 => zn (f214_1 (z22 + z23) m) fun v26 => zs (z_upd m 4 45 13 ((m 4 45 13) + 1)) fun m28 => zn (w64 ((m28 4 45 25) + 1)) fun z30 => zs (z_upd m28 4 45 25 z30) fun m31 => zn (f215_1 v07 m31) fun v35 => zs (if v35 < (m31 4 45 4) then (zn (f215_1 v17 m31) fun v44 => if v44 < (m31 4 45 4) then (zn (w64 ((m31 4 45 14) + 1)) fun z50 => zs (z_upd m31 4 45 14 z50) fun m51 => m51) else (zs (f216_1 v07 v17 v26 m31) fun m47 => m47)) else (zs (f216_1 v07 v17 v26 m31) fun m39 => m39)) fun m54 => zs (f222_1 m54) fun m58 => zs (f224_1 m58) fun m61 => zs (f230_1 m61) fun m64 => m64
/-- how much flows, as the reference has it -/
theorem zn_id (p : Int) : (zn p fun v => v) = p := rfl
noncomputable def pw (i : Int) (m : zM) : Int := if (m 4 45 12) = 1 then (0) else (zn (f209_1 i m) fun v06 => v06)
theorem zn2 {α : Type} (p q : Int) (f : Int → Int → α) : (zn p fun a => zn q fun b => f a b) = f p q := rfl
theorem f208_g (m : zM) : f208_1 m = g208 (pw 0 m) (pw 1 m) m := by
  unfold f208_1 g208
  rw [zn2]
  unfold pw
  rfl
theorem pw_r {B : Int} {m : zM} (h : OM B m) (hB : B ≤ 1000000000) {i : Int} (hi : 0 ≤ i ∧ i ≤ 3) : -12000000 ≤ pw i m ∧ pw i m ≤ 12000000 := by
  have a := q209_1 i h.1 h.2 (by omega) hi
  unfold pw
  rw [zn_id]
  split <;> omega
theorem f208_time {m : zM} {B : Int} (h : OM B m) (hB : B + 11 ≤ 1000000000) : f208_1 m 4 45 0 = min (m 4 45 0 + 1) 2000000000 := by
  rw [f208_g]
  have b0 := pw_r h (by omega) (i := 0) (by omega)
  have b1 := pw_r h (by omega) (i := 1) (by omega)
  generalize pw 0 m = x at b0 ⊢
  generalize pw 1 m = y at b1 ⊢
  unfold g208
  simp only [zs_a, zn_a]
  have sx := z_sqr (e := 12000000) (x := x) (by omega)
  have sy := z_sqr (e := 12000000) (x := y) (by omega)
  have b2 := q214_1 (x * x + y * y) h.1 h.2 (by omega) (by omega)
  generalize f214_1 (x * x + y * y) m = z at b2 ⊢
  have n0 : 0 ≤ m 4 45 13 ∧ m 4 45 13 ≤ B := r45_13 h.2.o 4
  have o1 : OM (B + 1) (z_upd m 4 45 13 (m 4 45 13 + 1)) := u45_13 (h.up (by omega)) (by omega) (by omega)
  have e1 : z_upd m 4 45 13 (m 4 45 13 + 1) 4 45 0 = m 4 45 0 := z_upd_o _ _ rfl
  generalize z_upd m 4 45 13 (m 4 45 13 + 1) = m1 at o1 e1 ⊢
  have o2 := u45_21 (g := 4) (i := 25) o1 (by omega) (w64_r (m1 4 45 25 + 1))
  have e2 : z_upd m1 4 45 25 (w64 (m1 4 45 25 + 1)) 4 45 0 = m1 4 45 0 := z_upd_o _ _ rfl
  generalize z_upd m1 4 45 25 (w64 (m1 4 45 25 + 1)) = m2 at o2 e2 ⊢
  have key : ∀ m3, OM (B + 1) m3 → m3 4 45 0 = m 4 45 0 → f230_1 (f224_1 (f222_1 m3)) 4 45 0 = min (m 4 45 0 + 1) 2000000000 := by
    intro m3 o3 e3
    obtain ⟨d1, d2⟩ := q222_1 o3.1 o3.2 (by omega)
    have e4 := jw0 d2 rfl
    have o4 : OM (B + 2) (f222_1 m3) := .q d1 d2 (by omega)
    obtain ⟨d3, d4⟩ := q224_1 o4.1 o4.2 (by omega)
    have e5 := jw0 d4 rfl
    have o5 : OM (B + 10) (f224_1 (f222_1 m3)) := .q d3 d4 (by omega)
    rw [f230_time o5 (by omega)]
    omega
  have k2 : OM (B + 1) (f216_1 x y z m2) ∧ f216_1 x y z m2 4 45 0 = m 4 45 0 := by
    obtain ⟨d1, d2⟩ := q216_1 x y z o2.1 o2.2 (by omega) b0 b1 b2
    exact ⟨⟨d1, d2.jb⟩, by rw [jw0 d2 rfl]; omega⟩
  apply key
  · by_cases c : f215_1 x m2 < m2 4 45 4
    · rw [if_pos c]
      by_cases c2 : f215_1 y m2 < m2 4 45 4
      · rw [if_pos c2]
        exact u45_14 o2 (by omega) (w64_r _)
      · rw [if_neg c2]
        exact k2.1
    · rw [if_neg c]
      exact k2.1
  · by_cases c : f215_1 x m2 < m2 4 45 4
    · rw [if_pos c]
      by_cases c2 : f215_1 y m2 < m2 4 45 4
      · rw [if_pos c2, z_upd_o _ _ rfl]
        omega
      · rw [if_neg c2]
        exact k2.2
    · rw [if_neg c]
      exact k2.2
