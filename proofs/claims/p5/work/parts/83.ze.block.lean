/-! A block ended by hand: move, set. -/
/-- the next block is empty -/
theorem LD.beg {c c' : Nat → Int → Int} {w w' : Int → Int} (h : LD c w) (hz : ∀ i, 3 ≤ i → i ≤ 8 → c 27 i = 0) (h27 : ∀ i, 2 ≤ i → i ≤ 8 → c' 27 i = c 27 i) (h28 : c' 28 = c 28) (h29 : c' 29 = c 29) (hw : ∀ i, i = 17 ∨ (788 ≤ i ∧ i ≤ 1171) ∨ (1607 ≤ i ∧ i ≤ 1610) → w' i = w i) (hw0 : ∀ i, 22 ≤ i → i ≤ 27 → w' i = 0) : LD c' w' := by
  obtain ⟨a1, a2, ⟨a3, a4⟩, a5, b⟩ := h
  have e17 := hw 17 (by omega)
  have z : ∀ i, 3 ≤ i → i ≤ 8 → c' 27 i = 0 := fun i i0 i1 => by rw [h27 i (by omega) i1, hz i i0 i1]
  refine ⟨by rw [h27 2 (by omega) (by omega), e17]; exact a1, by omega, ⟨fun i i0 i1 k k0 k1 => ?_, fun j j0 j1 k k0 k1 => ?_⟩, fun k k0 k1 => ?_, ?_⟩
  · rw [e17] at i1 ⊢
    rw [h28, hw _ (by omega)]
    exact a3 i i0 i1 k k0 k1
  · rw [e17] at j0
    rw [h28]
    exact a4 j j0 j1 k k0 k1
  · rw [h29, hw _ (by omega)]
    exact a5 k k0 k1
  · unfold LB
    rw [z 3 (by omega) (by omega), z 4 (by omega) (by omega), z 5 (by omega) (by omega), z 6 (by omega) (by omega), z 7 (by omega) (by omega), z 8 (by omega) (by omega), hw0 22 (by omega) (by omega), hw0 23 (by omega) (by omega), hw0 24 (by omega) (by omega), hw0 25 (by omega) (by omega), hw0 26 (by omega) (by omega), hw0 27 (by omega) (by omega)]
    omega
/-- a block ends, told of (64) -/
theorem end64 {c r : zM} {B A Z : Int} (hr : OM B r) (h : MG A Z (c 0) (r 4 45)) (hA : A ≤ 5000000) :
    ∃ m3 x1, f60_1 0 (c 0 8 9) (max 1 (c 0 10 4)) 64 c = m3 ∧ f232_1 64 r = x1 ∧ LD (m3 0) (x1 4 45) ∧ (∀ i, 3 ≤ i → i ≤ 8 → m3 0 27 i = 0) ∧ m3 0 27 9 = c 0 8 9 ∧ (∀ g' k, (g' ≠ 0 ∨ (k ≠ 27 ∧ k ≠ 28 ∧ k ≠ 29)) → m3 g' k = c g' k) ∧ (∀ i, i ≠ 17 → (i < 21 ∨ 27 < i) → (i < 788 ∨ 1171 < i) → (i < 1607 ∨ 1610 < i) → x1 4 45 i = r 4 45 i) ∧ (∀ g k, (g ≠ 4 ∨ k ≠ 45) → x1 g k = r g k) := by
  have st := h.2.1.2.2.2.1
  have b8 := r45_8 hr.2.o 4
  have s4 : c 0 10 4 = r 4 45 8 := st.2.2.2.2.1
  obtain ⟨cb1, -, -, cb4, -, -, -, cb8, cb9, -⟩ := h.2.2.2.1
  obtain ⟨x1, e1, e2, e3, e4, e5, e6, e7, e8⟩ := ends_T (c := c) (r := r) (g := 0) (t := c 0 8 9) (blk := max 1 (c 0 10 4)) (told := 64) (fun i hi => r64_1607 hr hi) h.1.ld h.1.od h.1.t.symm (by omega) (.inr rfl)
  have e232 : f232_1 64 r = x1 := by
    by_cases hz : r 4 45 25 + r 4 45 26 = 0
    · rw [if_pos hz] at e1
      exact e1
    · rw [if_neg hz, if_neg (show ¬ (64 : Int) = 0 by decide)] at e1
      exact e1
  have nl := (end_c c 0 (c 0 8 9) (max 1 (c 0 10 4)) 64 (by omega) (by omega)).1
  exact ⟨_, x1, rfl, e232, e2, nl, e3, e5, e6, e7⟩
theorem move_in {c r : zM} {B A Z a : Int} (hr : OM B r) (h : MG A Z (c 0) (r 4 45)) (hA : A ≤ 5000000) :
    ∃ c' r', f129_1 0 a c = (c 0 8 9, c') ∧ f223_1 20 (r 4 45 0) (f233_1 (z_upd (f232_1 64 r) 4 45 0 a)) = r' ∧ r' 4 45 0 = c' 0 8 9 ∧ LG (c' 0) (r' 4 45) ∧ LD (c' 0) (r' 4 45) ∧ OD (c' 0) (r' 4 45) ∧ DM (c' 0) (r' 4 45) ∧ ∀ i, 3 ≤ i → i ≤ 8 → c' 0 27 i = 0 := by
  have ht := h.1.t
  obtain ⟨m3, x1, q1, q2, ld, nl, e9, e5, e6, e7⟩ := end64 hr h hA
  unfold f129_1
  simp only [zs_a]
  rw [q1, q2, ht]
  have ow : ∀ i, z_upd (z_upd m3 0 8 9 a) 0 27 9 a 0 27 i = if i = 9 then a else m3 0 27 i := fun i => by
    rw [zu_row, zu_k _ _ _ (by decide)]
    rfl
  have ok : ∀ k, k ≠ 8 → k ≠ 27 → z_upd (z_upd m3 0 8 9 a) 0 27 9 a 0 k = m3 0 k := fun k k8 k27 => by rw [zu_k _ _ _ k27, zu_k _ _ _ k8]
  have o9 : z_upd (z_upd m3 0 8 9 a) 0 27 9 a 0 8 9 = a := by rw [zu_k _ _ _ (by decide), zu_row, fu_s]
  obtain ⟨m8, em8⟩ : ∃ x, x = z_upd (z_upd m3 0 8 9 a) 0 27 9 a := ⟨_, rfl⟩
  rw [← em8] at ow ok o9 ⊢
  obtain ⟨g1, g2, g3, g4⟩ := begin_r (z_upd x1 4 45 0 a)
  have u0 : z_upd x1 4 45 0 a 4 45 0 = a := by rw [zu_row, fu_s]
  have u8 : z_upd x1 4 45 0 a 4 45 8 = r 4 45 8 := by rw [zu_row, fu_i _ _ (by decide), e6 8 (by decide) (by decide) (by decide) (by decide)]
  have v : ∀ i, i ≠ 0 → (i < 21 ∨ 27 < i) → f233_1 (z_upd x1 4 45 0 a) 4 45 i = x1 4 45 i := fun i i0 i1 => by rw [g3 i i1, zu_row, fu_i _ _ i0]
  have v0 : f233_1 (z_upd x1 4 45 0 a) 4 45 0 = a := by rw [g3 0 (by omega), u0]
  rw [u0, u8] at g2
  obtain ⟨n8, en8⟩ : ∃ x, x = f233_1 (z_upd x1 4 45 0 a) := ⟨_, rfl⟩
  rw [← en8] at g1 g2 v v0 ⊢
  have l1 : LG (m8 0) (n8 4 45) := h.1.l.pt (fun k hk => by rw [ok k (by omega) (by omega), e5 0 k (by omega)]) (fun i hi => by rw [v i (by omega) (by omega), e6 i (by omega) (by omega) (by omega) (by omega)])
  have l2 := l1.log4 (b := 20) (x := c 0 8 9) (by rw [o9, v0])
  have k1 := log4_c m8 20 (c 0 8 9)
  obtain ⟨-, -, -, -, k4⟩ := log_r n8 20 (c 0 8 9) l1.2.1
  have c27 : ∀ i, f54_1 0 20 (c 0 8 9) m8 0 27 i = if i = 9 then a else m3 0 27 i := fun i => by rw [k1 0 27 (by omega), ow]
  refine ⟨_, _, rfl, rfl, ?_, l2, ld.beg nl (fun i i0 i1 => by rw [c27, if_neg (by omega)]) (by rw [k1 0 28 (by omega), ok 28 (by decide) (by decide)]) (by rw [k1 0 29 (by omega), ok 29 (by decide) (by decide)]) (fun i hi => by rw [k4 i (by omega) (by omega), v i (by omega) (by omega)]) (fun i i0 i1 => by rw [k4 i (by omega) (by omega), g1 i i0 i1]), ?_, h.1.d.pt (fun k k0 k2 => by rw [k1 0 k (by omega), ok k (by omega) (by omega), e5 0 k (by omega)]) (fun i hi => by rw [k4 i (by omega) (by omega), v i (by omega) (by omega), e6 i (by omega) (by omega) (by omega) (by omega)]), fun i i0 i1 => by rw [c27, if_neg (by omega), nl i i0 i1]⟩
  · rw [k4 0 (by omega) (by omega), v0, k1 0 8 (by omega), o9]
  · unfold OD
    rw [k4 21 (by omega) (by omega), g2, c27, if_pos rfl, k4 8 (by omega) (by omega), v 8 (by omega) (by omega), e6 8 (by decide) (by decide) (by decide) (by decide)]
/-- all but the seal -/
theorem FE_s {c c' : Nat → Int → Int} (h : ∀ k, k ≠ 39 → c' k = c k) {n : Nat} (hn : n ≠ 4) : FE n c c' := fun x hx e i _ _ => by
  have hx2 : ∀ x, x ∈ fcl → x.1 ≠ 4 → x.2.1 ≠ 39 := by decide
  rw [h _ (hx2 x hx (by omega))]
theorem FW_s {w w' : Int → Int} (h : ∀ i, 0 ≤ i → ¬ (1614 ≤ i ∧ i ≤ 1618) → w' i = w i) {n : Nat} (hn : n ≠ 4) : FW n w w' := fun i h0 h1 e => h i h0 (fun hh => by rw [ja45_1614 hh] at e; omega)
theorem MG.s {A Z : Int} {c c' : Nat → Int → Int} {w w' : Int → Int} (h : MG A Z c w) (hb : CB c) (hc : ∀ k, k ≠ 39 → c' k = c k) (hw : ∀ i, 0 ≤ i → ¬ (1614 ≤ i ∧ i ≤ 1618) → w' i = w i) : MG A Z c' w' := h.fe hb (fun _ n4 _ => FE_s hc n4) (fun _ n4 _ => FW_s hw n4)
/-- where the class writes down what was refused -/
theorem shut_M {c r : zM} {B A Z : Int} (hc : OM B c) (hr : OM B r) (hB : B + 1 ≤ 1000000000) (hs : SE B (c 0) (r 4 45)) (h : MG A Z (c 0) (r 4 45)) :
    ∃ v c1 r1, f17_1 0 c = (v, c1) ∧ f203_1 r = (v, r1) ∧ OM B c1 ∧ OM B r1 ∧ MG A Z (c1 0) (r1 4 45) ∧ (∀ k, k ≠ 39 → c1 0 k = c 0 k) ∧ (∀ i, i < 1614 → r1 4 45 i = r 4 45 i) := by
  obtain ⟨v, c1, r1, e1, e2, hv, oc, ro, se, cr, fc, fr⟩ := shut_R hc hr hB hs h.2.2.1
  have k1 : ∀ k, k ≠ 39 → c1 0 k = c 0 k := fun k hk => funext fun i => fc 0 k i (by omega)
  exact ⟨v, c1, r1, e1, e2, oc, ro, h.s (CB.of hc.2 0) k1 (fun i _ i1 => fr 4 45 i (by omega)), k1, fun i hi => fr 4 45 i (by omega)⟩
theorem move_S {c r : zM} {B A Z a : Int} (hc : OM B c) (hr : OM B r) (hB : B + 1 ≤ 1000000000) (hs : SE B (c 0) (r 4 45)) (h : MG A Z (c 0) (r 4 45)) (hA : A ≤ 5000000) :
    (f281_1 a r).2 4 45 0 = (f127_1 a c).2 0 8 9 ∧ LG ((f127_1 a c).2 0) ((f281_1 a r).2 4 45) ∧ LD ((f127_1 a c).2 0) ((f281_1 a r).2 4 45) ∧ OD ((f127_1 a c).2 0) ((f281_1 a r).2 4 45) ∧ DM ((f127_1 a c).2 0) ((f281_1 a r).2 4 45) ∧ ∀ i, 3 ≤ i → i ≤ 8 → (f127_1 a c).2 0 27 i = 0 ∨ (f127_1 a c).2 0 27 i = c 0 27 i := by
  obtain ⟨v, c1, r1, e1, e2, oc, ro, h1, k1, -⟩ := shut_M hc hr hB hs h
  have same : (r1 4 45 0 = c1 0 8 9 ∧ LG (c1 0) (r1 4 45) ∧ LD (c1 0) (r1 4 45) ∧ OD (c1 0) (r1 4 45) ∧ DM (c1 0) (r1 4 45) ∧ ∀ i, 3 ≤ i → i ≤ 8 → c1 0 27 i = 0 ∨ c1 0 27 i = c 0 27 i) := ⟨h1.1.t, h1.1.l, h1.1.ld, h1.1.od, h1.1.d, fun i _ _ => .inr (by rw [k1 27 (by decide)])⟩
  unfold f127_1 f281_1
  rw [e1, e2, zb_a, zb_a]
  by_cases hv : v = 0
  case neg =>
    rw [if_neg hv, if_neg hv]
    exact same
  rw [if_pos hv, if_pos hv]
  by_cases a0 : a < 0
  · rw [if_pos a0, if_pos a0]
    exact same
  rw [if_neg a0, if_neg a0]
  by_cases a1 : a ≤ 2000000000
  case neg =>
    rw [if_pos (show 2000000000 < a by omega), if_neg a1]
    exact same
  rw [if_neg (show ¬ 2000000000 < a by omega), if_pos a1]
  obtain ⟨c', r', x1, x2, x3, x4, x5, x6, x8, x7⟩ := move_in (a := a) ro h1 hA
  simp only [zs_a]
  rw [x1, x2, zb_a]
  exact ⟨x3, x4, x5, x6, x8, fun i i0 i1 => .inl (x7 i i0 i1)⟩
