/-! The calendar's text: its lines, on both sides. -/
/-- behind a fault the reference keeps it -/
def FZ (r r' : zM) : Prop := r' 4 44 9 = r 4 44 9 ∧ r' 4 44 6 = r 4 44 6 ∧ r' 4 44 7 = r 4 44 7 ∧ r' 4 44 5 = r 4 44 5
theorem FZ.rf (r : zM) : FZ r r := ⟨rfl, rfl, rfl, rfl⟩
theorem FZ.trans {a b c : zM} (h : FZ a b) (h' : FZ b c) : FZ a c := ⟨h'.1.trans h.1, h'.2.1.trans h.2.1, h'.2.2.1.trans h.2.2.1, h'.2.2.2.trans h.2.2.2⟩
theorem FL.fz {c r r' : zM} (h : FL c r) (hz : FZ r r') : FL c r' := by
  obtain ⟨a1, a2, a3, a4, a5⟩ := h
  obtain ⟨b1, b2, b3, b4⟩ := hz
  exact ⟨by omega, by omega, by omega, a4, by omega⟩
theorem E1R.fz {r r' : zM} (h : E1R r r') : FZ r r' := ⟨h _ _ _ (by omega), h _ _ _ (by omega), h _ _ _ (by omega), h _ _ _ (by omega)⟩
theorem FZ.upd (r : zM) {k : Nat} (i x : Int) (h : k ≠ 44) : FZ r (z_upd r 4 k i x) := by
  refine ⟨?_, ?_, ?_, ?_⟩ <;> exact congrFun (zu_k _ _ _ (fun e => h e.symm)) _
theorem fz_bl : ∀ (n : Nat) (r : zM), E1R r (fl263_0_1 (fun m => m) n r)
  | 0, r => E1R.rf r
  | n + 1, r => by
    show E1R r (fl263_0_1_b (fl263_0_1 (fun m => m) n) (fun m => m) r)
    unfold fl263_0_1_b
    split
    · exact E1R.rf r
    · split
      · exact (E1R.upd r _).trans (fz_bl n _)
      · exact E1R.rf r
theorem fz_wr {r : zM} (h : r 4 44 9 = 1) (k p : Int) : f268_1 k p r = r := by
  unfold f268_1
  rw [if_neg (by omega)]
theorem fz_num {r : zM} (h : r 4 44 9 = 1) (k p : Int) : f270_1 k p r = (0, r) := by
  unfold f270_1
  rw [if_neg (by omega)]
theorem fz_must {r : zM} (h : r 4 44 9 = 1) (k : Int) : E1R r (f272_1 k r) := by
  have e1 : E1R r (f263_1 r) := fz_bl _ r
  have e2 : f263_1 r 4 44 9 = 1 := by rw [e1 _ _ _ (by omega)]; exact h
  unfold f272_1
  simp only [zs, fz_wr e2]
  split
  · exact e1
  · split
    · exact e1.trans (E1R.upd _ _)
    · exact e1
theorem frz {r : zM} (h : r 4 44 9 = 1) (k : Int) : f272_1 k r 4 44 9 = 1 := by
  rw [fz_must h k _ _ _ (by omega)]
  exact h
/-! signs, digits -/
theorem sign_eq {c r : zM} (h : N0 c r) {x : Int} (hx : 0 ≤ x ∧ x < 128) : EC c (f105_1 x c).2 ∧ ER r (f272_1 x r) ∧ (((f105_1 x c).1 = 1 ∧ N0 (f105_1 x c).2 (f272_1 x r) ∧ c 4 41 7 < (f105_1 x c).2 4 41 7) ∨ ((f105_1 x c).1 = 0 ∧ FL (f105_1 x c).2 (f272_1 x r))) := by
  have hb := h.bl
  obtain ⟨b1, b2, b3, b4⟩ := bl_eq h.1
  have e8 := b1.2.2.2.2.2
  unfold f105_1 f272_1
  simp only [zs, zb]
  rw [← b1.1, ← e8]
  obtain ⟨f1, f2, f3, f4⟩ := hb.fail (k := 1) (p := f93_1 c 4 41 7) (p' := f93_1 c 4 41 7) (by decide) rfl
  by_cases c1 : f93_1 c 4 41 3 ≤ f93_1 c 4 41 7
  · rw [if_pos c1, if_pos c1]
    exact ⟨b2.ec.trans f3, b3.er.trans f4, .inr ⟨f1, f2⟩⟩
  · rw [if_neg c1, if_neg c1]
    have ht := b1.ch (by omega)
    rw [← e8] at ht
    by_cases c2 : f93_1 c 4 42 (f93_1 c 4 41 7) = x
    · have c3 : f263_1 r 4 48 (f93_1 c 4 41 7) = x := by
        unfold tE at ht
        omega
      rw [if_pos c2, if_pos c3]
      have ho := b1.on (by omega)
      rw [← e8] at ho
      refine ⟨b2.ec.trans (EC.upd _ _ (by omega)), b3.er.trans (ER.upd _ _ (by omega)), .inl ⟨rfl, ⟨ho, ?_, ?_, ?_, ?_, ?_⟩, ?_⟩⟩
      · dsimp only; rw [z_upd_o _ _ rfl]; exact hb.2.1
      · dsimp only; rw [z_upd_o _ _ rfl]; exact hb.2.2.1
      · rw [z_upd_o _ _ rfl]; exact hb.2.2.2.1
      · rw [z_upd_o _ _ rfl]; exact hb.2.2.2.2.1
      · rw [z_upd_o _ _ rfl]; exact hb.2.2.2.2.2
      · show c 4 41 7 < z_upd (f93_1 c) 4 41 7 (f93_1 c 4 41 7 + 1) 4 41 7
        rw [z_upd_same]
        omega
    · have c3 : ¬ f263_1 r 4 48 (f93_1 c 4 41 7) = x := by
        unfold tE at ht
        omega
      rw [if_neg c2, if_neg c3]
      exact ⟨b2.ec.trans f3, b3.er.trans f4, .inr ⟨f1, f2⟩⟩
theorem digit_eq {c r : zM} (h : N0 c r) : E1C c (f103_1 c).2 ∧ E1R r (f271_1 r).2 ∧ N0 (f103_1 c).2 (f271_1 r).2 ∧ (f271_1 r).1 = (f103_1 c).1 ∧ ((f103_1 c).1 = 0 ∨ (f103_1 c).1 = 1) := by
  have hb := h.bl
  obtain ⟨b1, b2, b3, b4⟩ := bl_eq h.1
  have e8 := b1.2.2.2.2.2
  unfold f103_1 f271_1
  simp only [zs, zn]
  rw [← b1.1, ← e8]
  by_cases c1 : f93_1 c 4 41 3 ≤ f93_1 c 4 41 7
  · rw [if_pos c1, if_pos c1]
    exact ⟨b2, b3, hb, rfl, .inl rfl⟩
  · rw [if_neg c1, if_neg c1]
    have ht := b1.ch (by omega)
    rw [← e8] at ht
    by_cases c2 : f93_1 c 4 42 (f93_1 c 4 41 7) < 48
    · rw [if_pos c2]
      have c3 : f263_1 r 4 48 (f93_1 c 4 41 7) < 48 := by
        unfold tE at ht
        omega
      rw [if_pos c3]
      exact ⟨b2, b3, hb, rfl, .inl rfl⟩
    · rw [if_neg c2]
      by_cases c4 : 57 < f93_1 c 4 42 (f93_1 c 4 41 7)
      · rw [if_pos c4]
        by_cases c3 : f263_1 r 4 48 (f93_1 c 4 41 7) < 48
        · rw [if_pos c3]
          exact ⟨b2, b3, hb, rfl, .inl rfl⟩
        · rw [if_neg c3, if_neg (by unfold tE at ht; omega)]
          exact ⟨b2, b3, hb, rfl, .inl rfl⟩
      · rw [if_neg c4, if_neg (by unfold tE at ht; omega), if_pos (by unfold tE at ht; omega)]
        exact ⟨b2, b3, hb, rfl, .inr rfl⟩
/-! what is told already: bits on the one side, a row on the other -/
def tbit (x v : Int) : Int := zand (zshr x v) 1
theorem tbit_tab : ∀ x : Nat, x < 256 → ∀ v : Nat, v < 8 → (0 ≤ zor x (zshl 1 v) ∧ zor x (zshl 1 v) < 256) ∧ (tbit x v = 0 ∨ tbit x v = 1) ∧ ∀ u : Nat, u < 8 → tbit (zor x (zshl 1 v)) u = if u = v then 1 else tbit x u := by decide +kernel
theorem tbit_set {x v : Int} (hx : 0 ≤ x ∧ x < 256) (hv : 0 ≤ v ∧ v < 8) : (0 ≤ zor x (zshl 1 v) ∧ zor x (zshl 1 v) < 256) ∧ (tbit x v = 0 ∨ tbit x v = 1) ∧ ∀ u : Int, 0 ≤ u → u < 8 → tbit (zor x (zshl 1 v)) u = if u = v then 1 else tbit x u := by
  obtain ⟨a, rfl⟩ : ∃ a : Nat, x = a := ⟨x.toNat, by omega⟩
  obtain ⟨b, rfl⟩ : ∃ b : Nat, v = b := ⟨v.toNat, by omega⟩
  obtain ⟨e1, e2, e3⟩ := tbit_tab a (by omega) b (by omega)
  refine ⟨e1, e2, fun u h0 h1 => ?_⟩
  obtain ⟨d, rfl⟩ : ∃ d : Nat, u = d := ⟨u.toNat, by omega⟩
  rw [e3 d (by omega)]
  by_cases e : d = b
  · rw [if_pos e, if_pos (by omega)]
  · rw [if_neg e, if_neg (by omega)]
/-! what a draft holds -/
def PS (p0 : Int → Int) (c r : zM) : Prop :=
  (0 ≤ c 4 41 9 ∧ c 4 41 9 < 256) ∧ (0 ≤ c 4 41 10 ∧ c 4 41 10 < 256) ∧ (∀ v : Int, 0 ≤ v → v < 8 → tbit (c 4 41 9) v = r 4 49 v) ∧ (∀ v : Int, 0 ≤ v → v < 4 → tbit (c 4 41 10) v = r 4 50 v) ∧
  (c 4 41 6 = r 4 44 14 ∧ (c 4 41 6 = 0 ∨ c 4 41 6 = 1)) ∧ (c 4 41 6 = 1 → ∀ t : Int, 0 ≤ t → t < 4 → c 4 43 t = r 4 45 (28 + t)) ∧ ((c 4 41 6 = 0 → ∀ t : Int, 0 ≤ t → t < 4 → r 4 45 (28 + t) = p0 (28 + t)) ∧ (∀ i : Int, (i < 28 ∨ 31 < i) → (i < 287 ∨ 787 < i) → r 4 45 i = p0 i)) ∧
  c 3 11 7 = r 4 44 13 ∧ (∀ v : Int, 0 ≤ v → v < 8 → tbit (c 4 41 9) v = 0 → c 3 12 v = 0) ∧ CR (c 3) (r 4 45) ∧ CB (c 3)
theorem EC.row {c c' : zM} (h : EC c c') {g k : Nat} (hk : g ≠ 4 ∨ k ≠ 41) : c' g k = c g k := by
  funext i
  exact h g k i (by omega)
theorem ER.row {r r' : zM} (h : ER r r') {g k : Nat} (hk : g ≠ 4 ∨ k ≠ 44) : r' g k = r g k := by
  funext i
  exact h g k i (by omega)
theorem EC.g3 {c c' : zM} (h : EC c c') : c' 3 = c 3 := by
  funext k
  exact h.row (.inl (by decide))
theorem PS.pres {p0 : Int → Int} {c r c' r' : zM} (h : PS p0 c r) (hc : EC c c') (hr : ER r r') : PS p0 c' r' := by
  unfold PS
  rw [hc 4 41 9 (by omega), hc 4 41 10 (by omega), hc 4 41 6 (by omega), hc.g3, hr.row (k := 49) (.inr (by decide)), hr.row (k := 50) (.inr (by decide)), hr.row (k := 45) (.inr (by decide)), hr 4 44 14 (by omega), hr 4 44 13 (by omega), hc.row (k := 43) (.inr (by decide))]
  exact h
/-- has the table that second -/
theorem isw_loop {m : zM} {t s : Int} : ∀ (n : Nat) (k : Int), 0 ≤ k → k ≤ m 4 45 (287 + t) → m 4 45 (287 + t) - k < n → (∀ j, 0 ≤ j → j < k → m 4 45 (295 + 6 * t + j) ≠ s) →
    (fl273_2_1 (fun _ => 1) 0 t s m n k = 1 ∧ ∃ j, 0 ≤ j ∧ j < m 4 45 (287 + t) ∧ m 4 45 (295 + 6 * t + j) = s) ∨ (fl273_2_1 (fun _ => 1) 0 t s m n k = 0 ∧ ∀ j, 0 ≤ j → j < m 4 45 (287 + t) → m 4 45 (295 + 6 * t + j) ≠ s) := by
  intro n
  induction n with
  | zero =>
    intro k h0 h1 h2
    omega
  | succ n ih =>
    intro k h0 h1 h2 h3
    have e : fl273_2_1 (fun _ => 1) 0 t s m (n + 1) k = fl273_2_1_b (fl273_2_1 (fun _ => 1) 0 t s m n) (fun _ => 1) 0 t s m k := rfl
    rw [e]
    unfold fl273_2_1_b
    by_cases c1 : k < m 4 45 (287 + t)
    · rw [if_pos c1]
      by_cases c2 : m 4 45 (295 + 6 * t + k) = s
      · rw [if_pos c2]
        exact .inl ⟨rfl, k, h0, c1, c2⟩
      · rw [if_neg c2]
        refine ih (k + 1) (by omega) (by omega) (by omega) (fun j j0 j1 => ?_)
        by_cases e9 : j = k
        · rw [e9]
          exact c2
        · exact h3 j j0 (by omega)
    · rw [if_neg c1]
      exact .inr ⟨rfl, fun j j0 j1 => h3 j j0 (by omega)⟩
theorem isw_eq {c r : zM} {g : Nat} (h : CR (c g) (r 4 45)) (hb : CB (c g)) {t s : Int} (t0 : 0 ≤ t) (t1 : t < 8) : f273_1 t s r = f82_1 g t s c ∧ (f82_1 g t s c = 0 ∨ f82_1 g t s c = 1) := by
  have hc := hb.1 t t0 t1
  have ec := h.1.1 t t0 t1
  obtain ⟨v, e1, e2, e3, e4, e5⟩ := sb_spec c g t s hc
  have e6 := hs_eq c g t s v e1 e2 e3
  have e7 := isw_loop (m := r) (t := t) (s := s) (zfu 7) 0 (by omega) (by omega) (by rw [zfu_eq]; omega) (fun j _ _ => by omega)
  have es : ∀ k, 0 ≤ k → k < c g 12 t → r 4 45 (295 + 6 * t + k) = c g 13 (t * 6 + k) := fun k k0 k1 => (h.1.2.1 t k t0 t1 k0 k1).1.symm
  rw [e6]
  unfold f273_1
  rw [← ec] at e7
  by_cases c1 : v < c g 12 t ∧ c g 13 (t * 6 + v) = s
  · rw [if_pos c1]
    rcases e7 with ⟨g1, g2⟩ | ⟨g1, g2⟩
    · exact ⟨g1, .inr rfl⟩
    · exact absurd (by rw [es v e2 c1.1]; exact c1.2) (g2 v e2 c1.1)
  · rw [if_neg c1]
    rcases e7 with ⟨g1, j, j0, j1, j2⟩ | ⟨g1, g2⟩
    · exfalso
      rw [es j j0 j1] at j2
      rcases Int.lt_trichotomy j v with c2 | c2 | c2
      · have := e4 j j0 c2
        omega
      · subst c2
        exact c1 ⟨j1, j2⟩
      · have g2 := e5 (by omega)
        have g3 := CR.mono h t0 t1 (j - v).toNat v j e2 (by omega) j1
        exact c1 ⟨by omega, by omega⟩
    · exact ⟨g1, .inl rfl⟩
/-- what the draft's bounds are behind putSwitch -/
theorem CB.put {m : zM} {g : Nat} (hb : CB (m g)) {t s x : Int} (h0 : 0 ≤ t) (h1 : t < 8) (hs : 0 ≤ s ∧ s ≤ 86399) (hx : 0 ≤ x ∧ x ≤ 3) : CB ((f81_1 g t s x m).2 g) := by
  have hc := hb.1 t h0 h1
  obtain ⟨v, m1, r1, p1, p2, p3, p4, p5, p6, p7⟩ := put_cls m g t s x h0 h1 hc
  rw [p1]
  show CB (m1 g)
  obtain ⟨b1, b2, b3, b4, b5, b6, b7, b8⟩ := hb
  have e11 := p6 g 11 (by omega)
  have e15 := p6 g 15 (by omega)
  have e16 := p6 g 16 (by omega)
  have e17 := p6 g 17 (by omega)
  have e18 := p6 g 18 (by omega)
  unfold CB
  rw [e11, e15, e16, e17, e18]
  have hsh : ∀ (a : Int → Int) (lo hi n y : Int), (∀ i : Int, 0 ≤ i → i < 48 → lo ≤ a i ∧ a i ≤ hi) → lo ≤ y ∧ y ≤ hi → n < 6 → v ≤ n → ∀ i : Int, 0 ≤ i → i < 48 → lo ≤ shf a (t * 6) v n y i ∧ shf a (t * 6) v n y i ≤ hi := by
    intro a lo hi n y ha hy hn hv i i0 i1
    unfold shf
    by_cases c1 : i = t * 6 + v
    · rw [if_pos c1]
      exact hy
    · rw [if_neg c1]
      by_cases c2 : t * 6 + v < i ∧ i ≤ t * 6 + n
      · rw [if_pos c2]
        exact ha (i - 1) (by omega) (by omega)
      · rw [if_neg c2]
        exact ha i i0 i1
  rcases p7 with ⟨a1, a2, a3, a4, a5, a6⟩ | ⟨a1, a2, a3, a4⟩ | ⟨a1, a2, a3, a4, a5, a6⟩
  · rw [a4, a5, a6]
    refine ⟨b1, b2, b3, b4, b5, fun i i0 i1 => ?_, b7, b8⟩
    unfold fu
    split
    · exact hx
    · exact b6 i i0 i1
  · subst a4
    exact ⟨b1, b2, b3, b4, b5, b6, b7, b8⟩
  · rw [a4, a5, a6]
    refine ⟨fun i i0 i1 => ?_, b2, b3, b4, hsh _ _ _ _ _ b5 hs a2 p3, hsh _ _ _ _ _ b6 hx a2 p3, b7, b8⟩
    unfold fu
    split
    · omega
    · exact b1 i i0 i1
