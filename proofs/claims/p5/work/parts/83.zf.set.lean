/-! A setting, on both sides. -/
def PR (v j : Int) : Prop := (0 ≤ v ∧ v ≤ 5 ∧ j = v + 4) ∨ (6 ≤ v ∧ v ≤ 9 ∧ j = v + 22) ∨ (10 ≤ v ∧ v ≤ 12 ∧ j = v + 1601)
def blk5 (b : Int) : Prop := b = 60 ∨ b = 300 ∨ b = 900 ∨ b = 1800 ∨ b = 3600
theorem ST.put {c c' : Nat → Int → Int} {w w' : Int → Int} (h : ST c w) {v j b : Int} (hp : PR v j) (hb : v = 4 → blk5 b) (e : ∀ i, c' 10 i = fu (c 10) v b i) (e' : ∀ i, w' i = fu w j b i) : ST c' w' := by
  have key : ∀ v0 j0, PR v0 j0 → c 10 v0 = w j0 → c' 10 v0 = w' j0 := fun v0 j0 h0 h1 => by
    rw [e, e']
    unfold PR at hp h0
    by_cases x : v0 = v
    · have y : j0 = j := by omega
      rw [x, y, fu_s, fu_s]
    · have y : j0 ≠ j := by omega
      rw [fu_i _ _ x, fu_i _ _ y, h1]
  obtain ⟨a0, a1, a2, a3, a4, a5, a6, a7, a8, a9, a10⟩ := h
  refine ⟨key 0 4 (by unfold PR; omega) a0, key 1 5 (by unfold PR; omega) a1, key 2 6 (by unfold PR; omega) a2, key 3 7 (by unfold PR; omega) a3, key 4 8 (by unfold PR; omega) a4, key 5 9 (by unfold PR; omega) a5, fun t t0 t1 => key (6 + t) (28 + t) (by unfold PR; omega) (a6 t t0 t1), key 10 1611 (by unfold PR; omega) a7, key 11 1612 (by unfold PR; omega) a8, key 12 1613 (by unfold PR; omega) a9, ?_⟩
  rw [e']
  by_cases x : j = 8
  · rw [x, fu_s]
    exact hb (by unfold PR at hp; omega)
  · rw [fu_i _ _ (fun y => x y.symm)]
    exact a10
/-- what a setting's answer and memories are -/
def SP (c : zM) (x y : Int × zM) : Prop := x.1 = y.1 ∧ ST (x.2 0) (y.2 4 45) ∧ LD (x.2 0) (y.2 4 45) ∧ OD (x.2 0) (y.2 4 45) ∧ DM (x.2 0) (y.2 4 45) ∧ ∀ i, 3 ≤ i → i ≤ 8 → x.2 0 27 i = 0 ∨ x.2 0 27 i = c 0 27 i
theorem SP.no {c r : zM} {A Z : Int} (h : MG A Z (c 0) (r 4 45)) {x y : Int × zM} (hx : x = (0, c)) (hy : y = (0, r)) : SP c x y := by
  rw [hx, hy]
  exact ⟨rfl, h.2.1.2.2.2.1, h.1.ld, h.1.od, h.1.d, fun _ _ _ => .inr rfl⟩
theorem SP.put {c r : zM} {A Z : Int} (h : MG A Z (c 0) (r 4 45)) {v j b : Int} (hp : PR v j) (h4 : v ≠ 4) {x y : Int × zM} (hx : x = (1, z_upd c 0 10 v b)) (hy : y = (1, z_upd r 4 45 j b)) : SP c x y := by
  rw [hx, hy]
  unfold SP
  dsimp only
  have wj : ∀ i, i ≠ j → z_upd r 4 45 j b 4 45 i = r 4 45 i := fun i hi => by rw [zu_row, fu_i _ _ hi]
  have k27 : z_upd c 0 10 v b 0 27 = c 0 27 := zu_k _ _ _ (by decide)
  unfold PR at hp
  refine ⟨rfl, h.2.1.2.2.2.1.put hp (fun e => absurd e h4) (fun i => by rw [zu_row]) (fun i => by rw [zu_row]), h.1.ld.pt (fun i _ _ => by rw [k27]) (zu_k _ _ _ (by decide)) (zu_k _ _ _ (by decide)) (fun i hi => wj i (by omega)), ?_, h.1.d.pt (fun k _ _ => zu_k _ _ _ (by omega)) (fun i hi => wj i (by omega)), fun i _ _ => .inr (by rw [k27])⟩
  unfold OD
  show z_upd r 4 45 j b 4 45 21 = if z_upd c 0 10 v b 0 27 9 % z_upd r 4 45 j b 4 45 8 = 0 then 0 else 1
  rw [wj 21 (by omega), wj 8 (by omega), k27]
  exact h.1.od
theorem zb_id (x : Int × zM) : (zb x fun v m => (v, m)) = x := by
  cases x
  rfl
theorem f74_v {c : zM} {a b v lo hi : Int} (h76 : ∀ m, f76_1 a m = v) (hv : v ≠ -1) (h1 : a ≠ 1) (h4 : a ≠ 4) (hlo : zro 2 v = lo) (hhi : zro 3 v = hi) : f74_1 0 a b c = if b < lo then (0, c) else if b ≤ hi then (1, z_upd c 0 10 v b) else (0, c) := by
  unfold f74_1 f75_1 f77_1
  simp only [zn_a, zs_a]
  rw [h76, if_neg hv, hlo, hhi, if_neg h1, if_neg h4, if_neg h4, h76, if_neg hv]
  by_cases x : b < lo
  · rw [if_pos x, if_pos x, if_pos rfl]
  · rw [if_neg x, if_neg x]
    by_cases y : b ≤ hi
    · rw [if_pos y, if_pos y, if_neg (show ¬ (1 : Int) = 0 by decide)]
    · rw [if_neg y, if_neg y, if_pos rfl]
theorem set_one {c r : zM} {A Z : Int} (h : MG A Z (c 0) (r 4 45)) {a b v j lo hi : Int} (hp : PR v j) (h76 : ∀ m, f76_1 a m = v) (hv : v ≠ -1) (h4v : v ≠ 4) (h1 : a ≠ 1) (h4 : a ≠ 4) (hlo : zro 2 v = lo) (hhi : zro 3 v = hi) {y : Int × zM} (hy : y = if b < lo then (0, r) else if b ≤ hi then (1, z_upd r 4 45 j b) else (0, r)) : SP c (f74_1 0 a b c) y := by
  have hx := f74_v (c := c) (b := b) h76 hv h1 h4 hlo hhi
  by_cases x : b < lo
  · rw [if_pos x] at hx hy
    exact SP.no h hx hy
  rw [if_neg x] at hx hy
  by_cases z : b ≤ hi
  · rw [if_pos z] at hx hy
    exact SP.put h hp h4v hx hy
  · rw [if_neg z] at hx hy
    exact SP.no h hx hy
theorem eq_ite {α : Type} (p : Prop) [Decidable p] (x y z : α) (hx : p → x = z) (hy : ¬ p → y = z) : (if p then x else y) = z := by
  by_cases h : p
  · rw [if_pos h]
    exact hx h
  · rw [if_neg h]
    exact hy h
/-- the unit -/
theorem set_1 {c r : zM} {A Z b : Int} (h : MG A Z (c 0) (r 4 45)) {y : Int × zM} (hy : y = if b < 1 then (0, r) else if b ≤ 1000000 then (if r 4 45 13 ≤ 0 then (1, z_upd r 4 45 5 b) else (0, r)) else (0, r)) : SP c (f74_1 0 1 b c) y := by
  have h76 : ∀ m, f76_1 1 m = 1 := fun _ => rfl
  have hlo : zro 2 1 = 1 := by decide
  have hhi : zro 3 1 = 1000000 := by decide
  have h13 : r 4 45 13 = c 0 8 13 := h.1.n.1
  have hx : f74_1 0 1 b c = if b < 1 then (0, c) else if b ≤ 1000000 then (if r 4 45 13 ≤ 0 then (1, z_upd c 0 10 1 b) else (0, c)) else (0, c) := by
    unfold f74_1 f75_1 f77_1
    simp only [zn_a, zs_a]
    rw [h76, if_neg (show ¬ (1 : Int) = -1 by decide), hlo, hhi, if_neg (show ¬ (1 : Int) = 4 by decide), if_pos trivial, if_neg (show ¬ (1 : Int) = -1 by decide), h13]
    by_cases x : b < 1
    · rw [if_pos x, if_pos x, if_pos rfl]
    · rw [if_neg x, if_neg x]
      by_cases y : b ≤ 1000000
      · rw [if_pos y, if_pos y, if_neg (show ¬ (1 : Int) = 0 by decide)]
      · rw [if_neg y, if_neg y, if_pos rfl]
  by_cases x : b < 1
  · rw [if_pos x] at hx hy
    exact SP.no h hx hy
  rw [if_neg x] at hx hy
  by_cases z : b ≤ 1000000
  · rw [if_pos z] at hx hy
    by_cases z2 : r 4 45 13 ≤ 0
    · rw [if_pos z2] at hx hy
      exact SP.put h (j := 5) (by unfold PR; omega) (by decide) hx hy
    · rw [if_neg z2] at hx hy
      exact SP.no h hx hy
  · rw [if_neg z] at hx hy
    exact SP.no h hx hy
/-- the block -/
theorem set_4 {c r : zM} {B A Z b : Int} (hr : OM B r) (h : MG A Z (c 0) (r 4 45)) (hA : A ≤ 5000000) {y : Int × zM} (hy : (blk5 b → y = (1, f233_1 (z_upd (f232_1 64 r) 4 45 8 b))) ∧ (¬ blk5 b → y = (0, r))) : SP c (f74_1 0 4 b c) y := by
  have h76 : ∀ m, f76_1 4 m = 4 := fun _ => rfl
  have hlo : zro 2 4 = 60 := by decide
  have hhi : zro 3 4 = 3600 := by decide
  have e75 : f75_1 0 4 b c = if b = 60 then 1 else if b = 300 then 1 else if b = 900 then 1 else if b = 1800 then 1 else if b = 3600 then 1 else 0 := by
    unfold f75_1
    simp only [zn_a]
    rw [h76, if_neg (show ¬ (4 : Int) = -1 by decide), hlo, hhi, if_pos trivial]
    by_cases x : b < 60
    · rw [if_pos x, if_neg (show ¬ b = 60 by omega), if_neg (show ¬ b = 300 by omega), if_neg (show ¬ b = 900 by omega), if_neg (show ¬ b = 1800 by omega), if_neg (show ¬ b = 3600 by omega)]
    rw [if_neg x]
    by_cases x : b ≤ 3600
    · rw [if_pos x]
    · rw [if_neg x, if_neg (show ¬ b = 60 by omega), if_neg (show ¬ b = 300 by omega), if_neg (show ¬ b = 900 by omega), if_neg (show ¬ b = 1800 by omega), if_neg (show ¬ b = 3600 by omega)]
  by_cases hb : blk5 b
  case neg =>
    have e0 : f75_1 0 4 b c = 0 := by
      rw [e75]
      unfold blk5 at hb
      rw [if_neg (show ¬ b = 60 by omega), if_neg (show ¬ b = 300 by omega), if_neg (show ¬ b = 900 by omega), if_neg (show ¬ b = 1800 by omega), if_neg (show ¬ b = 3600 by omega)]
    refine SP.no h ?_ (hy.2 hb)
    unfold f74_1
    rw [zn_a, e0, if_pos rfl]
  have e1 : f75_1 0 4 b c = 1 := by
    rw [e75]
    unfold blk5 at hb
    rcases hb with e | e | e | e | e <;> rw [e] <;> decide
  obtain ⟨m3, x1, q1, q2, ld, nl, e9, e5, e6, e7⟩ := end64 hr h hA
  have hx : f74_1 0 4 b c = (1, z_upd m3 0 10 4 b) := by
    unfold f74_1 f77_1
    simp only [zn_a, zs_a]
    rw [e1, if_neg (show ¬ (1 : Int) = 0 by decide), if_neg (show ¬ (4 : Int) = 1 by decide), if_pos trivial, q1, h76, if_neg (show ¬ (4 : Int) = -1 by decide)]
  have hy1 := hy.1 hb
  rw [q2] at hy1
  rw [hx, hy1]
  unfold SP
  dsimp only
  obtain ⟨g1, g2, g3, g4⟩ := begin_r (z_upd x1 4 45 8 b)
  have u0 : z_upd x1 4 45 8 b 4 45 0 = r 4 45 0 := by rw [zu_row, fu_i _ _ (by decide), e6 0 (by decide) (by decide) (by decide) (by decide)]
  have u8 : z_upd x1 4 45 8 b 4 45 8 = b := by rw [zu_row, fu_s]
  rw [u0, u8] at g2
  have v : ∀ i, (i < 21 ∨ 27 < i) → f233_1 (z_upd x1 4 45 8 b) 4 45 i = fu (x1 4 45) 8 b i := fun i i1 => by rw [g3 i i1, zu_row]
  obtain ⟨n8, en8⟩ : ∃ x, x = f233_1 (z_upd x1 4 45 8 b) := ⟨_, rfl⟩
  rw [← en8] at g1 g2 v ⊢
  have st3 : ST (m3 0) (x1 4 45) := by
    have ww : ∀ i, (4 ≤ i ∧ i ≤ 9) ∨ (28 ≤ i ∧ i ≤ 31) ∨ (1611 ≤ i ∧ i ≤ 1613) → x1 4 45 i = r 4 45 i := fun i hi => e6 i (by omega) (by omega) (by omega) (by omega)
    unfold ST
    rw [e5 0 10 (by omega), ww 4 (by omega), ww 5 (by omega), ww 6 (by omega), ww 7 (by omega), ww 8 (by omega), ww 9 (by omega), ww 1611 (by omega), ww 1612 (by omega), ww 1613 (by omega)]
    obtain ⟨b0, b1, b2, b3, b4, b5, b6, b7, b8, b9, b10⟩ := h.2.1.2.2.2.1
    exact ⟨b0, b1, b2, b3, b4, b5, fun t t0 t1 => by rw [ww _ (by omega)]; exact b6 t t0 t1, b7, b8, b9, b10⟩
  have k27 : z_upd m3 0 10 4 b 0 27 = m3 0 27 := zu_k _ _ _ (by decide)
  have st4 : ST (z_upd m3 0 10 4 b 0) (z_upd x1 4 45 8 b 4 45) := st3.put (v := 4) (j := 8) (b := b) (by unfold PR; omega) (fun _ => hb) (fun i => by rw [zu_row]) (fun i => by rw [zu_row])
  have st5 : ST (z_upd m3 0 10 4 b 0) (n8 4 45) := by
    have ww : ∀ i, (4 ≤ i ∧ i ≤ 9) ∨ (28 ≤ i ∧ i ≤ 31) ∨ (1611 ≤ i ∧ i ≤ 1613) → n8 4 45 i = z_upd x1 4 45 8 b 4 45 i := fun i hi => by rw [v i (by omega), zu_row]
    unfold ST
    rw [ww 4 (by omega), ww 5 (by omega), ww 6 (by omega), ww 7 (by omega), ww 8 (by omega), ww 9 (by omega), ww 1611 (by omega), ww 1612 (by omega), ww 1613 (by omega)]
    obtain ⟨b0, b1, b2, b3, b4, b5, b6, b7, b8, b9, b10⟩ := st4
    exact ⟨b0, b1, b2, b3, b4, b5, fun t t0 t1 => by rw [ww _ (by omega)]; exact b6 t t0 t1, b7, b8, b9, b10⟩
  refine ⟨rfl, st5, ld.beg nl (fun i _ _ => by rw [k27]) (zu_k _ _ _ (by decide)) (zu_k _ _ _ (by decide)) (fun i hi => ?_) g1, ?_, h.1.d.pt (fun k k0 k1 => by rw [zu_k _ _ _ (by omega), e5 0 k (by omega)]) (fun i hi => by rw [v i (by omega), fu_i _ _ (by omega), e6 i (by omega) (by omega) (by omega) (by omega)]), fun i i0 i1 => .inl (by rw [k27]; exact nl i i0 i1)⟩
  · rw [v i (by omega), fu_i _ _ (by omega)]
  · unfold OD
    show n8 4 45 21 = if z_upd m3 0 10 4 b 0 27 9 % n8 4 45 8 = 0 then 0 else 1
    rw [g2, k27, e9, v 8 (by omega), fu_s, ← h.1.t]
theorem set_P {c r : zM} {B A Z a b : Int} (hc : OM B c) (hr : OM B r) (hB : B + 1 ≤ 1000000000) (hs : SE B (c 0) (r 4 45)) (h : MG A Z (c 0) (r 4 45)) (hA : A ≤ 5000000) : SP c (f73_1 a b c) (f280_1 a b r) := by
  obtain ⟨v, c1, r1, e1, e2, oc, ro, h1, k1, -⟩ := shut_M hc hr hB hs h
  have lift : ∀ {x y : Int × zM}, SP c1 x y → SP c x y := fun hh => ⟨hh.1, hh.2.1, hh.2.2.1, hh.2.2.2.1, hh.2.2.2.2.1, fun i i0 i1 => by
    have := hh.2.2.2.2.2 i i0 i1
    rw [k1 27 (by decide)] at this
    exact this⟩
  refine lift ?_
  unfold f73_1 f280_1
  rw [e1, e2]
  simp only [zb_a]
  by_cases hv : v = 0
  case neg =>
    rw [if_neg hv, if_neg hv]
    exact SP.no h1 rfl rfl
  rw [if_pos hv, if_pos hv]
  show SP c1 (f74_1 0 a b c1) _
  by_cases a0 : a = 0
  · subst a0
    exact set_one h1 (v := 0) (j := 4) (lo := 0) (hi := 1000000) (by unfold PR; omega) (fun _ => rfl) (by decide) (by decide) (by decide) (by decide) (by decide) (by decide) (by simp only [↓reduceIte, zs_a])
  rw [if_neg a0]
  by_cases a1 : a = 1
  · subst a1
    exact set_1 h1 (by simp only [↓reduceIte, zs_a])
  rw [if_neg a1]
  by_cases a2 : a = 2
  · subst a2
    exact set_one h1 (v := 2) (j := 6) (lo := 0) (hi := 250000) (by unfold PR; omega) (fun _ => rfl) (by decide) (by decide) (by decide) (by decide) (by decide) (by decide) (by simp only [↓reduceIte, zs_a])
  rw [if_neg a2]
  by_cases a3 : a = 3
  · subst a3
    exact set_one h1 (v := 3) (j := 7) (lo := 0) (hi := 60) (by unfold PR; omega) (fun _ => rfl) (by decide) (by decide) (by decide) (by decide) (by decide) (by decide) (by simp only [↓reduceIte, zs_a])
  rw [if_neg a3]
  by_cases a4 : a = 4
  · subst a4
    refine set_4 ro h1 hA ⟨fun hb => ?_, fun hb => ?_⟩
    · rw [if_pos (show (4 : Int) = 4 from rfl)]
      simp only [zs_a]
      unfold blk5 at hb
      by_cases x1 : b = 60
      · rw [if_pos x1]
      rw [if_neg x1]
      by_cases x2 : b = 300
      · rw [if_pos x2]
      rw [if_neg x2]
      by_cases x3 : b = 900
      · rw [if_pos x3]
      rw [if_neg x3]
      by_cases x4 : b = 1800
      · rw [if_pos x4]
      rw [if_neg x4, if_pos (show b = 3600 by omega)]
    · unfold blk5 at hb
      rw [if_pos (show (4 : Int) = 4 from rfl), if_neg (show ¬ b = 60 by omega), if_neg (show ¬ b = 300 by omega), if_neg (show ¬ b = 900 by omega), if_neg (show ¬ b = 1800 by omega), if_neg (show ¬ b = 3600 by omega)]
  rw [if_neg a4]
  by_cases a5 : a = 5
  · subst a5
    exact set_one h1 (v := 5) (j := 9) (lo := 1) (hi := 6) (by unfold PR; omega) (fun _ => rfl) (by decide) (by decide) (by decide) (by decide) (by decide) (by decide) (by simp only [↓reduceIte, zs_a])
  rw [if_neg a5]
  by_cases a10 : a = 10
  · subst a10
    exact set_one h1 (v := 6) (j := 28) (lo := 0) (hi := 100) (by unfold PR; omega) (fun _ => rfl) (by decide) (by decide) (by decide) (by decide) (by decide) (by decide) (by simp only [↓reduceIte, Int.reduceEq, Int.reduceAdd, Int.reduceSub, zs_a])
  by_cases a11 : a = 11
  · subst a11
    exact set_one h1 (v := 7) (j := 29) (lo := 0) (hi := 100) (by unfold PR; omega) (fun _ => rfl) (by decide) (by decide) (by decide) (by decide) (by decide) (by decide) (by simp only [↓reduceIte, Int.reduceEq, Int.reduceAdd, Int.reduceSub, zs_a])
  by_cases a12 : a = 12
  · subst a12
    exact set_one h1 (v := 8) (j := 30) (lo := 0) (hi := 100) (by unfold PR; omega) (fun _ => rfl) (by decide) (by decide) (by decide) (by decide) (by decide) (by decide) (by simp only [↓reduceIte, Int.reduceEq, Int.reduceAdd, Int.reduceSub, zs_a])
  by_cases a13 : a = 13
  · subst a13
    exact set_one h1 (v := 9) (j := 31) (lo := 0) (hi := 100) (by unfold PR; omega) (fun _ => rfl) (by decide) (by decide) (by decide) (by decide) (by decide) (by decide) (by simp only [↓reduceIte, Int.reduceEq, Int.reduceAdd, Int.reduceSub, zs_a])
  by_cases a20 : a = 20
  · subst a20
    exact set_one h1 (v := 10) (j := 1611) (lo := 0) (hi := 100) (by unfold PR; omega) (fun _ => rfl) (by decide) (by decide) (by decide) (by decide) (by decide) (by decide) (by simp only [↓reduceIte, Int.reduceEq, Int.reduceAdd, Int.reduceSub, zs_a])
  by_cases a21 : a = 21
  · subst a21
    exact set_one h1 (v := 11) (j := 1612) (lo := 0) (hi := 200) (by unfold PR; omega) (fun _ => rfl) (by decide) (by decide) (by decide) (by decide) (by decide) (by decide) (by simp only [↓reduceIte, Int.reduceEq, Int.reduceAdd, Int.reduceSub, zs_a])
  by_cases a22 : a = 22
  · subst a22
    exact set_one h1 (v := 12) (j := 1613) (lo := 0) (hi := 100) (by unfold PR; omega) (fun _ => rfl) (by decide) (by decide) (by decide) (by decide) (by decide) (by decide) (by simp only [↓reduceIte, Int.reduceEq, Int.reduceAdd, Int.reduceSub, zs_a])
  -- no such setting
  have n76 : f76_1 a c1 = -1 := by
    unfold f76_1
    repeat' (refine eq_ite _ _ _ _ (fun _ => ?_) (fun _ => ?_))
    all_goals first | rfl | omega
  refine SP.no h1 ?_ ?_
  · unfold f74_1 f75_1
    simp only [zn_a]
    rw [n76, if_pos (show (-1 : Int) = -1 from rfl), if_pos (show (0 : Int) = 0 from rfl)]
  · repeat' (refine eq_ite _ _ _ _ (fun _ => ?_) (fun _ => ?_))
    all_goals first | rfl | (exfalso; omega)
