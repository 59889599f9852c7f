/-! How class and reference hang together: clock, shape, seal, calendar; tape, fault, image. -/
def I32 (a : Int) : Prop := -2147483648 ≤ a ∧ a ≤ 2147483647
theorem time_fe {c c' : Nat → Int → Int} {w w' : Int → Int} (h : c 8 9 = w 0) (h1 : FE 11 c c') (h2 : FW 11 w w') : c' 8 9 = w' 0 := by
  rw [h1.p8_9, h2 0 (by omega) (by omega) ja45_0]
  exact h
def R2 (c : Nat → Int → Int) (w : Int → Int) : Prop := c 19 3 = w 1 ∧ c 19 4 = w 2 ∧ c 19 5 = w 3
theorem R2.fe {c c' : Nat → Int → Int} {w w' : Int → Int} (h : R2 c w) (h1 : FE 2 c c') (h2 : FW 2 w w') : R2 c' w' := by
  unfold R2
  rw [h1.p19_3 3 (by omega) (by omega), h1.p19_3 4 (by omega) (by omega), h1.p19_3 5 (by omega) (by omega), h2 1 (by omega) (by omega) (ja45_1 (by omega)), h2 2 (by omega) (by omega) (ja45_1 (by omega)), h2 3 (by omega) (by omega) (ja45_1 (by omega))]
  exact h
theorem SE.fe {B : Int} {c c' : Nat → Int → Int} {w w' : Int → Int} (h : SE B c w) (h1 : FE 4 c c') (h2 : FW 4 w w') : SE B c' w' := h.of (fun i i0 i1 => h1.p39_0 i i0 i1) (fun i i0 i1 => h2 i (by omega) (by omega) (ja45_1614 ⟨i0, i1⟩))
theorem fw1 {w w' : Int → Int} (h2 : FW 1 w w') : ∀ i : Int, 287 ≤ i → i ≤ 787 → w' i = w i := fun i i0 i1 => h2 i (by omega) (by omega) (ja45_287 ⟨i0, i1⟩)
theorem CR.fe {c c' : Nat → Int → Int} {w w' : Int → Int} (h : CR c w) (hb : CB c) (h1 : FE 1 c c') (h2 : FW 1 w w') : CR c' w' :=
  (h.w hb (fw1 h2)).cg hb (fun i i0 i1 => h1.p12_0 i i0 (by omega)) (fun i i0 i1 => h1.p13_0 i i0 (by omega)) (fun i i0 i1 => h1.p14_0 i i0 (by omega)) (fun i i0 i1 => h1.p15_0 i i0 (by omega))
    (fun i i0 i1 => h1.p16_0 i i0 (by omega)) (fun i i0 i1 => h1.p17_0 i i0 (by omega)) (fun i i0 i1 => h1.p18_0 i i0 (by omega)) h1.p11_7
def MR (B : Int) (c : Nat → Int → Int) (w : Int → Int) : Prop := c 8 9 = w 0 ∧ R2 c w ∧ SE B c w ∧ CR c w
theorem MR.up {B B' : Int} {c : Nat → Int → Int} {w : Int → Int} (h : MR B c w) (hb : B ≤ B') : MR B' c w := ⟨h.1, h.2.1, h.2.2.1.up hb, h.2.2.2⟩
theorem MR.all {B : Int} {c c' : Nat → Int → Int} {w w' : Int → Int} (h : MR B c w) (hb : CB c) (h1 : ∀ n, FE n c c') (h2 : ∀ i, 0 ≤ i → i ≤ 1618 → w' i = w i) : MR B c' w' :=
  ⟨time_fe h.1 (h1 11) (FW.all h2 11), h.2.1.fe (h1 2) (FW.all h2 2), h.2.2.1.fe (h1 4) (FW.all h2 4), h.2.2.2.fe hb (h1 1) (FW.all h2 1)⟩
def Rel2 (B : Int) (c r : zM) : Prop := MR B (c 0) (r 4 45) ∧ c 4 40 4 = r 4 44 3 ∧ (r 4 44 3 = 1 → MR B (c 1) (r 4 47)) ∧ TA c r ∧ FT c r
theorem Rel2.up {B B' : Int} {c r : zM} (h : Rel2 B c r) (hb : B ≤ B') : Rel2 B' c r := ⟨h.1.up hb, h.2.1, fun e => (h.2.2.1 e).up hb, h.2.2.2⟩
theorem Rel2.r {B : Int} {c r r' : zM} (h : Rel2 B c r) (e44 : r' 4 44 = r 4 44) (e45 : r' 4 45 = r 4 45) (e47 : r' 4 47 = r 4 47) (e48 : r' 4 48 = r 4 48) : Rel2 B c r' := by
  unfold Rel2 TA FT at h ⊢
  rw [e44, e45, e47, e48]
  exact h
theorem Rel2.c {B : Int} {c c' r : zM} (h : Rel2 B c r) (e0 : c' 0 = c 0) (e1 : c' 1 = c 1) (e40 : c' 4 40 = c 4 40) (e41 : c' 4 41 = c 4 41) (e42 : c' 4 42 = c 4 42) : Rel2 B c' r := by
  unfold Rel2 TA FT at h ⊢
  rw [e0, e1, e40, e41, e42]
  exact h
/-- behind a call of the class what hangs on the reference's part is as it was -/
theorem Rel2.rj {L G : List Nat} {B B' : Int} {c m1 : zM} (h : Rel2 B c c) (k : J (zQ L G) c B' m1) (hl : ([44, 45, 47, 48].all fun k => (jp k).all fun x => !L.contains x.2.2.1.toNat) = true) (h0 : L.contains 0 = false) : Rel2 B c m1 := by
  have ha : ∀ k, k ∈ [44, 45, 47, 48] → ((jp k).all fun x => !L.contains x.2.2.1.toNat) = true := List.all_eq_true.mp hl
  exact h.r (k.row 44 (ha 44 (by simp)) h0 4) (k.row 45 (ha 45 (by simp)) h0 4) (k.row 47 (ha 47 (by simp)) h0 4) (k.row 48 (ha 48 (by simp)) h0 4)
/-- behind one of the reference's what hangs on the class' part -/
theorem Rel2.cj {L : List Nat} {B B' : Int} {m1 m2 : zM} (h : Rel2 B m1 m2) (k : J (zQ L [4]) m1 B' m2) (hl : ([40, 41, 42].all fun k => (jp k).all fun x => !L.contains x.2.2.1.toNat) = true) (h0 : L.contains 0 = false) : Rel2 B m2 m2 := by
  have ha : ∀ k, k ∈ [40, 41, 42] → ((jp k).all fun x => !L.contains x.2.2.1.toNat) = true := List.all_eq_true.mp hl
  exact h.c (jy k rfl) (jy k rfl) (k.row 40 (ha 40 (by simp)) h0 4) (k.row 41 (ha 41 (by simp)) h0 4) (k.row 42 (ha 42 (by simp)) h0 4)
def okL (L L' G : List Nat) : Bool := !G.contains 1 && !L.contains 14 && !L.contains 15 && !L.contains 16 && !L'.contains 34 && !L'.contains 35 && !L'.contains 36 && !L'.contains 0 && ((jp 47).all fun x => !L'.contains x.2.2.1.toNat)
theorem TA.fe {L L' G G' : List Nat} {B B' : Int} {c c' r r' : zM} (h : TA c r) (hl : c 4 41 3 ≤ 300) (k : J (zQ L G) c B c') (k' : J (zQ L' G') r B' r') (h1 : L.contains 15 = false) (h2 : L'.contains 35 = false) : TA c' r' := by
  have e1 : c' 4 41 3 = c 4 41 3 := jx k 15 ja41_3 h1
  refine ⟨?_, fun i i0 i1 => ?_⟩
  · rw [e1, jx k' 35 ja44_5 h2]
    exact h.1
  · rw [e1] at i1
    rw [jx k 15 (ja42_0 ⟨i0, by omega⟩) h1, jx k' 35 (ja48_0 ⟨i0, by omega⟩) h2]
    exact h.2 i i0 i1
theorem FT.fe {L L' G G' : List Nat} {B B' : Int} {c c' r r' : zM} (h : FT c r) (k : J (zQ L G) c B c') (k' : J (zQ L' G') r B' r') (h1 : L.contains 16 = false) (h2 : L'.contains 36 = false) : FT c' r' := by
  unfold FT
  rw [jx k 16 (ja41_4 (by omega)) h1, jx k 16 (ja41_4 (by omega)) h1, jx k' 36 (ja44_6 (by omega)) h2, jx k' 36 (ja44_6 (by omega)) h2]
  exact h
theorem Rel2.mk {L L' G : List Nat} {B Bc Br B1 : Int} {c c' r r' : zM} (h : Rel2 B c r) (hc : OM B c) (k : J (zQ L G) c Bc c') (k' : J (zQ L' [4]) r Br r') (hb : B ≤ B1) (hm : MR B1 (c' 0) (r' 4 45)) (ok : okL L L' G = true) : Rel2 B1 c' r' := by
  unfold okL at ok
  simp only [Bool.and_eq_true, Bool.not_eq_true'] at ok
  obtain ⟨⟨⟨⟨⟨⟨⟨⟨o1, o2⟩, o3⟩, o4⟩, o5⟩, o6⟩, o7⟩, o8⟩, o9⟩ := ok
  have hl : 0 ≤ c 4 41 3 ∧ c 4 41 3 ≤ 300 := r41_3 hc.2.o 4
  have e3 : r' 4 44 3 = r 4 44 3 := jx k' 34 ja44_3 o5
  refine ⟨hm, ?_, fun e => ?_, h.2.2.2.1.fe hl.2 k k' o3 o6, h.2.2.2.2.fe k k' o4 o7⟩
  · rw [e3, jx k 14 (ja40_0 (by omega)) o2]
    exact h.2.1
  · rw [jy k o1, k'.row 47 o9 o8]
    exact (h.2.2.1 (by rw [← e3]; exact e)).up hb
/-! the reference thinks, and all is as it was -/
theorem OM.aside {B : Int} {r : zM} (h : OM B r) : OM B (z_cpy r 4 46 4 45 0 0 1619) := by
  have j1 : J (zQ [38] [4]) r B (z_cpy r 4 46 4 45 0 0 1619) := (h.2.j (L := [38]) (G := [4])).cp rfl (jq_of rfl) (by decide) (fun k _ => ⟨fun _ h => h, fun _ h => h⟩) (fun i hi h => h (by rw [ja46 (by omega)]; simp)) (fun h => h (by simp))
  exact ⟨mok_aside h.1, j1.jb⟩
theorem f208_46 {m : zM} {B : Int} (h : OM B m) (hB : B + 11 ≤ 1000000000) : OM (B + 11) (f208_1 m) ∧ f208_1 m 4 46 = m 4 46 := by
  obtain ⟨k1, k2⟩ := q208_1 h.1 h.2 hB
  exact ⟨⟨k1, k2.jb⟩, k2.row 46 rfl rfl 4⟩
theorem r302_46 {k : zM → Int × zM} {a b : Int} : ∀ (n : Nat) (y : Int) (m : zM) (B : Int), OM B m → y ≤ a → a - y < n → B + 11 * (a - y) ≤ 1000000000 → ∃ m', fl302_41_1 k a b n y m = k m' ∧ m' 4 46 = m 4 46
  | 0, y, m, B, h, h1, h2, hB => by omega
  | n + 1, y, m, B, h, h1, h2, hB => by
    show ∃ m', fl302_41_1_b (fl302_41_1 k a b n) k a b y m = k m' ∧ _
    unfold fl302_41_1_b
    by_cases h0 : a ≤ y
    · rw [if_pos h0]
      exact ⟨m, rfl, rfl⟩
    · rw [if_neg h0, zs_a]
      obtain ⟨g1, g2⟩ := f208_46 h (by omega)
      obtain ⟨m', e, e2⟩ := r302_46 (k := k) (a := a) (b := b) n (y + 1) (f208_1 m) (B + 11) g1 (by omega) (by omega) (by omega)
      exact ⟨m', e, e2.trans g2⟩
theorem would_w {r : zM} {B a b : Int} (h : OM B r) (hB : B + 9911 ≤ 1000000000) : ∀ i, 0 ≤ i → i ≤ 1618 → (f302_1 a b r).2 4 45 i = r 4 45 i := by
  intro i i0 i1
  unfold f302_1
  by_cases h1 : a < 1
  · rw [if_pos h1]
  rw [if_neg h1]
  by_cases h2 : a ≤ 900
  case neg => rw [if_neg h2]
  rw [if_pos h2]
  by_cases h3 : b < 0
  · rw [if_pos h3]
  rw [if_neg h3]
  by_cases h4 : b ≤ 6
  case neg => rw [if_neg h4]
  rw [if_pos h4, zs_a]
  obtain ⟨m', e, e2⟩ := r302_46 (k := fun m518 => zn (f303_1 b m518) fun v524 => zs (z_cpy m518 4 45 4 46 0 0 1619) fun m525 => (v524, m525)) (a := a) (b := b) (zfu 901) 0 _ B h.aside (by omega) (by rw [zfu_eq]; omega) (by omega)
  rw [e]
  simp only [zn_a, zs_a]
  rw [cpy_in _ (by omega), e2, cpy_in _ (by omega), show i - 0 + 0 - 0 + 0 = i by omega]
theorem r309_46 {k : Int → zM → Int × zM} : ∀ (n : Nat) (y : Int) (m : zM) (B : Int), OM B m → y ≤ 3600 → 3600 - y < n → B + 11 * (3600 - y) ≤ 1000000000 → ∃ y' m', fl309_13_1 k n y m = k y' m' ∧ m' 4 46 = m 4 46
  | 0, y, m, B, h, h1, h2, hB => by omega
  | n + 1, y, m, B, h, h1, h2, hB => by
    show ∃ y' m', fl309_13_1_b (fl309_13_1 k n) k y m = k y' m' ∧ _
    unfold fl309_13_1_b
    by_cases h0 : 3600 ≤ y
    · rw [if_pos h0]
      exact ⟨y, m, rfl, rfl⟩
    rw [if_neg h0]
    by_cases h3 : m 4 45 12 = 0
    case neg =>
      rw [if_neg h3]
      exact ⟨y, m, rfl, rfl⟩
    rw [if_pos h3, zs_a]
    obtain ⟨g1, g2⟩ := f208_46 h (by omega)
    obtain ⟨y', m', e, e2⟩ := r309_46 (k := k) n (y + 1) (f208_1 m) (B + 11) g1 (by omega) (by omega) (by omega)
    exact ⟨y', m', e, e2.trans g2⟩
theorem lasts_w {r : zM} {B : Int} (h : OM B r) (hB : B + 39611 ≤ 1000000000) : ∀ i, 0 ≤ i → i ≤ 1618 → (f309_1 r).2 4 45 i = r 4 45 i := by
  intro i i0 i1
  unfold f309_1
  rw [zs_a]
  obtain ⟨y', m', e, e2⟩ := r309_46 (k := fun y504 m505 => zn (if (m505 4 45 12) = 1 then (1) else (0)) fun v512 => zs (z_cpy m505 4 45 4 46 0 0 1619) fun m517 => zn (if v512 = 0 then ((-1)) else (y504)) fun v521 => (v521, m517)) (zfu 3601) 0 _ B h.aside (by omega) (by rw [zfu_eq]; omega) (by omega)
  rw [e]
  simp only [zn_a, zs_a]
  rw [cpy_in _ (by omega), e2, cpy_in _ (by omega), show i - 0 + 0 - 0 + 0 = i by omega]
def sq5 (r1 : zM) (x : Int × zM) : Prop := ∀ i, 1614 ≤ i → i ≤ 1618 → x.2 4 45 i = r1 4 45 i
theorem sq5.ite {r1 : zM} (p : Prop) [Decidable p] (x y : Int × zM) (hx : p → sq5 r1 x) (hy : ¬ p → sq5 r1 y) : sq5 r1 (if p then x else y) := by
  by_cases h : p
  · rw [if_pos h]
    exact hx h
  · rw [if_neg h]
    exact hy h
/-- set leaves the seal but for what was refused -/
theorem set_S {c r : zM} {B a b : Int} (ha : I32 a) (hb : I32 b) (hc : OM B c) (hr : OM B r) (hB : B + 2 ≤ 1000000000) (hs : SE B (c 0) (r 4 45)) (h : CR (c 0) (r 4 45)) : SE (B + 1) ((f73_1 a b c).2 0) ((f280_1 a b r).2 4 45) := by
  obtain ⟨v, c1, r1, e1, e2, hv, oc, ro, se, cr, fc, fr⟩ := shut_R hc hr (by omega) hs h
  have up : ∀ j y, j < 1614 → ∀ i, 1614 ≤ i → z_upd r1 4 45 j y 4 45 i = r1 4 45 i := fun j y hj i hi => by rw [zu_row, fu_i _ _ (by omega)]
  obtain ⟨k1, k2⟩ := q232_1 64 ro.1 ro.2 (by omega) (by omega)
  have u2 : ∀ y, 1 ≤ y → y ≤ 3600 → ∀ i, 1614 ≤ i → i ≤ 1618 → f233_1 (z_upd (f232_1 64 r1) 4 45 8 y) 4 45 i = r1 4 45 i := fun y y0 y1 i i0 i1 => by
    have p1 : OM (B + 1) (f232_1 64 r1) := ⟨k1, k2.jb⟩
    have p2 := u45_8 (g := 4) (x := y) p1 ⟨y0, y1⟩
    obtain ⟨j3, j4⟩ := q233_1 p2.1 p2.2 (by omega)
    rw [jx j4 24 (ja45_1614 ⟨i0, i1⟩) rfl, zu_row, fu_i _ _ (by omega), jx k2 24 (ja45_1614 ⟨i0, i1⟩) rfl]
  refine se.of (fun i i0 i1 => ?_) (fun i i0 i1 => ?_)
  · unfold f73_1
    rw [e1]
    simp only [zb_a]
    by_cases h0 : v = 0
    · rw [if_pos h0]
      obtain ⟨-, g2, -⟩ := q74_1 0 a b oc.1 oc.2 (by omega) (by omega) ha hb
      exact jx g2 4 (ja39_0 ⟨i0, i1⟩) rfl
    · rw [if_neg h0]
  · refine (?_ : sq5 r1 (f280_1 a b r)) i i0 i1
    unfold f280_1
    rw [e2]
    simp only [zb_a, zs_a]
    repeat' (refine sq5.ite _ _ _ (fun _ => ?_) (fun _ => ?_))
    all_goals first
      | exact fun _ _ _ => rfl
      | exact fun i i0 _ => up _ _ (by omega) i i0
      | exact fun i i0 i1 => u2 b (by omega) (by omega) i i0 i1
