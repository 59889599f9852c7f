/-! What calls that only look answer. -/
theorem w64_add (x y : Int) : w64 (w64 x + y) = w64 (x + y) := by
  refine (w64_iff (w64_r (x + y))).mpr ?_
  have h1 := (w64_iff (x := x) (w64_r x)).mp rfl
  have h2 := (w64_iff (x := x + y) (w64_r (x + y))).mp rfl
  omega
theorem w64_4 (x0 x1 x2 x3 : Int) : w64 (w64 (w64 (w64 (0 + x0) + x1) + x2) + x3) = w64 (x0 + x1 + x2 + x3) := by
  rw [w64_add (0 + x0) x1, w64_add (0 + x0 + x1) x2, w64_add (0 + x0 + x1 + x2) x3, Int.zero_add]
theorem lines_r (r : zM) : f235_1 r = min (r 4 45 17) 64 := by
  unfold f235_1
  rw [zn_a]
  split <;> omega
theorem raw_T {c : zM} {B a b : Int} (hB : B ≤ 700000000) (h : Rel3 B c c) (ha : 0 ≤ a ∧ a ≤ 6) (hb : -1 ≤ b ∧ b ≤ 3) : f71_1 0 a b c = c 4 45 (60 + f291_1 a b c) := by
  have hg := h.2.1.1
  by_cases b0 : b = -1
  · subst b0
    rw [(total_T (q := a) hg (by omega) (by omega)).1]
    unfold f291_1
    rw [zn_a, if_pos (show (-1 : Int) = -1 from rfl), show 60 + 5 * a + 4 = 60 + (5 * a + 4) by omega]
  · have e := hg.1.r.1 a b (by omega) (by omega) (by omega) (by omega)
    unfold f71_1 f72_1 f291_1
    rw [zn_a, zn_a, if_neg b0, if_neg b0, ← e, show 60 + 5 * a + b = 60 + (5 * a + b) by omega]
theorem an_raw {c : zM} {B a b : Int} (_hc : OM B c) (hB : B ≤ 700000000) (h : Rel3 B c c) : f144_1 a b c = f295_1 a b c := by
  unfold f144_1 f295_1
  by_cases a0 : a < 0
  · rw [if_pos a0, if_pos a0]
  rw [if_neg a0, if_neg a0]
  by_cases a1 : a ≤ 6
  case neg => rw [if_pos (show 7 ≤ a by omega), if_neg a1]
  rw [if_neg (show ¬ 7 ≤ a by omega), if_pos a1]
  by_cases b0 : b = -1
  · rw [if_pos b0, if_pos b0, zn_a, zn_a]
    exact raw_T hB h (by omega) (by omega)
  rw [if_neg b0, if_neg b0]
  by_cases b1 : b < 0
  · rw [if_pos b1, if_pos b1]
  rw [if_neg b1, if_neg b1]
  by_cases b2 : b ≤ 3
  case neg => rw [if_pos (show 4 ≤ b by omega), if_neg b2]
  rw [if_neg (show ¬ 4 ≤ b by omega), if_pos b2, zn_a, zn_a]
  exact raw_T hB h (by omega) (by omega)
theorem an_reading {c : zM} {B a b : Int} (hc : OM B c) (hB : B ≤ 700000000) (h : Rel3 B c c) : f147_1 a b c = f296_1 a b c := by
  have hu : max 1 (c 0 10 1) = c 4 45 5 := by
    have h1 := h.2.1.1.2.1.2.2.2.1.2.1
    have h2 := r45_5 hc.2.o 4
    omega
  unfold f147_1 f296_1
  by_cases a0 : a < 0
  · rw [if_pos a0, if_pos a0]
  rw [if_neg a0, if_neg a0]
  by_cases a1 : a ≤ 6
  case neg => rw [if_pos (show 7 ≤ a by omega), if_neg a1]
  rw [if_neg (show ¬ 7 ≤ a by omega), if_pos a1]
  by_cases b0 : b = -1
  · rw [if_pos b0, if_pos b0]
    simp only [zn_a]
    rw [hu, raw_T (a := a) (b := b) hB h (by omega) (by omega)]
  rw [if_neg b0, if_neg b0]
  by_cases b1 : b < 0
  · rw [if_pos b1, if_pos b1]
  rw [if_neg b1, if_neg b1]
  by_cases b2 : b ≤ 3
  case neg => rw [if_pos (show 4 ≤ b by omega), if_neg b2]
  rw [if_neg (show ¬ 4 ≤ b by omega), if_pos b2]
  simp only [zn_a]
  rw [hu, raw_T (a := a) (b := b) hB h (by omega) (by omega)]
theorem an_marked {c : zM} {B a b : Int} (_hc : OM B c) (hB : B ≤ 700000000) (h : Rel3 B c c) : f154_1 a b c = f297_1 a b c := by
  have hg := h.2.1.1
  obtain ⟨m1, m2, m3, m4, m5⟩ := hg.1.k
  obtain ⟨cA, -, -, -, -, c6, -⟩ := hg.2.2.2.1
  unfold f154_1 f297_1
  by_cases a0 : a < 0
  · rw [if_pos a0, if_pos a0]
  rw [if_neg a0, if_neg a0]
  by_cases a1 : a ≤ 4
  case neg => rw [if_neg (show ¬ a < 5 by omega), if_neg a1]
  rw [if_pos (show a < 5 by omega), if_pos a1]
  have x1 := m1 a (by omega) (by omega)
  obtain ⟨x6, x7, x8⟩ := c6 a (by omega) (by omega)
  have y3 := m3 a (by omega) (by omega)
  have y4 := m4 a (by omega) (by omega)
  have y5 := m5 a (by omega) (by omega)
  simp only [zn_a]
  rw [w32_id (x := c 4 45 (40 + a)) (by omega), w32_id (x := c 4 45 (45 + a)) (by omega), w32_id (x := c 4 45 (50 + a)) (by omega), w32_id (x := c 4 45 (55 + a)) (by omega), isOn_c (y := a) m1 m2 (by omega) (by omega), y3, y4, y5]
  by_cases b0 : b = 0
  · rw [if_pos b0, if_pos b0]
    split <;> omega
  · rw [if_neg b0, if_neg b0]
theorem an_load {c : zM} {B a b : Int} (_hc : OM B c) (hB : B ≤ 700000000) (h : Rel3 B c c) : f155_1 a b c = f298_1 a b c := by
  obtain ⟨l1, l2, ⟨l3, -⟩, -, -⟩ := h.2.1.1.1.ld
  unfold f155_1 f298_1
  simp only [zn_a, lines_r]
  rw [l1]
  by_cases a0 : a = -1
  · rw [if_pos a0, if_pos a0]
  rw [if_neg a0, if_neg a0]
  by_cases a1 : a < 0
  · rw [if_pos a1, if_pos a1]
  rw [if_neg a1, if_neg a1]
  by_cases a2 : min (c 4 45 17) 64 ≤ a
  · rw [if_pos a2, if_neg (show ¬ a ≤ min (c 4 45 17) 64 - 1 by omega)]
  rw [if_neg a2, if_pos (show a ≤ min (c 4 45 17) 64 - 1 by omega)]
  by_cases a3 : b < 0
  · rw [if_pos a3, if_pos a3]
  rw [if_neg a3, if_neg a3]
  by_cases a4 : b ≤ 5
  case neg => rw [if_neg (show ¬ b < 6 by omega), if_neg a4]
  rw [if_pos (show b < 6 by omega), if_pos a4]
  unfold f234_1
  exact l3 a (by omega) (by omega) b (by omega) (by omega)
theorem an_block {c : zM} {B a : Int} (_hc : OM B c) (hB : B ≤ 700000000) (h : Rel3 B c c) : f156_1 a c = f299_1 a c := by
  have hg := h.2.1.1
  obtain ⟨-, -, -, -, ⟨b3, b4, b5, b6, b7, b8, -, -, b26, -, b27⟩⟩ := hg.1.ld
  have ho : c 4 45 21 = if c 0 27 9 % c 4 45 8 = 0 then 0 else 1 := hg.1.od
  obtain ⟨-, -, -, -, s4, -, -, -, -, -, s8⟩ := hg.2.1.2.2.2.1
  have e5 : f61_1 0 (max 1 (c 0 10 4)) c = zorL (zorL (c 4 45 27) (if c 4 45 26 ≤ 0 then 0 else 32)) (if c 4 45 21 = 1 then 128 else 0) := by
    unfold f61_1
    simp only [zn_a]
    rw [show max 1 (c 0 10 4) = c 4 45 8 by omega, b7, b8, ho]
    have z0 : ∀ x, 0 ≤ x ∧ x < 256 → zorL x 0 = x := fun x hx => by rw [zorL_eq (by omega) (by omega), zorN_0 hx.1]
    have n32 := zorN_b (x := c 4 45 27) (y := 32) (by omega) (by omega)
    have t32 : zor (c 4 45 27) 32 = zorN (c 4 45 27) 32 := zor_eq (by omega) (by omega)
    have l32 : zorL (c 4 45 27) 32 = zorN (c 4 45 27) 32 := zorL_eq (by omega) (by omega)
    have l128 : ∀ x, 0 ≤ x ∧ x < 256 → zor x 128 = zorL x 128 := fun x hx => by rw [zorL_eq (by omega) (by omega), zor_eq (by omega) (by omega)]
    by_cases p : c 4 45 26 ≤ 0
    · rw [if_pos p, if_pos p, z0 (c 4 45 27) (by omega)]
      by_cases q : c 0 27 9 % c 4 45 8 = 0
      · rw [if_pos q, if_pos q, if_neg (show ¬ (0 : Int) = 1 by decide), z0 (c 4 45 27) (by omega)]
      · rw [if_neg q, if_neg q, if_pos (show (1 : Int) = 1 from rfl), l128 (c 4 45 27) (by omega)]
    · rw [if_neg p, if_neg p, t32, l32]
      by_cases q : c 0 27 9 % c 4 45 8 = 0
      · rw [if_pos q, if_pos q, if_neg (show ¬ (0 : Int) = 1 by decide), z0 _ n32]
      · rw [if_neg q, if_neg q, if_pos (show (1 : Int) = 1 from rfl), l128 _ n32]
  unfold f156_1 f299_1
  simp only [zn_a]
  rw [b3, b4, b5, b6, b7, e5]
theorem an_demand {c : zM} {B a : Int} (_hc : OM B c) (hB : B ≤ 700000000) (h : Rel3 B c c) : f157_1 a c = f300_1 a c := by
  obtain ⟨d1, d2, -, -⟩ := h.2.1.1.1.d
  unfold f157_1 f300_1
  simp only [zn_a]
  rw [d1, d2]
theorem an_greatest {c : zM} {B a b : Int} (_hc : OM B c) (hB : B ≤ 700000000) (h : Rel3 B c c) : f158_1 a b c = f301_1 a b c := by
  obtain ⟨-, -, d3, d4⟩ := h.2.1.1.1.d
  unfold f158_1 f301_1
  simp only [zn_a]
  by_cases a0 : a < 0
  · rw [if_pos a0, if_pos a0]
  rw [if_neg a0, if_neg a0]
  by_cases a1 : a ≤ 3
  case neg => rw [if_pos (show 4 ≤ a by omega), if_neg a1]
  rw [if_neg (show ¬ 4 ≤ a by omega), if_pos a1, d3 a (by omega) (by omega), d4 a (by omega) (by omega)]
theorem an_lost {c : zM} {B a : Int} (_hc : OM B c) (hB : B ≤ 700000000) (h : Rel3 B c c) : f186_1 a c = f310_1 a c := by
  obtain ⟨-, -, -, l4, -⟩ := h.2.1.1.1.ld
  unfold f186_1 f310_1
  simp only [zn_a]
  by_cases a0 : a < 0
  · rw [if_pos a0, if_pos a0]
  rw [if_neg a0, if_neg a0]
  by_cases a1 : a ≤ 3
  case neg => rw [if_pos (show 4 ≤ a by omega), if_neg a1]
  rw [if_neg (show ¬ 4 ≤ a by omega), if_pos a1, l4 a (by omega) (by omega)]
theorem z_val38 : z_val lL 0 38 := by unfold z_val; decide +kernel
theorem an_log {c : zM} {B a b : Int} (hc : OM B c) (hB : B ≤ 700000000) (h : Rel3 B c c) : f190_1 a b c = f313_1 a b c := by
  obtain ⟨l1, l2, l3⟩ := h.2.1.1.1.l
  unfold f190_1 f313_1
  simp only [zn_a]
  rw [l1, show (if c 4 45 16 < 40 then c 4 45 16 else 40) = min (c 4 45 16) 40 by split <;> omega]
  by_cases a1 : a < 0
  · rw [if_pos a1, if_pos a1]
  rw [if_neg a1, if_neg a1]
  by_cases a2 : min (c 4 45 16) 40 ≤ a
  · rw [if_pos a2, if_neg (show ¬ a ≤ min (c 4 45 16) 40 - 1 by omega)]
  rw [if_neg a2, if_pos (show a ≤ min (c 4 45 16) 40 - 1 by omega)]
  by_cases a3 : b < 0
  · rw [if_pos a3, if_pos a3]
  rw [if_neg a3, if_neg a3]
  by_cases a4 : b ≤ 2
  case neg => rw [if_neg (show ¬ b < 3 by omega), if_neg a4]
  have e := l3 a (by omega) (by omega) b (by omega) (by omega)
  have r38 : -2147483648 ≤ c 0 38 ((c 4 45 16 - 1 - a) % 40 * 3 + b) ∧ c 0 38 ((c 4 45 16 - 1 - a) % 40 * 3 + b) ≤ 2147483647 := z_rgi (N := 120) (t := 0) hc.1 z_val38 rfl (by omega) (by omega)
  rw [if_pos (show b < 3 by omega), if_pos a4, e]
  rw [e] at r38
  exact (w32_id r38).symm
/-! Sums over the lines, from the latest on and from the oldest on. -/
theorem sumN_head {f : Nat → Int} : ∀ n : Nat, sumN f (n + 1) = f 0 + sumN (fun k => f (k + 1)) n
  | 0 => by
    show 0 + f 0 = f 0 + 0
    omega
  | n + 1 => by
    have e := sumN_head (f := f) n
    show sumN f (n + 1) + f (n + 1) = f 0 + (sumN (fun k => f (k + 1)) n + f (n + 1))
    omega
theorem sumN_rev {f : Nat → Int} : ∀ n : Nat, sumN (fun k => f (n - 1 - k)) n = sumN f n
  | 0 => rfl
  | n + 1 => by
    have e : sumN (fun k => f (n + 1 - 1 - k)) (n + 1) = f (n + 1 - 1 - 0) + sumN (fun k => f (n + 1 - 1 - (k + 1))) n := sumN_head n
    have e2 : sumN (fun k => f (n + 1 - 1 - (k + 1))) n = sumN (fun k => f (n - 1 - k)) n := sumN_congr n (fun k _ => by rw [show n + 1 - 1 - (k + 1) = n - 1 - k by omega])
    have e3 := sumN_rev (f := f) n
    have e4 : f (n + 1 - 1 - 0) = f n := by rw [show n + 1 - 1 - 0 = n by omega]
    show _ = sumN f n + f n
    omega
theorem sumN_step {f : Int → Int} {y L : Int} (h : y < L) : sumN (fun k => f (y + (k : Int))) (L - y).toNat = f y + sumN (fun k => f (y + 1 + (k : Int))) (L - (y + 1)).toNat := by
  rw [show (L - y).toNat = (L - (y + 1)).toNat + 1 by omega]
  refine (sumN_head _).trans ?_
  have a2 : sumN (fun k => f (y + ((k + 1 : Nat) : Int))) (L - (y + 1)).toNat = sumN (fun k => f (y + 1 + (k : Int))) (L - (y + 1)).toNat := sumN_congr _ (fun k _ => by rw [show y + ((k + 1 : Nat) : Int) = y + 1 + (k : Int) by omega])
  show f (y + ((0 : Nat) : Int)) + sumN (fun k => f (y + ((k + 1 : Nat) : Int))) (L - (y + 1)).toNat = _
  rw [show y + ((0 : Nat) : Int) = y by omega, a2]
/-- what a line adds to what lies between -/
def btw (w : Int → Int) (a b j : Int) : Int := if w (788 + 6 * j + 0) ≤ a then 0 else if w (788 + 6 * j + 0) ≤ b then w (788 + 6 * j + 1) else 0
theorem btw_c {c : zM} {a b L : Int} (hL : ∀ i, 0 ≤ i → i < L → c 0 28 ((c 0 27 2 - 1 - i) % 64 * 6 + 0) = c 4 45 (788 + 6 * (L - 1 - i) + 0) ∧ c 0 28 ((c 0 27 2 - 1 - i) % 64 * 6 + 1) = c 4 45 (788 + 6 * (L - 1 - i) + 1)) :
    ∀ (n : Nat) (v y : Int), 0 ≤ y → y ≤ L → L - y < n → (-9223372036854775808 ≤ v ∧ v ≤ 9223372036854775807) → fl189_17_1 (fun y => y) a b L c n v y = w64 (v + sumN (fun k => btw (c 4 45) a b (L - 1 - (y + (k : Int)))) (L - y).toNat)
  | 0, v, y, h0, h1, h2, hv => by omega
  | n + 1, v, y, h0, h1, h2, hv => by
    show fl189_17_1_b (fl189_17_1 (fun y => y) a b L c n) (fun y => y) a b L c v y = _
    unfold fl189_17_1_b
    by_cases h : L ≤ y
    · rw [if_pos h, show (L - y).toNat = 0 by omega]
      show v = w64 (v + 0)
      rw [Int.add_zero, w64_id hv]
    · obtain ⟨e0, e1⟩ := hL y h0 (by omega)
      have es : sumN (fun k => btw (c 4 45) a b (L - 1 - (y + (k : Int)))) (L - y).toNat = btw (c 4 45) a b (L - 1 - y) + sumN (fun k => btw (c 4 45) a b (L - 1 - (y + 1 + (k : Int)))) (L - (y + 1)).toNat := sumN_step (f := fun i => btw (c 4 45) a b (L - 1 - i)) (by omega)
      have ev : (if c 4 45 (788 + 6 * (L - 1 - y) + 0) ≤ a then v else if c 4 45 (788 + 6 * (L - 1 - y) + 0) ≤ b then w64 (v + c 4 45 (788 + 6 * (L - 1 - y) + 1)) else v) = w64 (v + btw (c 4 45) a b (L - 1 - y)) := by
        unfold btw
        by_cases p : c 4 45 (788 + 6 * (L - 1 - y) + 0) ≤ a
        · rw [if_pos p, if_pos p, Int.add_zero, w64_id hv]
        · rw [if_neg p, if_neg p]
          by_cases q : c 4 45 (788 + 6 * (L - 1 - y) + 0) ≤ b
          · rw [if_pos q, if_pos q]
          · rw [if_neg q, if_neg q, Int.add_zero, w64_id hv]
      rw [if_neg h, es]
      simp only [zn_a]
      rw [e0, e1, ev, btw_c hL n _ (y + 1) (by omega) (by omega) (by omega) (w64_r _), w64_add, Int.add_assoc]
theorem btw_r {c : zM} {a b L : Int} (hL : min (c 4 45 17) 64 = L) : ∀ (n : Nat) (v y : Int), 0 ≤ y → y ≤ L → L - y < n → (-9223372036854775808 ≤ v ∧ v ≤ 9223372036854775807) → fl312_5_1 (fun y => y) a b c n v y = w64 (v + sumN (fun k => btw (c 4 45) a b (y + (k : Int))) (L - y).toNat)
  | 0, v, y, h0, h1, h2, hv => by omega
  | n + 1, v, y, h0, h1, h2, hv => by
    show fl312_5_1_b (fl312_5_1 (fun y => y) a b c n) (fun y => y) a b c v y = _
    unfold fl312_5_1_b
    rw [zn_a, lines_r, hL]
    by_cases h : L ≤ y
    · rw [if_pos h, show (L - y).toNat = 0 by omega]
      show v = w64 (v + 0)
      rw [Int.add_zero, w64_id hv]
    · have es := sumN_step (f := btw (c 4 45) a b) (y := y) (L := L) (by omega)
      rw [if_neg h, es]
      unfold f234_1
      simp only [zn_a]
      have ev : (if c 4 45 (788 + 6 * y + 0) ≤ a then 0 else if c 4 45 (788 + 6 * y + 0) ≤ b then c 4 45 (788 + 6 * y + 1) else 0) = btw (c 4 45) a b y := rfl
      rw [ev, btw_r hL n _ (y + 1) (by omega) (by omega) (by omega) (w64_r _), w64_add, Int.add_assoc]
theorem an_between {c : zM} {B a b : Int} (_hc : OM B c) (hB : B ≤ 700000000) (h : Rel3 B c c) : f189_1 a b c = f312_1 a b c := by
  obtain ⟨l1, l2, ⟨l3, -⟩, -, -⟩ := h.2.1.1.1.ld
  unfold f189_1 f312_1
  have hL : ∀ i, 0 ≤ i → i < min (c 4 45 17) 64 → c 0 28 ((c 0 27 2 - 1 - i) % 64 * 6 + 0) = c 4 45 (788 + 6 * (min (c 4 45 17) 64 - 1 - i) + 0) ∧ c 0 28 ((c 0 27 2 - 1 - i) % 64 * 6 + 1) = c 4 45 (788 + 6 * (min (c 4 45 17) 64 - 1 - i) + 1) := fun i i0 i1 => by
    rw [l1]
    exact ⟨l3 i i0 i1 0 (by omega) (by omega), l3 i i0 i1 1 (by omega) (by omega)⟩
  rw [show min (c 0 27 2) 64 = min (c 4 45 17) 64 by rw [l1], btw_c hL (zfu 65) 0 0 (by omega) (by omega) (by rw [zfu_eq]; omega) (by omega), btw_r rfl (zfu 65) 0 0 (by omega) (by omega) (by rw [zfu_eq]; omega) (by omega)]
  have er := sumN_rev (f := fun k => btw (c 4 45) a b (0 + (k : Int))) (min (c 4 45 17) 64 - 0).toNat
  rw [← er]
  have ec : sumN (fun k => btw (c 4 45) a b (min (c 4 45 17) 64 - 1 - (0 + (k : Int)))) (min (c 4 45 17) 64 - 0).toNat = sumN (fun k => btw (c 4 45) a b (0 + (((min (c 4 45 17) 64 - 0).toNat - 1 - k : Nat) : Int))) (min (c 4 45 17) 64 - 0).toNat :=
    sumN_congr _ (fun k hk => by rw [show min (c 4 45 17) 64 - 1 - (0 + (k : Int)) = 0 + (((min (c 4 45 17) 64 - 0).toNat - 1 - k : Nat) : Int) by omega])
  rw [ec]
/-! Bills. -/
theorem at_r {c : zM} {a : Int} (ha : 0 ≤ a) (h1 : a < min (c 4 45 18) 6) : f289_1 a c = 1172 + 45 * (min (c 4 45 18) 7 - 1 - a) := by
  unfold f289_1
  rw [zn_a, if_neg (show ¬ a < 0 by omega), if_pos (show a ≤ (if c 4 45 18 < 6 then c 4 45 18 else 6) - 1 by split <;> omega)]
  split <;> omega
theorem at_n {c : zM} {a : Int} (h1 : a < 0 ∨ min (c 4 45 18) 6 ≤ a) : f289_1 a c = -1 := by
  unfold f289_1
  rw [zn_a]
  by_cases a0 : a < 0
  · rw [if_pos a0]
  · rw [if_neg a0, if_neg (show ¬ a ≤ (if c 4 45 18 < 6 then c 4 45 18 else 6) - 1 by split <;> omega)]
theorem billed_T {c : zM} {a b d : Int} (h : BI (c 0) (c 4 45)) (a0 : 0 ≤ a) (a1 : a < min (c 4 45 18) 6) (b0 : 0 ≤ b ∧ b ≤ 6) (d0 : -1 ≤ d ∧ d ≤ 3) :
    f161_1 0 a b d c = w64 (c 4 45 (f289_1 a c + (1 + f291_1 b d c)) - (if f289_1 a c = 1172 then 0 else c 4 45 ((f289_1 a c - 45) + (1 + f291_1 b d c)))) := by
  obtain ⟨i1, i2, -, i4, i5, i6⟩ := h
  obtain ⟨-, -, j3⟩ := i4 a a0 a1
  rw [at_r a0 a1]
  obtain ⟨e, he⟩ : ∃ e, e = min (c 4 45 18) 7 - 1 - a := ⟨_, rfl⟩
  rw [← he] at j3 ⊢
  have e0 : 0 ≤ e := by omega
  have e1 : e < min (c 4 45 18) 7 := by omega
  have bpe : ∀ x, bp (e - 1) x = 1172 + 45 * e - 45 + x := fun x => by unfold bp; omega
  have hx : ∀ t, 0 ≤ t → t < 4 → c 0 26 ((c 0 23 3 - 1 - a) % 6 * 33 + b * 4 + t) = c 4 45 (1172 + 45 * e + (1 + (5 * b + t))) - (if e = 0 then 0 else c 4 45 (1172 + 45 * e - 45 + (1 + (5 * b + t)))) := fun t t0 t1 => by
    rw [show (c 0 23 3 - 1 - a) % 6 * 33 + b * 4 + t = (c 0 23 3 - 1 - a) % 6 * 33 + (b * 4 + t) by omega, i1, j3 b t (by omega) (by omega) t0 t1, bpe]
    rfl
  have hb : ∀ t, 0 ≤ t → t < 4 → (0 ≤ c 4 45 (1172 + 45 * e + (1 + (5 * b + t))) ∧ c 4 45 (1172 + 45 * e + (1 + (5 * b + t))) ≤ 100000000000000) ∧ (e ≠ 0 → 0 ≤ c 4 45 (1172 + 45 * e - 45 + (1 + (5 * b + t))) ∧ c 4 45 (1172 + 45 * e - 45 + (1 + (5 * b + t))) ≤ 100000000000000) := fun t t0 t1 => by
    refine ⟨i6 e b t e0 e1 (by omega) (by omega) t0 t1, fun ne => ?_⟩
    have := i6 (e - 1) b t (by omega) (by omega) (by omega) (by omega) t0 t1
    rw [bpe] at this
    exact this
  have h4 : c 4 45 (1172 + 45 * e + (1 + (5 * b + 4))) = c 4 45 (1172 + 45 * e + (1 + (5 * b + 0))) + c 4 45 (1172 + 45 * e + (1 + (5 * b + 1))) + c 4 45 (1172 + 45 * e + (1 + (5 * b + 2))) + c 4 45 (1172 + 45 * e + (1 + (5 * b + 3))) := i5 e b e0 e1 (by omega) (by omega)
  have h5 : e ≠ 0 → c 4 45 (1172 + 45 * e - 45 + (1 + (5 * b + 4))) = c 4 45 (1172 + 45 * e - 45 + (1 + (5 * b + 0))) + c 4 45 (1172 + 45 * e - 45 + (1 + (5 * b + 1))) + c 4 45 (1172 + 45 * e - 45 + (1 + (5 * b + 2))) + c 4 45 (1172 + 45 * e - 45 + (1 + (5 * b + 3))) := fun ne => by
    have := i5 (e - 1) b (by omega) (by omega) (by omega) (by omega)
    rw [bpe, bpe, bpe, bpe, bpe] at this
    exact this
  unfold f161_1 f72_2 f291_1
  simp only [zn_a]
  by_cases dn : d = -1
  · rw [if_pos dn, if_pos dn, zfu_eq]
    have es : fl72_16_2 (fun y502 => y502) 0 ((c 0 23 3 - 1 - a) % 6 * 33 + b * 4) c 5 0 0 = w64 (w64 (w64 (w64 (0 + c 0 26 ((c 0 23 3 - 1 - a) % 6 * 33 + b * 4 + 0)) + c 0 26 ((c 0 23 3 - 1 - a) % 6 * 33 + b * 4 + 1)) + c 0 26 ((c 0 23 3 - 1 - a) % 6 * 33 + b * 4 + 2)) + c 0 26 ((c 0 23 3 - 1 - a) % 6 * 33 + b * 4 + 3)) := rfl
    rw [es, w64_4, hx 0 (by omega) (by omega), hx 1 (by omega) (by omega), hx 2 (by omega) (by omega), hx 3 (by omega) (by omega), h4]
    by_cases ez : e = 0
    · simp only [if_pos ez]
      rw [if_pos (show 1172 + 45 * e = 1172 by omega)]
      exact congrArg w64 (by omega)
    · have h5' := h5 ez
      simp only [if_neg ez]
      rw [if_neg (show ¬ 1172 + 45 * e = 1172 by omega), h5']
      exact congrArg w64 (by omega)
  · rw [if_neg dn, if_neg dn, hx d (by omega) (by omega)]
    obtain ⟨b1, b2⟩ := hb d (by omega) (by omega)
    by_cases ez : e = 0
    · rw [if_pos ez, if_pos (show 1172 + 45 * e = 1172 by omega), w64_id (by omega)]
    · have b3 := b2 ez
      rw [if_neg ez, if_neg (show ¬ 1172 + 45 * e = 1172 by omega), w64_id (by omega)]
theorem an_billed {c : zM} {B a b d : Int} (_hc : OM B c) (hB : B ≤ 700000000) (h : Rel3 B c c) : f159_1 a b d c = f288_1 a b d c := by
  have hi := h.2.1.2.2.1
  have i1 := hi.1
  unfold f159_1 f288_1
  simp only [zn_a]
  by_cases a0 : a < 0
  · rw [if_pos a0, at_n (.inl a0), if_pos (show (-1 : Int) = -1 from rfl)]
  rw [if_neg a0, i1]
  by_cases a1 : min (c 4 45 18) 6 ≤ a
  · rw [if_pos a1, at_n (.inr a1), if_pos (show (-1 : Int) = -1 from rfl)]
  have ar := at_r (c := c) (a := a) (by omega) (by omega)
  rw [if_neg a1, if_neg (show ¬ f289_1 a c = -1 by omega)]
  by_cases b0 : b < 0
  · rw [if_pos b0, if_pos b0]
  rw [if_neg b0, if_neg b0]
  by_cases b1 : b ≤ 6
  case neg => rw [if_pos (show 7 ≤ b by omega), if_neg b1]
  rw [if_neg (show ¬ 7 ≤ b by omega), if_pos b1]
  by_cases d0 : d = -1
  · rw [if_pos d0, if_pos d0]
    try simp only [zn_a]
    exact billed_T hi (by omega) (by omega) (by omega) (by omega)
  rw [if_neg d0, if_neg d0]
  by_cases d1 : d < 0
  · rw [if_pos d1, if_pos d1]
  rw [if_neg d1, if_neg d1]
  by_cases d2 : d ≤ 3
  case neg => rw [if_pos (show 4 ≤ d by omega), if_neg d2]
  rw [if_neg (show ¬ 4 ≤ d by omega), if_pos d2]
  try simp only [zn_a]
  exact billed_T hi (by omega) (by omega) (by omega) (by omega)
theorem an_bills {c : zM} {B a b : Int} (_hc : OM B c) (hB : B ≤ 700000000) (h : Rel3 B c c) : f163_1 a b c = f292_1 a b c := by
  obtain ⟨i1, i2, -, i4, -, -⟩ := h.2.1.2.2.1
  unfold f163_1 f292_1
  simp only [zn_a]
  by_cases a0 : a < 0
  · rw [if_pos a0, at_n (.inl a0), if_pos (show (-1 : Int) = -1 from rfl)]
  rw [if_neg a0, i1]
  by_cases a1 : min (c 4 45 18) 6 ≤ a
  · rw [if_pos a1, at_n (.inr a1), if_pos (show (-1 : Int) = -1 from rfl)]
  have ar := at_r (c := c) (a := a) (by omega) (by omega)
  rw [if_neg a1, if_neg (show ¬ f289_1 a c = -1 by omega), ar]
  by_cases b0 : b < 0
  · rw [if_pos b0, if_pos b0]
  rw [if_neg b0, if_neg b0]
  by_cases b1 : b ≤ 4
  case neg => rw [if_neg b1, if_neg b1]
  rw [if_pos b1, if_pos b1]
  obtain ⟨j1, j2, -⟩ := i4 a (by omega) (by omega)
  by_cases b2 : b = 0
  · rw [if_pos b2, if_pos b2, j1]
    unfold bp
    rw [Int.add_zero]
  · have j3 := j2 (b - 1) (by omega) (by omega)
    unfold bp at j3
    rw [if_neg b2, if_neg b2, show (c 4 45 18 - 1 - a) % 6 * 33 + 28 + (b - 1) = (c 4 45 18 - 1 - a) % 6 * 33 + (28 + (b - 1)) by omega, j3]
    rw [show 1172 + 45 * (min (c 4 45 18) 7 - 1 - a) + (36 + (b - 1)) = 1172 + 45 * (min (c 4 45 18) 7 - 1 - a) + 35 + b by omega]
