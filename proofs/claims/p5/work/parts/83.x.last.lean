/-! A stretch, but for how long it is. -/
noncomputable def cS (g : Nat) (n tar seen : Int) (c : zM) : zM := zs (f49_1 g n tar c) fun m512 => zn (w32 ((m512 g 8 13) + n)) fun z517 => zs (z_upd m512 g 8 13 z517) fun m518 => zs (z_upd m518 g 8 9 ((m518 g 8 9) + (n - 1))) fun m521 => zs (f53_1 g m521) fun m523 => zs (f56_1 g g n seen (m523 g 10 3) (m523 g 8 9) m523) fun m528 => zs (f58_1 g n (m528 g 33 3) m528) fun m532 => zs (if 2000000000 ≤ (m532 g 8 9) then (m532) else (zs (z_upd m532 g 8 9 ((m532 g 8 9) + 1)) fun m537 => m537)) fun m540 => zs (f59_1 g tar m540) fun m544 => m544
theorem f26_k (g : Nat) (a : Int) (c : zM) : f26_1 g a c = (f35_1 g a (f27_1 g (c g 8 9) c) (f34_1 g (c g 10 2) c) c, cS g (f35_1 g a (f27_1 g (c g 8 9) c) (f34_1 g (c g 10 2) c) c) (f27_1 g (c g 8 9) c) (f34_1 g (c g 10 2) c) c) := rfl
/-- what moves is alike on both sides -/
def MV (c : Nat → Int → Int) (w : Int → Int) : Prop := w 0 = c 8 9 ∧ w 13 = c 8 13 ∧ w 14 = c 8 14 ∧ w 15 = c 8 15 ∧ w 10 = c 8 10 ∧ w 11 = c 8 11 ∧ w 12 = c 8 12 ∧ (∀ q t, 0 ≤ q → q < 7 → 0 ≤ t → t < 4 → w (60 + 5 * q + t) = c 24 (q * 4 + t)) ∧ (∀ q, 0 ≤ q → q < 7 → w (60 + 5 * q + 4) = w (60 + 5 * q + 0) + w (60 + 5 * q + 1) + w (60 + 5 * q + 2) + w (60 + 5 * q + 3)) ∧
  MK c w ∧ LG c w ∧ DM c w ∧ LD c w ∧ OD c w
theorem MV.qj {c : Nat → Int → Int} {w : Int → Int} (h : MV c w) (D so : Int → Int) (K tar : Int) : QJ D K 0 tar so c w := by
  obtain ⟨a0, a13, a14, a15, a10, a11, a12, ar, at4, ⟨k1, k2, k3, k4, k5⟩, al, ad, ⟨l1, l2, l3, l4, b3, b4, b5, b6, b7, b8, -⟩, ao⟩ := h
  refine ⟨by omega, by omega, a15, a11, a12, ⟨fun q t q0 q1 t0 t1 => ?_, at4, ?_, ?_, ?_, ?_, ?_⟩, ⟨⟨k1, k2, k3⟩, fun m m0 m1 => ?_, fun m m0 m1 => ?_⟩, al, ad, ⟨l1, l2, l3, l4⟩, by omega, b7.symm, by rw [if_pos rfl]; exact b8.symm, ao⟩
  · rw [ar q t q0 q1 t0 t1, Int.zero_mul]
    split <;> omega
  · rw [Int.zero_mul, Int.add_zero, Int.sub_self, Int.zero_mul]
    omega
  · rw [Int.zero_mul]
    omega
  · rw [Int.zero_mul]
    omega
  · rw [Int.zero_mul]
    omega
  · rw [Int.zero_mul]
    omega
  · rw [if_neg (by omega), k4 m m0 m1]
    split <;> omega
  · have x := k5 m m0 m1
    repeat' split
    all_goals omega
theorem last_blk {t b : Int} (hb : b = 60 ∨ b = 300 ∨ b = 900 ∨ b = 1800 ∨ b = 3600) (ht : t = 2000000000) : t % b ≠ 0 := by
  subst ht
  rcases hb with rfl | rfl | rfl | rfl | rfl <;> decide
theorem sub32 : ∀ a b : Fin 32, (∀ m : Fin 5, a.val / 2 ^ m.val % 2 = 1 → b.val / 2 ^ m.val % 2 = 1) → a.val ||| b.val = b.val := by decide +kernel
/-- marks that stay on make no difference -/
theorem on_sub {x : Int} {w w' : Int → Int} (h : b01 w) (h' : b01 w') (hs : ∀ m, 0 ≤ m → m < 5 → w (40 + m) = 1 → w' (40 + m) = 1) : zorN (zorN x (onV w)) (onV w') = zorN x (onV w') := by
  obtain ⟨a0, a1⟩ := onV_r h
  obtain ⟨b0, b1⟩ := onV_r h'
  have t := sub32 ⟨(onV w).toNat, by omega⟩ ⟨(onV w').toNat, by omega⟩ (fun m => by
    have e1 := bitN h (m := (m.val : Int)) (by omega) (by omega)
    have e2 := bitN h' (m := (m.val : Int)) (by omega) (by omega)
    rw [Int.toNat_natCast] at e1 e2
    dsimp only
    rw [e1, e2]
    intro h9
    have h8 := hs (m.val : Int) (by omega) (by omega) (by have := h (m.val : Int) (by omega) (by omega); omega)
    omega)
  dsimp only at t
  unfold zorN
  rw [Int.toNat_natCast, Nat.or_assoc, t]
