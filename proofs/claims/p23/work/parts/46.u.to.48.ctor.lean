section
/-! A memory in order; stores into it. -/
def OM (B : Int) (m : zM) : Prop := z_mok lL m ∧ JB B m
theorem OM.up {B B' : Int} {m : zM} (h : OM B m) (hb : B ≤ B') : OM B' m := ⟨h.1, h.2.up hb⟩
theorem mok_put {L : zL} {g k fj ci : Nat} {fs : List zF} {t : Nat} {x fz : Int} {m : zM} (h : z_mok L m) (hk : L.1 k = some (.inl (ci, fs))) (hf : fs[fj]? = some (.inl t)) (hz : fz = (fj : Int)) (hok : z_ok L (z_fv (.inl t) g x)) (hb : t = 2 → x = 0 ∨ x = 1) : z_mok L (z_upd m g k fz x) := by
  subst hz
  intro g' k' hv'
  by_cases he : (g', k') = (g, k)
  · obtain ⟨rfl, rfl⟩ := Prod.mk.inj he
    have hm := h g' k' hv'
    unfold z_ck at hm ⊢
    rw [hk] at hm ⊢
    intro j' d' hd'
    by_cases hj : j' = fj
    · subst hj
      have hdd : d' = .inl t := Option.some.inj (hd'.symm.trans hf)
      subst hdd
      rw [z_upd_same]
      exact ⟨hok, fun e => hb (Sum.inl.inj e)⟩
    · rw [z_upd_i _ _ _ _ (by omega)]
      exact hm j' d' hd'
  · rw [z_upd_k _ _ _ he]
    exact h g' k' hv'
theorem mok_el {L : zL} {g k t N : Nat} {i x : Int} {m : zM} (h : z_mok L m) (hk : L.1 k = some (.inr (t, N))) (hr : z_rg t x) : z_mok L (z_upd m g k i x) := by
  refine z_mok_row h hk (fun hv i' h0 hN => ?_) (fun g' k' he => z_upd_k _ _ _ he)
  by_cases he : i' = i
  · subst he
    rw [z_upd_same]
    exact hr
  · rw [z_upd_i _ _ _ _ he]
    exact z_rgi h hv hk h0 hN
section
variable {B x i : Int} {m : zM} {g : Nat}
theorem u8_9 (h : OM B m) (hx : 0 ≤ x ∧ x ≤ 2000000000) : OM B (z_upd m g 8 9 x) := ⟨mok_put h.1 (fj := 9) rfl rfl rfl (show (-2147483648 : Int) ≤ x ∧ x ≤ (2147483647 : Int) by omega) (fun e => absurd e (by decide)), (w8_9 (S := zQ [11] [g]) h.2.j rfl (by omega) (zQ_n rfl) (zQ_g (by simp))).jb⟩
theorem u8_10 (h : OM B m) (hx : (-9223372036854775808) ≤ x ∧ x ≤ 9223372036854775807) : OM B (z_upd m g 8 10 x) := ⟨mok_put h.1 (fj := 10) rfl rfl rfl (show (-9223372036854775808 : Int) ≤ x ∧ x ≤ (9223372036854775807 : Int) by omega) (fun e => absurd e (by decide)), (w8_10 (S := zQ [12] [g]) h.2.j rfl (by omega) (zQ_n rfl) (zQ_g (by simp))).jb⟩
theorem u8_11 (h : OM B m) (hx : 0 ≤ x ∧ x ≤ 1) : OM B (z_upd m g 8 11 x) := ⟨mok_put h.1 (fj := 11) rfl rfl rfl (show (-2147483648 : Int) ≤ x ∧ x ≤ (2147483647 : Int) by omega) (fun e => (by omega)), (w8_11 (S := zQ [12] [g]) h.2.j rfl (by omega) (zQ_n rfl) (zQ_g (by simp))).jb⟩
theorem u8_12 (h : OM B m) (hx : 0 ≤ x ∧ x ≤ 1) : OM B (z_upd m g 8 12 x) := ⟨mok_put h.1 (fj := 12) rfl rfl rfl (show (-2147483648 : Int) ≤ x ∧ x ≤ (2147483647 : Int) by omega) (fun e => (by omega)), (w8_12 (S := zQ [12] [g]) h.2.j rfl (by omega) (zQ_n rfl) (zQ_g (by simp))).jb⟩
theorem u8_13 (h : OM B m) (hx : (-2147483648) ≤ x ∧ x ≤ 2147483647) : OM B (z_upd m g 8 13 x) := ⟨mok_put h.1 (fj := 13) rfl rfl rfl (show (-2147483648 : Int) ≤ x ∧ x ≤ (2147483647 : Int) by omega) (fun e => absurd e (by decide)), (w8_13 (S := zQ [13] [g]) h.2.j rfl (by omega) (by omega) (zQ_n rfl) (zQ_g (by simp))).jb⟩
theorem u8_14 (h : OM B m) (hx : (-2147483648) ≤ x ∧ x ≤ 2147483647) : OM B (z_upd m g 8 14 x) := ⟨mok_put h.1 (fj := 14) rfl rfl rfl (show (-2147483648 : Int) ≤ x ∧ x ≤ (2147483647 : Int) by omega) (fun e => absurd e (by decide)), (w8_13 (S := zQ [13] [g]) h.2.j rfl (by omega) (by omega) (zQ_n rfl) (zQ_g (by simp))).jb⟩
theorem u8_15 (h : OM B m) (hx : (-2147483648) ≤ x ∧ x ≤ 2147483647) : OM B (z_upd m g 8 15 x) := ⟨mok_put h.1 (fj := 15) rfl rfl rfl (show (-2147483648 : Int) ≤ x ∧ x ≤ (2147483647 : Int) by omega) (fun e => absurd e (by decide)), (w8_13 (S := zQ [13] [g]) h.2.j rfl (by omega) (by omega) (zQ_n rfl) (zQ_g (by simp))).jb⟩
theorem u10_0 (h : OM B m) (hi : 0 ≤ i ∧ i ≤ 4) (hx : 0 ≤ x ∧ x ≤ 1000000) : OM B (z_upd m g 10 i x) := ⟨mok_el h.1 rfl (show (-2147483648 : Int) ≤ x ∧ x ≤ (2147483647 : Int) by omega), (w10_0 (S := zQ [3] [g]) h.2.j rfl hi (by omega) (zQ_n rfl) (zQ_g (by simp))).jb⟩
theorem u10_5 (h : OM B m) (hx : 1 ≤ x ∧ x ≤ 6) : OM B (z_upd m g 10 5 x) := ⟨mok_el h.1 rfl (show (-2147483648 : Int) ≤ x ∧ x ≤ (2147483647 : Int) by omega), (w10_5 (S := zQ [3] [g]) h.2.j rfl (by omega) (zQ_n rfl) (zQ_g (by simp))).jb⟩
theorem u10_6 (h : OM B m) (hi : 6 ≤ i ∧ i ≤ 12) (hx : 0 ≤ x ∧ x ≤ 1000000) : OM B (z_upd m g 10 i x) := ⟨mok_el h.1 rfl (show (-2147483648 : Int) ≤ x ∧ x ≤ (2147483647 : Int) by omega), (w10_6 (S := zQ [3] [g]) h.2.j rfl hi (by omega) (zQ_n rfl) (zQ_g (by simp))).jb⟩
theorem u11_7 (h : OM B m) (hx : 0 ≤ x ∧ x ≤ 16) : OM B (z_upd m g 11 7 x) := ⟨mok_put h.1 (fj := 7) rfl rfl rfl (show (-2147483648 : Int) ≤ x ∧ x ≤ (2147483647 : Int) by omega) (fun e => absurd e (by decide)), (w11_7 (S := zQ [1] [g]) h.2.j rfl (by omega) (zQ_n rfl) (zQ_g (by simp))).jb⟩
theorem u12_0 (h : OM B m) (hi : 0 ≤ i ∧ i ≤ 7) (hx : 0 ≤ x ∧ x ≤ 6) : OM B (z_upd m g 12 i x) := ⟨mok_el h.1 rfl (show (-2147483648 : Int) ≤ x ∧ x ≤ (2147483647 : Int) by omega), (w12_0 (S := zQ [1] [g]) h.2.j rfl hi (by omega) (zQ_n rfl) (zQ_g (by simp))).jb⟩
theorem u13_0 (h : OM B m) (hi : 0 ≤ i ∧ i ≤ 47) (hx : 0 ≤ x ∧ x ≤ 86399) : OM B (z_upd m g 13 i x) := ⟨mok_el h.1 rfl (show (-2147483648 : Int) ≤ x ∧ x ≤ (2147483647 : Int) by omega), (w13_0 (S := zQ [1] [g]) h.2.j rfl hi (by omega) (zQ_n rfl) (zQ_g (by simp))).jb⟩
theorem u14_0 (h : OM B m) (hi : 0 ≤ i ∧ i ≤ 47) (hx : 0 ≤ x ∧ x ≤ 3) : OM B (z_upd m g 14 i x) := ⟨mok_el h.1 rfl (show (-2147483648 : Int) ≤ x ∧ x ≤ (2147483647 : Int) by omega), (w14_0 (S := zQ [1] [g]) h.2.j rfl hi (by omega) (zQ_n rfl) (zQ_g (by simp))).jb⟩
theorem u15_0 (h : OM B m) (hi : 0 ≤ i ∧ i ≤ 3) (hx : (-1) ≤ x ∧ x ≤ 364) : OM B (z_upd m g 15 i x) := ⟨mok_el h.1 rfl (show (-2147483648 : Int) ≤ x ∧ x ≤ (2147483647 : Int) by omega), (w15_0 (S := zQ [1] [g]) h.2.j rfl hi (by omega) (zQ_n rfl) (zQ_g (by simp))).jb⟩
theorem u16_0 (h : OM B m) (hi : 0 ≤ i ∧ i ≤ 27) (hx : 0 ≤ x ∧ x ≤ 7) : OM B (z_upd m g 16 i x) := ⟨mok_el h.1 rfl (show (-2147483648 : Int) ≤ x ∧ x ≤ (2147483647 : Int) by omega), (w16_0 (S := zQ [1] [g]) h.2.j rfl hi (by omega) (zQ_n rfl) (zQ_g (by simp))).jb⟩
theorem u17_0 (h : OM B m) (hi : 0 ≤ i ∧ i ≤ 15) (hx : 0 ≤ x ∧ x ≤ 364) : OM B (z_upd m g 17 i x) := ⟨mok_el h.1 rfl (show (-2147483648 : Int) ≤ x ∧ x ≤ (2147483647 : Int) by omega), (w17_0 (S := zQ [1] [g]) h.2.j rfl hi (by omega) (zQ_n rfl) (zQ_g (by simp))).jb⟩
theorem u18_0 (h : OM B m) (hi : 0 ≤ i ∧ i ≤ 15) (hx : 0 ≤ x ∧ x ≤ 7) : OM B (z_upd m g 18 i x) := ⟨mok_el h.1 rfl (show (-2147483648 : Int) ≤ x ∧ x ≤ (2147483647 : Int) by omega), (w18_0 (S := zQ [1] [g]) h.2.j rfl hi (by omega) (zQ_n rfl) (zQ_g (by simp))).jb⟩
theorem u19_3 (h : OM B m) (hx : 1 ≤ x ∧ x ≤ 3) : OM B (z_upd m g 19 3 x) := ⟨mok_put h.1 (fj := 3) rfl rfl rfl (show (-2147483648 : Int) ≤ x ∧ x ≤ (2147483647 : Int) by omega) (fun e => absurd e (by decide)), (w19_3 (S := zQ [2] [g]) h.2.j rfl (by omega) (zQ_n rfl) (zQ_g (by simp))).jb⟩
theorem u19_4 (h : OM B m) (hx : 4 ≤ x ∧ x ≤ 16) : OM B (z_upd m g 19 4 x) := ⟨mok_put h.1 (fj := 4) rfl rfl rfl (show (-2147483648 : Int) ≤ x ∧ x ≤ (2147483647 : Int) by omega) (fun e => absurd e (by decide)), (w19_4 (S := zQ [2] [g]) h.2.j rfl (by omega) (zQ_n rfl) (zQ_g (by simp))).jb⟩
theorem u19_5 (h : OM B m) (hx : 0 ≤ x ∧ x ≤ 47) : OM B (z_upd m g 19 5 x) := ⟨mok_put h.1 (fj := 5) rfl rfl rfl (show (-2147483648 : Int) ≤ x ∧ x ≤ (2147483647 : Int) by omega) (fun e => absurd e (by decide)), (w19_5 (S := zQ [2] [g]) h.2.j rfl (by omega) (zQ_n rfl) (zQ_g (by simp))).jb⟩
theorem u19_6 (h : OM B m) (hx : (-9223372036854775808) ≤ x ∧ x ≤ 9223372036854775807) : OM B (z_upd m g 19 6 x) := ⟨mok_put h.1 (fj := 6) rfl rfl rfl (show (-9223372036854775808 : Int) ≤ x ∧ x ≤ (9223372036854775807 : Int) by omega) (fun e => absurd e (by decide)), (w19_6 (S := zQ [2] [g]) h.2.j rfl (by omega) (zQ_n rfl) (zQ_g (by simp))).jb⟩
theorem u20_0 (h : OM B m) (hi : 0 ≤ i ∧ i ≤ 47) (hx : (-500) ≤ x ∧ x ≤ 500) : OM B (z_upd m g 20 i x) := ⟨mok_el h.1 rfl (show (-2147483648 : Int) ≤ x ∧ x ≤ (2147483647 : Int) by omega), (w20_0 (S := zQ [2] [g]) h.2.j rfl hi (by omega) (zQ_n rfl) (zQ_g (by simp))).jb⟩
theorem u21_0 (h : OM B m) (hi : 0 ≤ i ∧ i ≤ 47) (hx : (-500) ≤ x ∧ x ≤ 500) : OM B (z_upd m g 21 i x) := ⟨mok_el h.1 rfl (show (-2147483648 : Int) ≤ x ∧ x ≤ (2147483647 : Int) by omega), (w21_0 (S := zQ [2] [g]) h.2.j rfl hi (by omega) (zQ_n rfl) (zQ_g (by simp))).jb⟩
theorem u22_0 (h : OM B m) (hi : 0 ≤ i ∧ i ≤ 15) (hx : (-9223372036854775808) ≤ x ∧ x ≤ 9223372036854775807) : OM B (z_upd m g 22 i x) := ⟨mok_el h.1 rfl (show (-9223372036854775808 : Int) ≤ x ∧ x ≤ (9223372036854775807 : Int) by omega), (w22_0 (S := zQ [2] [g]) h.2.j rfl hi (by omega) (zQ_n rfl) (zQ_g (by simp))).jb⟩
theorem u23_3 (h : OM B m) (hx : 0 ≤ x ∧ x ≤ B) (hB : B ≤ 1000000000) : OM B (z_upd m g 23 3 x) := ⟨mok_put h.1 (fj := 3) rfl rfl rfl (show (-2147483648 : Int) ≤ x ∧ x ≤ (2147483647 : Int) by omega) (fun e => absurd e (by decide)), (w23_3 (S := zQ [5] [g]) h.2.j rfl (by omega) (zQ_n rfl) (zQ_g (by simp))).jb⟩
theorem u24_0 (h : OM B m) (hi : 0 ≤ i ∧ i ≤ 27) (hx : (-9223372036854775808) ≤ x ∧ x ≤ 9223372036854775807) : OM B (z_upd m g 24 i x) := ⟨mok_el h.1 rfl (show (-9223372036854775808 : Int) ≤ x ∧ x ≤ (9223372036854775807 : Int) by omega), (w24_0 (S := zQ [10] [g]) h.2.j rfl hi (by omega) (zQ_n rfl) (zQ_g (by simp))).jb⟩
theorem u25_0 (h : OM B m) (hi : 0 ≤ i ∧ i ≤ 27) (hx : (-9223372036854775808) ≤ x ∧ x ≤ 9223372036854775807) : OM B (z_upd m g 25 i x) := ⟨mok_el h.1 rfl (show (-9223372036854775808 : Int) ≤ x ∧ x ≤ (9223372036854775807 : Int) by omega), (w25_0 (S := zQ [5] [g]) h.2.j rfl hi (by omega) (zQ_n rfl) (zQ_g (by simp))).jb⟩
theorem u26_0 (h : OM B m) (hi : 0 ≤ i ∧ i ≤ 197) (hx : (-9223372036854775808) ≤ x ∧ x ≤ 9223372036854775807) : OM B (z_upd m g 26 i x) := ⟨mok_el h.1 rfl (show (-9223372036854775808 : Int) ≤ x ∧ x ≤ (9223372036854775807 : Int) by omega), (w26_0 (S := zQ [5] [g]) h.2.j rfl hi (by omega) (zQ_n rfl) (zQ_g (by simp))).jb⟩
theorem u27_2 (h : OM B m) (hx : 0 ≤ x ∧ x ≤ B) (hB : B ≤ 1000000000) : OM B (z_upd m g 27 2 x) := ⟨mok_put h.1 (fj := 2) rfl rfl rfl (show (-2147483648 : Int) ≤ x ∧ x ≤ (2147483647 : Int) by omega) (fun e => absurd e (by decide)), (w27_2 (S := zQ [7] [g]) h.2.j rfl (by omega) (zQ_n rfl) (zQ_g (by simp))).jb⟩
theorem u27_3 (h : OM B m) (hx : (-9223372036854775808) ≤ x ∧ x ≤ 9223372036854775807) : OM B (z_upd m g 27 3 x) := ⟨mok_put h.1 (fj := 3) rfl rfl rfl (show (-9223372036854775808 : Int) ≤ x ∧ x ≤ (9223372036854775807 : Int) by omega) (fun e => absurd e (by decide)), (w27_3 (S := zQ [7] [g]) h.2.j rfl (by omega) (by omega) (zQ_n rfl) (zQ_g (by simp))).jb⟩
theorem u27_4 (h : OM B m) (hx : (-9223372036854775808) ≤ x ∧ x ≤ 9223372036854775807) : OM B (z_upd m g 27 4 x) := ⟨mok_put h.1 (fj := 4) rfl rfl rfl (show (-9223372036854775808 : Int) ≤ x ∧ x ≤ (9223372036854775807 : Int) by omega) (fun e => absurd e (by decide)), (w27_3 (S := zQ [7] [g]) h.2.j rfl (by omega) (by omega) (zQ_n rfl) (zQ_g (by simp))).jb⟩
theorem u27_5 (h : OM B m) (hx : (-9223372036854775808) ≤ x ∧ x ≤ 9223372036854775807) : OM B (z_upd m g 27 5 x) := ⟨mok_put h.1 (fj := 5) rfl rfl rfl (show (-9223372036854775808 : Int) ≤ x ∧ x ≤ (9223372036854775807 : Int) by omega) (fun e => absurd e (by decide)), (w27_3 (S := zQ [7] [g]) h.2.j rfl (by omega) (by omega) (zQ_n rfl) (zQ_g (by simp))).jb⟩
theorem u27_6 (h : OM B m) (hx : (-2147483648) ≤ x ∧ x ≤ 2147483647) : OM B (z_upd m g 27 6 x) := ⟨mok_put h.1 (fj := 6) rfl rfl rfl (show (-2147483648 : Int) ≤ x ∧ x ≤ (2147483647 : Int) by omega) (fun e => absurd e (by decide)), (w27_3 (S := zQ [7] [g]) h.2.j rfl (by omega) (by omega) (zQ_n rfl) (zQ_g (by simp))).jb⟩
theorem u27_7 (h : OM B m) (hx : (-2147483648) ≤ x ∧ x ≤ 2147483647) : OM B (z_upd m g 27 7 x) := ⟨mok_put h.1 (fj := 7) rfl rfl rfl (show (-2147483648 : Int) ≤ x ∧ x ≤ (2147483647 : Int) by omega) (fun e => absurd e (by decide)), (w27_3 (S := zQ [7] [g]) h.2.j rfl (by omega) (by omega) (zQ_n rfl) (zQ_g (by simp))).jb⟩
theorem u27_8 (h : OM B m) (hx : (-2147483648) ≤ x ∧ x ≤ 2147483647) : OM B (z_upd m g 27 8 x) := ⟨mok_put h.1 (fj := 8) rfl rfl rfl (show (-2147483648 : Int) ≤ x ∧ x ≤ (2147483647 : Int) by omega) (fun e => absurd e (by decide)), (w27_3 (S := zQ [7] [g]) h.2.j rfl (by omega) (by omega) (zQ_n rfl) (zQ_g (by simp))).jb⟩
theorem u27_9 (h : OM B m) (hx : 0 ≤ x ∧ x ≤ 2000000000) : OM B (z_upd m g 27 9 x) := ⟨mok_put h.1 (fj := 9) rfl rfl rfl (show (-2147483648 : Int) ≤ x ∧ x ≤ (2147483647 : Int) by omega) (fun e => absurd e (by decide)), (w27_9 (S := zQ [7] [g]) h.2.j rfl (by omega) (zQ_n rfl) (zQ_g (by simp))).jb⟩
theorem u28_0 (h : OM B m) (hi : 0 ≤ i ∧ i ≤ 383) (hx : (-9223372036854775808) ≤ x ∧ x ≤ 9223372036854775807) : OM B (z_upd m g 28 i x) := ⟨mok_el h.1 rfl (show (-9223372036854775808 : Int) ≤ x ∧ x ≤ (9223372036854775807 : Int) by omega), (w28_0 (S := zQ [7] [g]) h.2.j rfl hi (by omega) (zQ_n rfl) (zQ_g (by simp))).jb⟩
theorem u29_0 (h : OM B m) (hi : 0 ≤ i ∧ i ≤ 3) (hx : (-9223372036854775808) ≤ x ∧ x ≤ 9223372036854775807) : OM B (z_upd m g 29 i x) := ⟨mok_el h.1 rfl (show (-9223372036854775808 : Int) ≤ x ∧ x ≤ (9223372036854775807 : Int) by omega), (w29_0 (S := zQ [7] [g]) h.2.j rfl hi (by omega) (zQ_n rfl) (zQ_g (by simp))).jb⟩
theorem u30_2 (h : OM B m) (hx : (-9223372036854775808) ≤ x ∧ x ≤ 9223372036854775807) : OM B (z_upd m g 30 2 x) := ⟨mok_put h.1 (fj := 2) rfl rfl rfl (show (-9223372036854775808 : Int) ≤ x ∧ x ≤ (9223372036854775807 : Int) by omega) (fun e => absurd e (by decide)), (w30_0 (S := zQ [8] [g]) h.2.j rfl (by omega) (by omega) (zQ_n rfl) (zQ_g (by simp))).jb⟩
theorem u30_3 (h : OM B m) (hx : (-2147483648) ≤ x ∧ x ≤ 2147483647) : OM B (z_upd m g 30 3 x) := ⟨mok_put h.1 (fj := 3) rfl rfl rfl (show (-2147483648 : Int) ≤ x ∧ x ≤ (2147483647 : Int) by omega) (fun e => absurd e (by decide)), (w30_0 (S := zQ [8] [g]) h.2.j rfl (by omega) (by omega) (zQ_n rfl) (zQ_g (by simp))).jb⟩
theorem u31_0 (h : OM B m) (hi : 0 ≤ i ∧ i ≤ 3) (hx : (-9223372036854775808) ≤ x ∧ x ≤ 9223372036854775807) : OM B (z_upd m g 31 i x) := ⟨mok_el h.1 rfl (show (-9223372036854775808 : Int) ≤ x ∧ x ≤ (9223372036854775807 : Int) by omega), (w31_0 (S := zQ [8] [g]) h.2.j rfl hi (by omega) (zQ_n rfl) (zQ_g (by simp))).jb⟩
theorem u32_0 (h : OM B m) (hi : 0 ≤ i ∧ i ≤ 3) (hx : (-2147483648) ≤ x ∧ x ≤ 2147483647) : OM B (z_upd m g 32 i x) := ⟨mok_el h.1 rfl (show (-2147483648 : Int) ≤ x ∧ x ≤ (2147483647 : Int) by omega), (w32_0 (S := zQ [8] [g]) h.2.j rfl hi (by omega) (zQ_n rfl) (zQ_g (by simp))).jb⟩
theorem u33_3 (h : OM B m) (hx : (-2147483648) ≤ x ∧ x ≤ 2147483647) : OM B (z_upd m g 33 3 x) := ⟨mok_put h.1 (fj := 3) rfl rfl rfl (show (-2147483648 : Int) ≤ x ∧ x ≤ (2147483647 : Int) by omega) (fun e => absurd e (by decide)), (w33_0 (S := zQ [9] [g]) h.2.j rfl (by omega) (by omega) (zQ_n rfl) (zQ_g (by simp))).jb⟩
theorem u34_0 (h : OM B m) (hi : 0 ≤ i ∧ i ≤ 4) (hx : (-2147483648) ≤ x ∧ x ≤ 2147483647) : OM B (z_upd m g 34 i x) := ⟨mok_el h.1 rfl (show (-2147483648 : Int) ≤ x ∧ x ≤ (2147483647 : Int) by omega), (w34_0 (S := zQ [9] [g]) h.2.j rfl hi (by omega) (zQ_n rfl) (zQ_g (by simp))).jb⟩
theorem u35_0 (h : OM B m) (hi : 0 ≤ i ∧ i ≤ 4) (hx : (-2147483648) ≤ x ∧ x ≤ 2147483647) : OM B (z_upd m g 35 i x) := ⟨mok_el h.1 rfl (show (-2147483648 : Int) ≤ x ∧ x ≤ (2147483647 : Int) by omega), (w35_0 (S := zQ [9] [g]) h.2.j rfl hi (by omega) (zQ_n rfl) (zQ_g (by simp))).jb⟩
theorem u36_0 (h : OM B m) (hi : 0 ≤ i ∧ i ≤ 4) (hx : (-2147483648) ≤ x ∧ x ≤ 2147483647) : OM B (z_upd m g 36 i x) := ⟨mok_el h.1 rfl (show (-2147483648 : Int) ≤ x ∧ x ≤ (2147483647 : Int) by omega), (w36_0 (S := zQ [9] [g]) h.2.j rfl hi (by omega) (zQ_n rfl) (zQ_g (by simp))).jb⟩
theorem u37_1 (h : OM B m) (hx : 0 ≤ x ∧ x ≤ B) (hB : B ≤ 1000000000) : OM B (z_upd m g 37 1 x) := ⟨mok_put h.1 (fj := 1) rfl rfl rfl (show (-2147483648 : Int) ≤ x ∧ x ≤ (2147483647 : Int) by omega) (fun e => absurd e (by decide)), (w37_1 (S := zQ [6] [g]) h.2.j rfl (by omega) (zQ_n rfl) (zQ_g (by simp))).jb⟩
theorem u38_0 (h : OM B m) (hi : 0 ≤ i ∧ i ≤ 119) (hx : (-2147483648) ≤ x ∧ x ≤ 2147483647) : OM B (z_upd m g 38 i x) := ⟨mok_el h.1 rfl (show (-2147483648 : Int) ≤ x ∧ x ≤ (2147483647 : Int) by omega), (w38_0 (S := zQ [6] [g]) h.2.j rfl hi (by omega) (zQ_n rfl) (zQ_g (by simp))).jb⟩
theorem u39_0 (h : OM B m) (hx : 0 ≤ x ∧ x ≤ 1) : OM B (z_upd m g 39 0 x) := ⟨mok_put h.1 (fj := 0) rfl rfl rfl (show (-2147483648 : Int) ≤ x ∧ x ≤ (2147483647 : Int) by omega) (fun e => (by omega)), (w39_0 (S := zQ [4] [g]) h.2.j rfl (by omega) (zQ_n rfl) (zQ_g (by simp))).jb⟩
theorem u39_1 (h : OM B m) (hx : (-2147483648) ≤ x ∧ x ≤ 2147483647) : OM B (z_upd m g 39 1 x) := ⟨mok_put h.1 (fj := 1) rfl rfl rfl (show (-2147483648 : Int) ≤ x ∧ x ≤ (2147483647 : Int) by omega) (fun e => absurd e (by decide)), (w39_1 (S := zQ [4] [g]) h.2.j rfl (by omega) (zQ_n rfl) (zQ_g (by simp))).jb⟩
theorem u39_2 (h : OM B m) (hx : 0 ≤ x ∧ x ≤ B) (hB : B ≤ 1000000000) : OM B (z_upd m g 39 2 x) := ⟨mok_put h.1 (fj := 2) rfl rfl rfl (show (-2147483648 : Int) ≤ x ∧ x ≤ (2147483647 : Int) by omega) (fun e => absurd e (by decide)), (w39_2 (S := zQ [4] [g]) h.2.j rfl (by omega) (zQ_n rfl) (zQ_g (by simp))).jb⟩
theorem u39_3 (h : OM B m) (hx : (-2147483648) ≤ x ∧ x ≤ 2147483647) : OM B (z_upd m g 39 3 x) := ⟨mok_put h.1 (fj := 3) rfl rfl rfl (show (-2147483648 : Int) ≤ x ∧ x ≤ (2147483647 : Int) by omega) (fun e => absurd e (by decide)), (w39_3 (S := zQ [4] [g]) h.2.j rfl (by omega) (zQ_n rfl) (zQ_g (by simp))).jb⟩
theorem u39_4 (h : OM B m) (hx : 0 ≤ x ∧ x ≤ 2000000300) : OM B (z_upd m g 39 4 x) := ⟨mok_put h.1 (fj := 4) rfl rfl rfl (show (-2147483648 : Int) ≤ x ∧ x ≤ (2147483647 : Int) by omega) (fun e => absurd e (by decide)), (w39_4 (S := zQ [4] [g]) h.2.j rfl (by omega) (zQ_n rfl) (zQ_g (by simp))).jb⟩
theorem u40_4 (h : OM B m) (hx : 0 ≤ x ∧ x ≤ 1) : OM B (z_upd m g 40 4 x) := ⟨mok_put h.1 (fj := 4) rfl rfl rfl (show (-2147483648 : Int) ≤ x ∧ x ≤ (2147483647 : Int) by omega) (fun e => (by omega)), (w40_4 (S := zQ [14] [g]) h.2.j rfl (by omega) (zQ_n rfl) (zQ_g (by simp))).jb⟩
theorem u41_3 (h : OM B m) (hx : 0 ≤ x ∧ x ≤ 300) : OM B (z_upd m g 41 3 x) := ⟨mok_put h.1 (fj := 3) rfl rfl rfl (show (-2147483648 : Int) ≤ x ∧ x ≤ (2147483647 : Int) by omega) (fun e => absurd e (by decide)), (w41_3 (S := zQ [15] [g]) h.2.j rfl (by omega) (zQ_n rfl) (zQ_g (by simp))).jb⟩
theorem u41_4 (h : OM B m) (hx : (-2147483648) ≤ x ∧ x ≤ 2147483647) : OM B (z_upd m g 41 4 x) := ⟨mok_put h.1 (fj := 4) rfl rfl rfl (show (-2147483648 : Int) ≤ x ∧ x ≤ (2147483647 : Int) by omega) (fun e => absurd e (by decide)), (w41_4 (S := zQ [16] [g]) h.2.j rfl (by omega) (by omega) (zQ_n rfl) (zQ_g (by simp))).jb⟩
theorem u41_5 (h : OM B m) (hx : (-2147483648) ≤ x ∧ x ≤ 2147483647) : OM B (z_upd m g 41 5 x) := ⟨mok_put h.1 (fj := 5) rfl rfl rfl (show (-2147483648 : Int) ≤ x ∧ x ≤ (2147483647 : Int) by omega) (fun e => absurd e (by decide)), (w41_4 (S := zQ [16] [g]) h.2.j rfl (by omega) (by omega) (zQ_n rfl) (zQ_g (by simp))).jb⟩
theorem u41_6 (h : OM B m) (hx : 0 ≤ x ∧ x ≤ 1) : OM B (z_upd m g 41 6 x) := ⟨mok_put h.1 (fj := 6) rfl rfl rfl (show (-2147483648 : Int) ≤ x ∧ x ≤ (2147483647 : Int) by omega) (fun e => (by omega)), (w41_6 (S := zQ [19] [g]) h.2.j rfl (by omega) (zQ_n rfl) (zQ_g (by simp))).jb⟩
theorem u41_7 (h : OM B m) (hx : 0 ≤ x ∧ x ≤ 300) : OM B (z_upd m g 41 7 x) := ⟨mok_put h.1 (fj := 7) rfl rfl rfl (show (-2147483648 : Int) ≤ x ∧ x ≤ (2147483647 : Int) by omega) (fun e => absurd e (by decide)), (w41_7 (S := zQ [19] [g]) h.2.j rfl (by omega) (zQ_n rfl) (zQ_g (by simp))).jb⟩
theorem u41_8 (h : OM B m) (hx : (-2147483648) ≤ x ∧ x ≤ 2147483647) : OM B (z_upd m g 41 8 x) := ⟨mok_put h.1 (fj := 8) rfl rfl rfl (show (-2147483648 : Int) ≤ x ∧ x ≤ (2147483647 : Int) by omega) (fun e => absurd e (by decide)), (w41_8 (S := zQ [19] [g]) h.2.j rfl (by omega) (by omega) (zQ_n rfl) (zQ_g (by simp))).jb⟩
theorem u41_9 (h : OM B m) (hx : (-2147483648) ≤ x ∧ x ≤ 2147483647) : OM B (z_upd m g 41 9 x) := ⟨mok_put h.1 (fj := 9) rfl rfl rfl (show (-2147483648 : Int) ≤ x ∧ x ≤ (2147483647 : Int) by omega) (fun e => absurd e (by decide)), (w41_8 (S := zQ [19] [g]) h.2.j rfl (by omega) (by omega) (zQ_n rfl) (zQ_g (by simp))).jb⟩
theorem u41_10 (h : OM B m) (hx : (-2147483648) ≤ x ∧ x ≤ 2147483647) : OM B (z_upd m g 41 10 x) := ⟨mok_put h.1 (fj := 10) rfl rfl rfl (show (-2147483648 : Int) ≤ x ∧ x ≤ (2147483647 : Int) by omega) (fun e => absurd e (by decide)), (w41_8 (S := zQ [19] [g]) h.2.j rfl (by omega) (by omega) (zQ_n rfl) (zQ_g (by simp))).jb⟩
theorem u42_0 (h : OM B m) (hi : 0 ≤ i ∧ i ≤ 299) (hx : 0 ≤ x ∧ x ≤ 255) : OM B (z_upd m g 42 i x) := ⟨mok_el h.1 rfl (show (-2147483648 : Int) ≤ x ∧ x ≤ (2147483647 : Int) by omega), (w42_0 (S := zQ [15] [g]) h.2.j rfl hi (by omega) (zQ_n rfl) (zQ_g (by simp))).jb⟩
theorem u43_0 (h : OM B m) (hi : 0 ≤ i ∧ i ≤ 3) (hx : 0 ≤ x ∧ x ≤ 100) : OM B (z_upd m g 43 i x) := ⟨mok_el h.1 rfl (show (-2147483648 : Int) ≤ x ∧ x ≤ (2147483647 : Int) by omega), (w43_0 (S := zQ [19] [g]) h.2.j rfl hi (by omega) (zQ_n rfl) (zQ_g (by simp))).jb⟩
theorem u44_5 (h : OM B m) (hx : 0 ≤ x ∧ x ≤ 300) : OM B (z_upd m g 44 5 x) := ⟨mok_put h.1 (fj := 5) rfl rfl rfl (show (-2147483648 : Int) ≤ x ∧ x ≤ (2147483647 : Int) by omega) (fun e => absurd e (by decide)), (w44_5 (S := zQ [35] [g]) h.2.j rfl (by omega) (zQ_n rfl) (zQ_g (by simp))).jb⟩
theorem u44_6 (h : OM B m) (hx : (-2147483648) ≤ x ∧ x ≤ 2147483647) : OM B (z_upd m g 44 6 x) := ⟨mok_put h.1 (fj := 6) rfl rfl rfl (show (-2147483648 : Int) ≤ x ∧ x ≤ (2147483647 : Int) by omega) (fun e => absurd e (by decide)), (w44_6 (S := zQ [36] [g]) h.2.j rfl (by omega) (by omega) (zQ_n rfl) (zQ_g (by simp))).jb⟩
theorem u44_7 (h : OM B m) (hx : (-2147483648) ≤ x ∧ x ≤ 2147483647) : OM B (z_upd m g 44 7 x) := ⟨mok_put h.1 (fj := 7) rfl rfl rfl (show (-2147483648 : Int) ≤ x ∧ x ≤ (2147483647 : Int) by omega) (fun e => absurd e (by decide)), (w44_6 (S := zQ [36] [g]) h.2.j rfl (by omega) (by omega) (zQ_n rfl) (zQ_g (by simp))).jb⟩
theorem u44_8 (h : OM B m) (hx : 0 ≤ x ∧ x ≤ 300) : OM B (z_upd m g 44 8 x) := ⟨mok_put h.1 (fj := 8) rfl rfl rfl (show (-2147483648 : Int) ≤ x ∧ x ≤ (2147483647 : Int) by omega) (fun e => absurd e (by decide)), (w44_8 (S := zQ [39] [g]) h.2.j rfl (by omega) (zQ_n rfl) (zQ_g (by simp))).jb⟩
theorem u44_9 (h : OM B m) (hx : 0 ≤ x ∧ x ≤ 1) : OM B (z_upd m g 44 9 x) := ⟨mok_put h.1 (fj := 9) rfl rfl rfl (show (-2147483648 : Int) ≤ x ∧ x ≤ (2147483647 : Int) by omega) (fun e => (by omega)), (w44_9 (S := zQ [39] [g]) h.2.j rfl (by omega) (zQ_n rfl) (zQ_g (by simp))).jb⟩
theorem u44_10 (h : OM B m) (hx : (-2147483648) ≤ x ∧ x ≤ 2147483647) : OM B (z_upd m g 44 10 x) := ⟨mok_put h.1 (fj := 10) rfl rfl rfl (show (-2147483648 : Int) ≤ x ∧ x ≤ (2147483647 : Int) by omega) (fun e => absurd e (by decide)), (w44_10 (S := zQ [39] [g]) h.2.j rfl (by omega) (by omega) (zQ_n rfl) (zQ_g (by simp))).jb⟩
theorem u44_13 (h : OM B m) (hx : (-2147483648) ≤ x ∧ x ≤ 2147483647) : OM B (z_upd m g 44 13 x) := ⟨mok_put h.1 (fj := 13) rfl rfl rfl (show (-2147483648 : Int) ≤ x ∧ x ≤ (2147483647 : Int) by omega) (fun e => absurd e (by decide)), (w44_10 (S := zQ [39] [g]) h.2.j rfl (by omega) (by omega) (zQ_n rfl) (zQ_g (by simp))).jb⟩
theorem u44_14 (h : OM B m) (hx : 0 ≤ x ∧ x ≤ 1) : OM B (z_upd m g 44 14 x) := ⟨mok_put h.1 (fj := 14) rfl rfl rfl (show (-2147483648 : Int) ≤ x ∧ x ≤ (2147483647 : Int) by omega) (fun e => (by omega)), (w44_14 (S := zQ [39] [g]) h.2.j rfl (by omega) (zQ_n rfl) (zQ_g (by simp))).jb⟩
theorem u45_0 (h : OM B m) (hx : 0 ≤ x ∧ x ≤ 2000000000) : OM B (z_upd m g 45 0 x) := ⟨mok_el h.1 rfl (show (-9223372036854775808 : Int) ≤ x ∧ x ≤ (9223372036854775807 : Int) by omega), (w45_0 (S := zQ [31] [g]) h.2.j rfl (by omega) (zQ_n rfl) (zQ_g (by simp))).jb⟩
theorem u45_1 (h : OM B m) (hx : 1 ≤ x ∧ x ≤ 3) : OM B (z_upd m g 45 1 x) := ⟨mok_el h.1 rfl (show (-9223372036854775808 : Int) ≤ x ∧ x ≤ (9223372036854775807 : Int) by omega), (w45_1 (S := zQ [22] [g]) h.2.j rfl (by omega) (zQ_n rfl) (zQ_g (by simp))).jb⟩
theorem u45_2 (h : OM B m) (hx : 4 ≤ x ∧ x ≤ 16) : OM B (z_upd m g 45 2 x) := ⟨mok_el h.1 rfl (show (-9223372036854775808 : Int) ≤ x ∧ x ≤ (9223372036854775807 : Int) by omega), (w45_2 (S := zQ [22] [g]) h.2.j rfl (by omega) (zQ_n rfl) (zQ_g (by simp))).jb⟩
theorem u45_3 (h : OM B m) (hx : 0 ≤ x ∧ x ≤ 47) : OM B (z_upd m g 45 3 x) := ⟨mok_el h.1 rfl (show (-9223372036854775808 : Int) ≤ x ∧ x ≤ (9223372036854775807 : Int) by omega), (w45_3 (S := zQ [22] [g]) h.2.j rfl (by omega) (zQ_n rfl) (zQ_g (by simp))).jb⟩
theorem u45_4 (h : OM B m) (hx : 0 ≤ x ∧ x ≤ 1000000) : OM B (z_upd m g 45 4 x) := ⟨mok_el h.1 rfl (show (-9223372036854775808 : Int) ≤ x ∧ x ≤ (9223372036854775807 : Int) by omega), (w45_4 (S := zQ [23] [g]) h.2.j rfl (by omega) (zQ_n rfl) (zQ_g (by simp))).jb⟩
theorem u45_5 (h : OM B m) (hx : 1 ≤ x ∧ x ≤ 1000000) : OM B (z_upd m g 45 5 x) := ⟨mok_el h.1 rfl (show (-9223372036854775808 : Int) ≤ x ∧ x ≤ (9223372036854775807 : Int) by omega), (w45_5 (S := zQ [23] [g]) h.2.j rfl (by omega) (zQ_n rfl) (zQ_g (by simp))).jb⟩
theorem u45_6 (h : OM B m) (hx : 0 ≤ x ∧ x ≤ 250000) : OM B (z_upd m g 45 6 x) := ⟨mok_el h.1 rfl (show (-9223372036854775808 : Int) ≤ x ∧ x ≤ (9223372036854775807 : Int) by omega), (w45_6 (S := zQ [23] [g]) h.2.j rfl (by omega) (zQ_n rfl) (zQ_g (by simp))).jb⟩
theorem u45_7 (h : OM B m) (hx : 0 ≤ x ∧ x ≤ 60) : OM B (z_upd m g 45 7 x) := ⟨mok_el h.1 rfl (show (-9223372036854775808 : Int) ≤ x ∧ x ≤ (9223372036854775807 : Int) by omega), (w45_7 (S := zQ [23] [g]) h.2.j rfl (by omega) (zQ_n rfl) (zQ_g (by simp))).jb⟩
theorem u45_8 (h : OM B m) (hx : 1 ≤ x ∧ x ≤ 3600) : OM B (z_upd m g 45 8 x) := ⟨mok_el h.1 rfl (show (-9223372036854775808 : Int) ≤ x ∧ x ≤ (9223372036854775807 : Int) by omega), (w45_8 (S := zQ [23] [g]) h.2.j rfl (by omega) (zQ_n rfl) (zQ_g (by simp))).jb⟩
theorem u45_9 (h : OM B m) (hx : 1 ≤ x ∧ x ≤ 6) : OM B (z_upd m g 45 9 x) := ⟨mok_el h.1 rfl (show (-9223372036854775808 : Int) ≤ x ∧ x ≤ (9223372036854775807 : Int) by omega), (w45_9 (S := zQ [23] [g]) h.2.j rfl (by omega) (zQ_n rfl) (zQ_g (by simp))).jb⟩
theorem u45_10 (h : OM B m) (hx : (-9223372036854775808) ≤ x ∧ x ≤ 9223372036854775807) : OM B (z_upd m g 45 10 x) := ⟨mok_el h.1 rfl (show (-9223372036854775808 : Int) ≤ x ∧ x ≤ (9223372036854775807 : Int) by omega), (w45_10 (S := zQ [32] [g]) h.2.j rfl (by omega) (zQ_n rfl) (zQ_g (by simp))).jb⟩
theorem u45_11 (h : OM B m) (hx : 0 ≤ x ∧ x ≤ 1) : OM B (z_upd m g 45 11 x) := ⟨mok_el h.1 rfl (show (-9223372036854775808 : Int) ≤ x ∧ x ≤ (9223372036854775807 : Int) by omega), (w45_11 (S := zQ [32] [g]) h.2.j rfl (by omega) (zQ_n rfl) (zQ_g (by simp))).jb⟩
theorem u45_12 (h : OM B m) (hx : 0 ≤ x ∧ x ≤ 1) : OM B (z_upd m g 45 12 x) := ⟨mok_el h.1 rfl (show (-9223372036854775808 : Int) ≤ x ∧ x ≤ (9223372036854775807 : Int) by omega), (w45_12 (S := zQ [32] [g]) h.2.j rfl (by omega) (zQ_n rfl) (zQ_g (by simp))).jb⟩
theorem u45_13 (h : OM B m) (hx : 0 ≤ x ∧ x ≤ B) (hB : B ≤ 1000000000) : OM B (z_upd m g 45 13 x) := ⟨mok_el h.1 rfl (show (-9223372036854775808 : Int) ≤ x ∧ x ≤ (9223372036854775807 : Int) by omega), (w45_13 (S := zQ [33] [g]) h.2.j rfl (by omega) (zQ_n rfl) (zQ_g (by simp))).jb⟩
theorem u45_14 (h : OM B m) (hi : 14 ≤ i ∧ i ≤ 15) (hx : (-9223372036854775808) ≤ x ∧ x ≤ 9223372036854775807) : OM B (z_upd m g 45 i x) := ⟨mok_el h.1 rfl (show (-9223372036854775808 : Int) ≤ x ∧ x ≤ (9223372036854775807 : Int) by omega), (w45_14 (S := zQ [33] [g]) h.2.j rfl hi (by omega) (zQ_n rfl) (zQ_g (by simp))).jb⟩
theorem u45_16 (h : OM B m) (hx : 0 ≤ x ∧ x ≤ B) (hB : B ≤ 1000000000) : OM B (z_upd m g 45 16 x) := ⟨mok_el h.1 rfl (show (-9223372036854775808 : Int) ≤ x ∧ x ≤ (9223372036854775807 : Int) by omega), (w45_16 (S := zQ [26] [g]) h.2.j rfl (by omega) (zQ_n rfl) (zQ_g (by simp))).jb⟩
theorem u45_17 (h : OM B m) (hx : 0 ≤ x ∧ x ≤ B) (hB : B ≤ 1000000000) : OM B (z_upd m g 45 17 x) := ⟨mok_el h.1 rfl (show (-9223372036854775808 : Int) ≤ x ∧ x ≤ (9223372036854775807 : Int) by omega), (w45_17 (S := zQ [27] [g]) h.2.j rfl (by omega) (zQ_n rfl) (zQ_g (by simp))).jb⟩
theorem u45_18 (h : OM B m) (hx : 0 ≤ x ∧ x ≤ B) (hB : B ≤ 1000000000) : OM B (z_upd m g 45 18 x) := ⟨mok_el h.1 rfl (show (-9223372036854775808 : Int) ≤ x ∧ x ≤ (9223372036854775807 : Int) by omega), (w45_18 (S := zQ [25] [g]) h.2.j rfl (by omega) (zQ_n rfl) (zQ_g (by simp))).jb⟩
theorem u45_19 (h : OM B m) (hi : 19 ≤ i ∧ i ≤ 20) (hx : (-9223372036854775808) ≤ x ∧ x ≤ 9223372036854775807) : OM B (z_upd m g 45 i x) := ⟨mok_el h.1 rfl (show (-9223372036854775808 : Int) ≤ x ∧ x ≤ (9223372036854775807 : Int) by omega), (w45_19 (S := zQ [28] [g]) h.2.j rfl hi (by omega) (zQ_n rfl) (zQ_g (by simp))).jb⟩
theorem u45_21 (h : OM B m) (hi : 21 ≤ i ∧ i ≤ 27) (hx : (-9223372036854775808) ≤ x ∧ x ≤ 9223372036854775807) : OM B (z_upd m g 45 i x) := ⟨mok_el h.1 rfl (show (-9223372036854775808 : Int) ≤ x ∧ x ≤ (9223372036854775807 : Int) by omega), (w45_21 (S := zQ [27] [g]) h.2.j rfl hi (by omega) (zQ_n rfl) (zQ_g (by simp))).jb⟩
theorem u45_28 (h : OM B m) (hi : 28 ≤ i ∧ i ≤ 31) (hx : 0 ≤ x ∧ x ≤ 100) : OM B (z_upd m g 45 i x) := ⟨mok_el h.1 rfl (show (-9223372036854775808 : Int) ≤ x ∧ x ≤ (9223372036854775807 : Int) by omega), (w45_28 (S := zQ [23] [g]) h.2.j rfl hi (by omega) (zQ_n rfl) (zQ_g (by simp))).jb⟩
theorem u45_32 (h : OM B m) (hi : 32 ≤ i ∧ i ≤ 39) (hx : (-9223372036854775808) ≤ x ∧ x ≤ 9223372036854775807) : OM B (z_upd m g 45 i x) := ⟨mok_el h.1 rfl (show (-9223372036854775808 : Int) ≤ x ∧ x ≤ (9223372036854775807 : Int) by omega), (w45_32 (S := zQ [28] [g]) h.2.j rfl hi (by omega) (zQ_n rfl) (zQ_g (by simp))).jb⟩
theorem u45_40 (h : OM B m) (hi : 40 ≤ i ∧ i ≤ 59) (hx : (-9223372036854775808) ≤ x ∧ x ≤ 9223372036854775807) : OM B (z_upd m g 45 i x) := ⟨mok_el h.1 rfl (show (-9223372036854775808 : Int) ≤ x ∧ x ≤ (9223372036854775807 : Int) by omega), (w45_40 (S := zQ [29] [g]) h.2.j rfl hi (by omega) (zQ_n rfl) (zQ_g (by simp))).jb⟩
theorem u45_60 (h : OM B m) (hi : 60 ≤ i ∧ i ≤ 94) (hx : (-9223372036854775808) ≤ x ∧ x ≤ 9223372036854775807) : OM B (z_upd m g 45 i x) := ⟨mok_el h.1 rfl (show (-9223372036854775808 : Int) ≤ x ∧ x ≤ (9223372036854775807 : Int) by omega), (w45_60 (S := zQ [30] [g]) h.2.j rfl hi (by omega) (zQ_n rfl) (zQ_g (by simp))).jb⟩
theorem u45_95 (h : OM B m) (hi : 95 ≤ i ∧ i ≤ 286) (hx : (-500) ≤ x ∧ x ≤ 500) : OM B (z_upd m g 45 i x) := ⟨mok_el h.1 rfl (show (-9223372036854775808 : Int) ≤ x ∧ x ≤ (9223372036854775807 : Int) by omega), (w45_95 (S := zQ [22] [g]) h.2.j rfl hi (by omega) (zQ_n rfl) (zQ_g (by simp))).jb⟩
theorem u45_287 (h : OM B m) (hi : 287 ≤ i ∧ i ≤ 294) (hx : 0 ≤ x ∧ x ≤ 6) : OM B (z_upd m g 45 i x) := ⟨mok_el h.1 rfl (show (-9223372036854775808 : Int) ≤ x ∧ x ≤ (9223372036854775807 : Int) by omega), (w45_287 (S := zQ [21] [g]) h.2.j rfl hi (by omega) (zQ_n rfl) (zQ_g (by simp))).jb⟩
theorem u45_295 (h : OM B m) (hi : 295 ≤ i ∧ i ≤ 342) (hx : 0 ≤ x ∧ x ≤ 86399) : OM B (z_upd m g 45 i x) := ⟨mok_el h.1 rfl (show (-9223372036854775808 : Int) ≤ x ∧ x ≤ (9223372036854775807 : Int) by omega), (w45_295 (S := zQ [21] [g]) h.2.j rfl hi (by omega) (zQ_n rfl) (zQ_g (by simp))).jb⟩
theorem u45_343 (h : OM B m) (hi : 343 ≤ i ∧ i ≤ 390) (hx : 0 ≤ x ∧ x ≤ 3) : OM B (z_upd m g 45 i x) := ⟨mok_el h.1 rfl (show (-9223372036854775808 : Int) ≤ x ∧ x ≤ (9223372036854775807 : Int) by omega), (w45_343 (S := zQ [21] [g]) h.2.j rfl hi (by omega) (zQ_n rfl) (zQ_g (by simp))).jb⟩
theorem u45_391 (h : OM B m) (hi : 391 ≤ i ∧ i ≤ 394) (hx : (-1) ≤ x ∧ x ≤ 364) : OM B (z_upd m g 45 i x) := ⟨mok_el h.1 rfl (show (-9223372036854775808 : Int) ≤ x ∧ x ≤ (9223372036854775807 : Int) by omega), (w45_391 (S := zQ [21] [g]) h.2.j rfl hi (by omega) (zQ_n rfl) (zQ_g (by simp))).jb⟩
theorem u45_395 (h : OM B m) (hi : 395 ≤ i ∧ i ≤ 422) (hx : 0 ≤ x ∧ x ≤ 7) : OM B (z_upd m g 45 i x) := ⟨mok_el h.1 rfl (show (-9223372036854775808 : Int) ≤ x ∧ x ≤ (9223372036854775807 : Int) by omega), (w45_395 (S := zQ [21] [g]) h.2.j rfl hi (by omega) (zQ_n rfl) (zQ_g (by simp))).jb⟩
theorem u45_423 (h : OM B m) (hi : 423 ≤ i ∧ i ≤ 787) (hx : (-1) ≤ x ∧ x ≤ 7) : OM B (z_upd m g 45 i x) := ⟨mok_el h.1 rfl (show (-9223372036854775808 : Int) ≤ x ∧ x ≤ (9223372036854775807 : Int) by omega), (w45_423 (S := zQ [21] [g]) h.2.j rfl hi (by omega) (zQ_n rfl) (zQ_g (by simp))).jb⟩
theorem u45_788 (h : OM B m) (hi : 788 ≤ i ∧ i ≤ 1171) (hx : (-9223372036854775808) ≤ x ∧ x ≤ 9223372036854775807) : OM B (z_upd m g 45 i x) := ⟨mok_el h.1 rfl (show (-9223372036854775808 : Int) ≤ x ∧ x ≤ (9223372036854775807 : Int) by omega), (w45_788 (S := zQ [27] [g]) h.2.j rfl hi (by omega) (zQ_n rfl) (zQ_g (by simp))).jb⟩
theorem u45_1172 (h : OM B m) (hi : 1172 ≤ i ∧ i ≤ 1486) (hx : (-9223372036854775808) ≤ x ∧ x ≤ 9223372036854775807) : OM B (z_upd m g 45 i x) := ⟨mok_el h.1 rfl (show (-9223372036854775808 : Int) ≤ x ∧ x ≤ (9223372036854775807 : Int) by omega), (w45_1172 (S := zQ [25] [g]) h.2.j rfl hi (by omega) (zQ_n rfl) (zQ_g (by simp))).jb⟩
theorem u45_1487 (h : OM B m) (hi : 1487 ≤ i ∧ i ≤ 1606) (hx : (-9223372036854775808) ≤ x ∧ x ≤ 9223372036854775807) : OM B (z_upd m g 45 i x) := ⟨mok_el h.1 rfl (show (-9223372036854775808 : Int) ≤ x ∧ x ≤ (9223372036854775807 : Int) by omega), (w45_1487 (S := zQ [26] [g]) h.2.j rfl hi (by omega) (zQ_n rfl) (zQ_g (by simp))).jb⟩
theorem u45_1607 (h : OM B m) (hi : 1607 ≤ i ∧ i ≤ 1610) (hx : (-9223372036854775808) ≤ x ∧ x ≤ 9223372036854775807) : OM B (z_upd m g 45 i x) := ⟨mok_el h.1 rfl (show (-9223372036854775808 : Int) ≤ x ∧ x ≤ (9223372036854775807 : Int) by omega), (w45_1607 (S := zQ [27] [g]) h.2.j rfl hi (by omega) (zQ_n rfl) (zQ_g (by simp))).jb⟩
theorem u45_1611 (h : OM B m) (hx : 0 ≤ x ∧ x ≤ 100) : OM B (z_upd m g 45 1611 x) := ⟨mok_el h.1 rfl (show (-9223372036854775808 : Int) ≤ x ∧ x ≤ (9223372036854775807 : Int) by omega), (w45_1611 (S := zQ [23] [g]) h.2.j rfl (by omega) (zQ_n rfl) (zQ_g (by simp))).jb⟩
theorem u45_1612 (h : OM B m) (hx : 0 ≤ x ∧ x ≤ 200) : OM B (z_upd m g 45 1612 x) := ⟨mok_el h.1 rfl (show (-9223372036854775808 : Int) ≤ x ∧ x ≤ (9223372036854775807 : Int) by omega), (w45_1612 (S := zQ [23] [g]) h.2.j rfl (by omega) (zQ_n rfl) (zQ_g (by simp))).jb⟩
theorem u45_1613 (h : OM B m) (hx : 0 ≤ x ∧ x ≤ 100) : OM B (z_upd m g 45 1613 x) := ⟨mok_el h.1 rfl (show (-9223372036854775808 : Int) ≤ x ∧ x ≤ (9223372036854775807 : Int) by omega), (w45_1613 (S := zQ [23] [g]) h.2.j rfl (by omega) (zQ_n rfl) (zQ_g (by simp))).jb⟩
theorem u45_1614 (h : OM B m) (hx : 0 ≤ x ∧ x ≤ 1) : OM B (z_upd m g 45 1614 x) := ⟨mok_el h.1 rfl (show (-9223372036854775808 : Int) ≤ x ∧ x ≤ (9223372036854775807 : Int) by omega), (w45_1614 (S := zQ [24] [g]) h.2.j rfl (by omega) (zQ_n rfl) (zQ_g (by simp))).jb⟩
theorem u45_1615 (h : OM B m) (hx : (-9223372036854775808) ≤ x ∧ x ≤ 9223372036854775807) : OM B (z_upd m g 45 1615 x) := ⟨mok_el h.1 rfl (show (-9223372036854775808 : Int) ≤ x ∧ x ≤ (9223372036854775807 : Int) by omega), (w45_1615 (S := zQ [24] [g]) h.2.j rfl (by omega) (zQ_n rfl) (zQ_g (by simp))).jb⟩
theorem u45_1616 (h : OM B m) (hx : 0 ≤ x ∧ x ≤ B) (hB : B ≤ 1000000000) : OM B (z_upd m g 45 1616 x) := ⟨mok_el h.1 rfl (show (-9223372036854775808 : Int) ≤ x ∧ x ≤ (9223372036854775807 : Int) by omega), (w45_1616 (S := zQ [24] [g]) h.2.j rfl (by omega) (zQ_n rfl) (zQ_g (by simp))).jb⟩
theorem u45_1617 (h : OM B m) (hx : 0 ≤ x ∧ x ≤ 2000000300) : OM B (z_upd m g 45 1617 x) := ⟨mok_el h.1 rfl (show (-9223372036854775808 : Int) ≤ x ∧ x ≤ (9223372036854775807 : Int) by omega), (w45_1617 (S := zQ [24] [g]) h.2.j rfl (by omega) (zQ_n rfl) (zQ_g (by simp))).jb⟩
theorem u45_1618 (h : OM B m) (hx : (-9223372036854775808) ≤ x ∧ x ≤ 9223372036854775807) : OM B (z_upd m g 45 1618 x) := ⟨mok_el h.1 rfl (show (-9223372036854775808 : Int) ≤ x ∧ x ≤ (9223372036854775807 : Int) by omega), (w45_1618 (S := zQ [24] [g]) h.2.j rfl (by omega) (zQ_n rfl) (zQ_g (by simp))).jb⟩
theorem u48_0 (h : OM B m) (hi : 0 ≤ i ∧ i ≤ 299) (hx : (-128) ≤ x ∧ x ≤ 127) : OM B (z_upd m g 48 i x) := ⟨mok_el h.1 rfl (show (-128 : Int) ≤ x ∧ x ≤ (127 : Int) by omega), (w48_0 (S := zQ [35] [g]) h.2.j rfl hi (by omega) (zQ_n rfl) (zQ_g (by simp))).jb⟩
theorem u49_0 (h : OM B m) (hi : 0 ≤ i ∧ i ≤ 7) (hx : 0 ≤ x ∧ x ≤ 1) : OM B (z_upd m g 49 i x) := ⟨mok_el h.1 rfl (show (0 : Int) ≤ x ∧ x ≤ (1 : Int) by omega), (w49_0 (S := zQ [39] [g]) h.2.j rfl hi (by omega) (zQ_n rfl) (zQ_g (by simp))).jb⟩
theorem u50_0 (h : OM B m) (hi : 0 ≤ i ∧ i ≤ 3) (hx : 0 ≤ x ∧ x ≤ 1) : OM B (z_upd m g 50 i x) := ⟨mok_el h.1 rfl (show (0 : Int) ≤ x ∧ x ≤ (1 : Int) by omega), (w50_0 (S := zQ [39] [g]) h.2.j rfl hi (by omega) (zQ_n rfl) (zQ_g (by simp))).jb⟩
end
theorem ja8_0 {i : Int} (h : 0 ≤ i ∧ i ≤ 9) : ja 8 i = 11 := ja_at h 0 rfl rfl rfl
theorem ja8_10 {i : Int} (h : 10 ≤ i ∧ i ≤ 12) : ja 8 i = 12 := ja_at h 1 rfl rfl rfl
theorem ja8_13 {i : Int} (h : 13 ≤ i ∧ i ≤ 15) : ja 8 i = 13 := ja_at h 2 rfl rfl rfl
theorem ja9_0 : ja 9 0 = 3 := ja_at (show (0 : Int) ≤ 0 ∧ (0 : Int) ≤ 0 by omega) 0 rfl rfl rfl
theorem ja10_0 {i : Int} (h : 0 ≤ i ∧ i ≤ 12) : ja 10 i = 3 := ja_at h 0 rfl rfl rfl
theorem ja11_0 {i : Int} (h : 0 ≤ i ∧ i ≤ 7) : ja 11 i = 1 := ja_at h 0 rfl rfl rfl
theorem ja12_0 {i : Int} (h : 0 ≤ i ∧ i ≤ 7) : ja 12 i = 1 := ja_at h 0 rfl rfl rfl
theorem ja13_0 {i : Int} (h : 0 ≤ i ∧ i ≤ 47) : ja 13 i = 1 := ja_at h 0 rfl rfl rfl
theorem ja14_0 {i : Int} (h : 0 ≤ i ∧ i ≤ 47) : ja 14 i = 1 := ja_at h 0 rfl rfl rfl
theorem ja15_0 {i : Int} (h : 0 ≤ i ∧ i ≤ 3) : ja 15 i = 1 := ja_at h 0 rfl rfl rfl
theorem ja16_0 {i : Int} (h : 0 ≤ i ∧ i ≤ 27) : ja 16 i = 1 := ja_at h 0 rfl rfl rfl
theorem ja17_0 {i : Int} (h : 0 ≤ i ∧ i ≤ 15) : ja 17 i = 1 := ja_at h 0 rfl rfl rfl
theorem ja18_0 {i : Int} (h : 0 ≤ i ∧ i ≤ 15) : ja 18 i = 1 := ja_at h 0 rfl rfl rfl
theorem ja19_0 {i : Int} (h : 0 ≤ i ∧ i ≤ 6) : ja 19 i = 2 := ja_at h 0 rfl rfl rfl
theorem ja20_0 {i : Int} (h : 0 ≤ i ∧ i ≤ 47) : ja 20 i = 2 := ja_at h 0 rfl rfl rfl
theorem ja21_0 {i : Int} (h : 0 ≤ i ∧ i ≤ 47) : ja 21 i = 2 := ja_at h 0 rfl rfl rfl
theorem ja22_0 {i : Int} (h : 0 ≤ i ∧ i ≤ 15) : ja 22 i = 2 := ja_at h 0 rfl rfl rfl
theorem ja23_0 {i : Int} (h : 0 ≤ i ∧ i ≤ 3) : ja 23 i = 5 := ja_at h 0 rfl rfl rfl
theorem ja24_0 {i : Int} (h : 0 ≤ i ∧ i ≤ 27) : ja 24 i = 10 := ja_at h 0 rfl rfl rfl
theorem ja25_0 {i : Int} (h : 0 ≤ i ∧ i ≤ 27) : ja 25 i = 5 := ja_at h 0 rfl rfl rfl
theorem ja26_0 {i : Int} (h : 0 ≤ i ∧ i ≤ 197) : ja 26 i = 5 := ja_at h 0 rfl rfl rfl
theorem ja27_0 {i : Int} (h : 0 ≤ i ∧ i ≤ 9) : ja 27 i = 7 := ja_at h 0 rfl rfl rfl
theorem ja28_0 {i : Int} (h : 0 ≤ i ∧ i ≤ 383) : ja 28 i = 7 := ja_at h 0 rfl rfl rfl
theorem ja29_0 {i : Int} (h : 0 ≤ i ∧ i ≤ 3) : ja 29 i = 7 := ja_at h 0 rfl rfl rfl
theorem ja30_0 {i : Int} (h : 0 ≤ i ∧ i ≤ 3) : ja 30 i = 8 := ja_at h 0 rfl rfl rfl
theorem ja31_0 {i : Int} (h : 0 ≤ i ∧ i ≤ 3) : ja 31 i = 8 := ja_at h 0 rfl rfl rfl
theorem ja32_0 {i : Int} (h : 0 ≤ i ∧ i ≤ 3) : ja 32 i = 8 := ja_at h 0 rfl rfl rfl
theorem ja33_0 {i : Int} (h : 0 ≤ i ∧ i ≤ 3) : ja 33 i = 9 := ja_at h 0 rfl rfl rfl
theorem ja34_0 {i : Int} (h : 0 ≤ i ∧ i ≤ 4) : ja 34 i = 9 := ja_at h 0 rfl rfl rfl
theorem ja35_0 {i : Int} (h : 0 ≤ i ∧ i ≤ 4) : ja 35 i = 9 := ja_at h 0 rfl rfl rfl
theorem ja36_0 {i : Int} (h : 0 ≤ i ∧ i ≤ 4) : ja 36 i = 9 := ja_at h 0 rfl rfl rfl
theorem ja37_0 {i : Int} (h : 0 ≤ i ∧ i ≤ 1) : ja 37 i = 6 := ja_at h 0 rfl rfl rfl
theorem ja38_0 {i : Int} (h : 0 ≤ i ∧ i ≤ 119) : ja 38 i = 6 := ja_at h 0 rfl rfl rfl
theorem ja39_0 {i : Int} (h : 0 ≤ i ∧ i ≤ 4) : ja 39 i = 4 := ja_at h 0 rfl rfl rfl
theorem ja40_0 {i : Int} (h : 0 ≤ i ∧ i ≤ 4) : ja 40 i = 14 := ja_at h 0 rfl rfl rfl
theorem ja41_0 {i : Int} (h : 0 ≤ i ∧ i ≤ 2) : ja 41 i = 19 := ja_at h 0 rfl rfl rfl
theorem ja41_3 : ja 41 3 = 15 := ja_at (show (3 : Int) ≤ 3 ∧ (3 : Int) ≤ 3 by omega) 1 rfl rfl rfl
theorem ja41_4 {i : Int} (h : 4 ≤ i ∧ i ≤ 5) : ja 41 i = 16 := ja_at h 2 rfl rfl rfl
theorem ja41_6 {i : Int} (h : 6 ≤ i ∧ i ≤ 10) : ja 41 i = 19 := ja_at h 3 rfl rfl rfl
theorem ja42_0 {i : Int} (h : 0 ≤ i ∧ i ≤ 299) : ja 42 i = 15 := ja_at h 0 rfl rfl rfl
theorem ja43_0 {i : Int} (h : 0 ≤ i ∧ i ≤ 3) : ja 43 i = 19 := ja_at h 0 rfl rfl rfl
theorem ja44_0 {i : Int} (h : 0 ≤ i ∧ i ≤ 2) : ja 44 i = 39 := ja_at h 0 rfl rfl rfl
theorem ja44_3 : ja 44 3 = 34 := ja_at (show (3 : Int) ≤ 3 ∧ (3 : Int) ≤ 3 by omega) 1 rfl rfl rfl
theorem ja44_4 : ja 44 4 = 39 := ja_at (show (4 : Int) ≤ 4 ∧ (4 : Int) ≤ 4 by omega) 2 rfl rfl rfl
theorem ja44_5 : ja 44 5 = 35 := ja_at (show (5 : Int) ≤ 5 ∧ (5 : Int) ≤ 5 by omega) 3 rfl rfl rfl
theorem ja44_6 {i : Int} (h : 6 ≤ i ∧ i ≤ 7) : ja 44 i = 36 := ja_at h 4 rfl rfl rfl
theorem ja44_8 {i : Int} (h : 8 ≤ i ∧ i ≤ 14) : ja 44 i = 39 := ja_at h 5 rfl rfl rfl
theorem ja45_0 : ja 45 0 = 31 := ja_at (show (0 : Int) ≤ 0 ∧ (0 : Int) ≤ 0 by omega) 0 rfl rfl rfl
theorem ja45_1 {i : Int} (h : 1 ≤ i ∧ i ≤ 3) : ja 45 i = 22 := ja_at h 1 rfl rfl rfl
theorem ja45_4 {i : Int} (h : 4 ≤ i ∧ i ≤ 9) : ja 45 i = 23 := ja_at h 2 rfl rfl rfl
theorem ja45_10 {i : Int} (h : 10 ≤ i ∧ i ≤ 12) : ja 45 i = 32 := ja_at h 3 rfl rfl rfl
theorem ja45_13 {i : Int} (h : 13 ≤ i ∧ i ≤ 15) : ja 45 i = 33 := ja_at h 4 rfl rfl rfl
theorem ja45_16 : ja 45 16 = 26 := ja_at (show (16 : Int) ≤ 16 ∧ (16 : Int) ≤ 16 by omega) 5 rfl rfl rfl
theorem ja45_17 : ja 45 17 = 27 := ja_at (show (17 : Int) ≤ 17 ∧ (17 : Int) ≤ 17 by omega) 6 rfl rfl rfl
theorem ja45_18 : ja 45 18 = 25 := ja_at (show (18 : Int) ≤ 18 ∧ (18 : Int) ≤ 18 by omega) 7 rfl rfl rfl
theorem ja45_19 {i : Int} (h : 19 ≤ i ∧ i ≤ 20) : ja 45 i = 28 := ja_at h 8 rfl rfl rfl
theorem ja45_21 {i : Int} (h : 21 ≤ i ∧ i ≤ 27) : ja 45 i = 27 := ja_at h 9 rfl rfl rfl
theorem ja45_28 {i : Int} (h : 28 ≤ i ∧ i ≤ 31) : ja 45 i = 23 := ja_at h 10 rfl rfl rfl
theorem ja45_32 {i : Int} (h : 32 ≤ i ∧ i ≤ 39) : ja 45 i = 28 := ja_at h 11 rfl rfl rfl
theorem ja45_40 {i : Int} (h : 40 ≤ i ∧ i ≤ 59) : ja 45 i = 29 := ja_at h 12 rfl rfl rfl
theorem ja45_60 {i : Int} (h : 60 ≤ i ∧ i ≤ 94) : ja 45 i = 30 := ja_at h 13 rfl rfl rfl
theorem ja45_95 {i : Int} (h : 95 ≤ i ∧ i ≤ 286) : ja 45 i = 22 := ja_at h 14 rfl rfl rfl
theorem ja45_287 {i : Int} (h : 287 ≤ i ∧ i ≤ 787) : ja 45 i = 21 := ja_at h 15 rfl rfl rfl
theorem ja45_788 {i : Int} (h : 788 ≤ i ∧ i ≤ 1171) : ja 45 i = 27 := ja_at h 16 rfl rfl rfl
theorem ja45_1172 {i : Int} (h : 1172 ≤ i ∧ i ≤ 1486) : ja 45 i = 25 := ja_at h 17 rfl rfl rfl
theorem ja45_1487 {i : Int} (h : 1487 ≤ i ∧ i ≤ 1606) : ja 45 i = 26 := ja_at h 18 rfl rfl rfl
theorem ja45_1607 {i : Int} (h : 1607 ≤ i ∧ i ≤ 1610) : ja 45 i = 27 := ja_at h 19 rfl rfl rfl
theorem ja45_1611 {i : Int} (h : 1611 ≤ i ∧ i ≤ 1613) : ja 45 i = 23 := ja_at h 20 rfl rfl rfl
theorem ja45_1614 {i : Int} (h : 1614 ≤ i ∧ i ≤ 1618) : ja 45 i = 24 := ja_at h 21 rfl rfl rfl
theorem ja46_0 {i : Int} (h : 0 ≤ i ∧ i ≤ 1618) : ja 46 i = 38 := ja_at h 0 rfl rfl rfl
theorem ja47_0 {i : Int} (h : 0 ≤ i ∧ i ≤ 1618) : ja 47 i = 37 := ja_at h 0 rfl rfl rfl
theorem ja48_0 {i : Int} (h : 0 ≤ i ∧ i ≤ 299) : ja 48 i = 35 := ja_at h 0 rfl rfl rfl
theorem ja49_0 {i : Int} (h : 0 ≤ i ∧ i ≤ 7) : ja 49 i = 39 := ja_at h 0 rfl rfl rfl
theorem ja50_0 {i : Int} (h : 0 ≤ i ∧ i ≤ 3) : ja 50 i = 39 := ja_at h 0 rfl rfl rfl
end
section
/-! The two constructors, run over the cells by the kernel; what the cells are behind them. -/
def kS : xZ := sZ (13, fun i => sA1.getD i 0)
def kU (c : Option xR) : List xC := match c with
  | some r => r.2
  | none => []
def kK (n : Nat) (c : Option xR) : Bool := match c with
  | some (none, u) => u.length == n
  | _ => false
theorem kK_e {n : Nat} {c : Option xR} (h : kK n c = true) : c = some (none, kU c) ∧ (kU c).length = n := by
  unfold kK at h
  split at h
  · rename_i u
    exact ⟨rfl, (show u.length = n by simpa using h)⟩
  · cases h
noncomputable def kc1 : Option xR := x_exec kS pDf pP 20000 1999 0 0 [(0, .ref 8)] [] [.inr (11, pDf 11)]
noncomputable def ku1 : List xC := kU kc1
noncomputable def kok1 : Bool := kK 108 kc1
end
section
noncomputable def kc2 : Option xR := x_exec kS pDf pP 20000 1999 201 0 [(0, .ref 116)] [] (ku1 ++ [.inr (12, pDf 12)])
noncomputable def ku2 : List xC := kU kc2
noncomputable def kok2 : Bool := kK 115 kc2
end
