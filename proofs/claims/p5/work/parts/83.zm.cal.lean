/-! A calendar in effect: prices. -/
theorem WN.pt {c c' : Nat → Int → Int} {w w' : Int → Int} (h : WN c w) (hb : WB w) (h20 : c' 20 = c 20) (h21 : c' 21 = c 21) (e : ∀ i, (1 ≤ i ∧ i ≤ 3) ∨ (191 ≤ i ∧ i ≤ 286) → w' i = w i) : WN c' w' := by
  obtain ⟨p0, p1, q0, q1, -⟩ := hb
  obtain ⟨x1, x2⟩ := h
  refine ⟨by rw [e 1 (by omega), e 2 (by omega), e 3 (by omega)]; exact x1, fun k z0 z1 => ?_⟩
  rw [e 3 (by omega)] at z1
  have m0 : 0 ≤ k % w 1 := Int.emod_nonneg _ (by omega)
  have m1 : k % w 1 < w 1 := Int.emod_lt_of_pos _ (by omega)
  have d0 : 0 ≤ k / w 1 := Int.ediv_nonneg z0 (by omega)
  rw [Int.mul_comm] at x1
  have d1 : k / w 1 < w 2 := Int.ediv_lt_of_lt_mul (by omega) (by omega)
  rw [h20, h21, e 1 (by omega), e _ (by omega), e _ (by omega)]
  exact x2 k z0 z1
theorem calendar_G {c r : zM} {B A Z : Int} (hc : OM B c) (hr : OM B r) (hB : B + 1 ≤ 1000000000) (hs : SE B (c 0) (r 4 45)) (ht : TA c r) (h : MG A Z (c 0) (r 4 45)) (hn : WN (c 0) (r 4 45)) (hI : BI (c 0) (r 4 45)) :
    MG A Z ((f90_1 c).2 0) ((f260_1 r).2 4 45) ∧ WN ((f90_1 c).2 0) ((f260_1 r).2 4 45) ∧ BI ((f90_1 c).2 0) ((f260_1 r).2 4 45) := by
  obtain ⟨-, -, g3, -, -, g6, g7, g8, g9⟩ := calendar_T hc hr hB hs h.2.2.1 ht
  obtain ⟨hMV, ⟨w1, w2, w3, w4, w5⟩, -, hCB, hsh, hp⟩ := id h
  have kk : ∀ k, (k < 10 ∨ 18 < k) → k ≠ 39 → (f90_1 c).2 0 k = c 0 k := fun k h1 h2 => funext fun i => g7 k i h1 h2
  obtain ⟨m1, em1⟩ : ∃ x, x = (f90_1 c).2 := ⟨_, rfl⟩
  obtain ⟨r1, er1⟩ : ∃ x, x = (f260_1 r).2 := ⟨_, rfl⟩
  rw [← em1] at g3 g6 g8 kk ⊢
  rw [← er1] at g3 g6 g9 ⊢
  have ww : ∀ i, 0 ≤ i → i < 1618 → (i < 28 ∨ 31 < i) → (i < 287 ∨ 787 < i) → r1 4 45 i = r 4 45 i := g9
  obtain ⟨a0, a1, a2, a3, a4, a5, a6, a7, a8, a9, a10⟩ := w4
  have st : ST (m1 0) (r1 4 45) := by
    unfold ST
    rw [g8 0 (by omega), g8 1 (by omega), g8 2 (by omega), g8 3 (by omega), g8 4 (by omega), g8 5 (by omega), g8 10 (by omega), g8 11 (by omega), g8 12 (by omega), ww 4 (by omega) (by omega) (by omega) (by omega), ww 5 (by omega) (by omega) (by omega) (by omega), ww 6 (by omega) (by omega) (by omega) (by omega), ww 7 (by omega) (by omega) (by omega) (by omega), ww 8 (by omega) (by omega) (by omega) (by omega), ww 9 (by omega) (by omega) (by omega) (by omega), ww 1611 (by omega) (by omega) (by omega) (by omega), ww 1612 (by omega) (by omega) (by omega) (by omega), ww 1613 (by omega) (by omega) (by omega) (by omega)]
    exact ⟨a0, a1, a2, a3, a4, a5, g6 a6, a7, a8, a9, a10⟩
  have wb : WB (r1 4 45) := w5.pt (fun i hi => ww i (by omega) (by omega) (by omega) (by omega))
  refine ⟨MG.of ?_ ⟨?_, ?_, ?_⟩ (hMV.o.pt (fun i _ _ => by rw [kk 8 (by omega) (by omega)]) (fun i i0 i1 => ww i (by omega) (by omega) (by omega) (by omega))) (hMV.r.pt (kk 24 (by omega) (by omega)) (fun i i0 i1 => ww i (by omega) (by omega) (by omega) (by omega))) (hMV.k.pt (fun k k0 k1 => kk k (by omega) (by omega)) (fun i i0 i1 => ww i (by omega) (by omega) (by omega) (by omega))) (hMV.l.pt (fun k hk => kk k (by omega) (by omega)) (fun i hi => ww i (by omega) (by omega) (by omega) (by omega))) (hMV.d.pt (fun k k0 k1 => kk k (by omega) (by omega)) (fun i hi => ww i (by omega) (by omega) (by omega) (by omega))) (hMV.ld.pt (fun i _ _ => by rw [kk 27 (by omega) (by omega)]) (kk 28 (by omega) (by omega)) (kk 29 (by omega) (by omega)) (fun i hi => ww i (by omega) (by omega) (by omega) (by omega))) ?_ ⟨?_, ?_, w3.pt w5 (fun i => by rw [kk 22 (by omega) (by omega)]) ?_ (fun i hi => ww i (by omega) (by omega) (by omega) (by omega)), st, wb⟩ g3 (hCB.pt (fun k hk => kk k (by omega) (by omega))) ?_ ?_, hn.pt w5 (kk 20 (by omega) (by omega)) (kk 21 (by omega) (by omega)) (fun i hi => ww i (by omega) (by omega) (by omega) (by omega)), hI.pt (by rw [kk 23 (by omega) (by omega)]) (fun i _ _ => by rw [kk 25 (by omega) (by omega)]) (fun i _ _ => by rw [kk 26 (by omega) (by omega)]) (fun i hi => ww i (by omega) (by omega) (by omega) (by omega))⟩
  · rw [ww 0 (by omega) (by omega) (by omega) (by omega), kk 8 (by omega) (by omega)]
    exact hMV.t
  · rw [ww 13 (by omega) (by omega) (by omega) (by omega), kk 8 (by omega) (by omega)]
    exact hMV.n.1
  · rw [ww 14 (by omega) (by omega) (by omega) (by omega), kk 8 (by omega) (by omega)]
    exact hMV.n.2.1
  · rw [ww 15 (by omega) (by omega) (by omega) (by omega), kk 8 (by omega) (by omega)]
    exact hMV.n.2.2
  · unfold OD
    rw [ww 21 (by omega) (by omega) (by omega) (by omega), ww 8 (by omega) (by omega) (by omega) (by omega), kk 27 (by omega) (by omega)]
    exact hMV.od
  · rw [ww 1 (by omega) (by omega) (by omega) (by omega), kk 19 (by omega) (by omega)]
    exact w1
  · rw [ww 2 (by omega) (by omega) (by omega) (by omega), kk 19 (by omega) (by omega)]
    exact w2
  · rw [kk 19 (by omega) (by omega)]
  · rw [kk 8 (by omega) (by omega)]
    exact hsh
  · rw [kk 8 (by omega) (by omega)]
    exact hp
