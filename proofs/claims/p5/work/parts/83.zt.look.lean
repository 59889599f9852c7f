/-! What look answers. -/
theorem ite_e {p : Prop} [Decidable p] {x y z : Int} (h1 : p → x = z) (h2 : ¬ p → y = z) : (if p then x else y) = z := by
  by_cases hp : p
  · rw [if_pos hp]
    exact h1 hp
  · rw [if_neg hp]
    exact h2 hp
theorem look_n {c : zM} {a : Int} (ha : a < 0 ∨ 57 < a) : f196_1 a c = f315_1 a c := by
  have e1 : f196_1 a c = -10000000000 := by
    unfold f196_1 f197_1 f198_1 f199_1 f200_1
    simp only [zn_a]
    by_cases h0 : a < 0
    · rw [if_neg (show ¬ 0 ≤ a by omega)]
    · rw [if_pos (show 0 ≤ a by omega), if_pos (show 7 < a by omega), if_pos (show 15 < a by omega), if_neg (show ¬ a < 40 by omega), if_pos (show 43 < a by omega), if_neg (show ¬ a < 53 by omega), if_neg (show ¬ a = 53 by omega), if_neg (show ¬ a = 54 by omega), if_neg (show ¬ a = 55 by omega), if_neg (show ¬ a = 56 by omega), if_neg (show ¬ a = 57 by omega)]
  have e2 : f315_1 a c = -10000000000 := by
    unfold f315_1
    simp only [zn_a]
    repeat' (refine ite_e (fun _ => ?_) (fun _ => ?_))
    all_goals first | (exfalso; omega) | rfl
  rw [e1, e2]
theorem an_look {c : zM} {B a : Int} (hc : OM B c) (hB : B ≤ 700000000) (h : Rel3 B c c) : f196_1 a c = f315_1 a c := by
  have h2 := h.1
  have hg := h.2.1.1
  have hmv := hg.1
  obtain ⟨n13, n14, n15⟩ := hmv.n
  obtain ⟨o10, o11, o12⟩ := hmv.o
  have p11 := r8_11 hc.2.o 0
  have p12 := r8_12 hc.2.o 0
  obtain ⟨k1, k2, -⟩ := hmv.k
  have k8 : c 0 33 3 = f231_1 c := by rw [on_r k1]; exact k2
  have l16 := hmv.l.1
  have l17 := hmv.ld.1
  have b18 := h.2.1.2.2.1.1
  obtain ⟨w1, w2, w3⟩ := h2.1.2.1
  have cr := h2.1.2.2.2
  have tf : f27_1 0 (c 0 8 9) c = f217_1 (c 4 45 0) c := by
    rw [← h2.1.1]
    exact tf_eq cr (CB.of hc.2 0) (hc.t 0).1
  have sp : c 0 11 7 = f249_1 c := by
    rw [sps_eq]
    exact cr.2.2.2.2.2.symm
  obtain ⟨s0, s1, s2, s3, s4, s5, s6, s7, s8, s9, -⟩ := hg.2.1.2.2.2.1
  obtain ⟨e0, -, e2, e4, e3, -, -⟩ := h2.1.2.2.1
  have q39 := r39_0 hc.2.o 0
  have sn := cr.2.1.1
  have lk : f118_1 0 (c 0 8 9) c = f278_1 c := by
    unfold f118_1 f278_1
    rw [zn_a, e4, h2.1.1]
    split <;> omega
  have tl := h2.2.2.2.1.1
  by_cases hn : a < 0 ∨ 57 < a
  · exact look_n hn
  by_cases x0 : a = 0
  · rw [x0]
    simp only [zn_a, f196_1, f197_1, f198_1, f199_1, f200_1, f168_1, f76_1, f315_1, Int.reduceLE, Int.reduceLT, Int.reduceEq, Int.reduceAdd, Int.reduceSub, Int.reduceNeg, ↓reduceIte]
    exact h2.1.1
  by_cases x1 : a = 1
  · rw [x1]
    simp only [zn_a, f196_1, f197_1, f198_1, f199_1, f200_1, f168_1, f76_1, f315_1, Int.reduceLE, Int.reduceLT, Int.reduceEq, Int.reduceAdd, Int.reduceSub, Int.reduceNeg, ↓reduceIte]
    exact tf
  by_cases x2 : a = 2
  · rw [x2]
    simp only [zn_a, f196_1, f197_1, f198_1, f199_1, f200_1, f168_1, f76_1, f315_1, Int.reduceLE, Int.reduceLT, Int.reduceEq, Int.reduceAdd, Int.reduceSub, Int.reduceNeg, ↓reduceIte]
    exact o10.symm
  by_cases x3 : a = 3
  · rw [x3]
    simp only [zn_a, f196_1, f197_1, f198_1, f199_1, f200_1, f168_1, f76_1, f315_1, Int.reduceLE, Int.reduceLT, Int.reduceEq, Int.reduceAdd, Int.reduceSub, Int.reduceNeg, ↓reduceIte]
    rw [o11]
    split <;> omega
  by_cases x4 : a = 4
  · rw [x4]
    simp only [zn_a, f196_1, f197_1, f198_1, f199_1, f200_1, f168_1, f76_1, f315_1, Int.reduceLE, Int.reduceLT, Int.reduceEq, Int.reduceAdd, Int.reduceSub, Int.reduceNeg, ↓reduceIte]
    rw [o12]
    split <;> omega
  by_cases x5 : a = 5
  · rw [x5]
    simp only [zn_a, f196_1, f197_1, f198_1, f199_1, f200_1, f168_1, f76_1, f315_1, Int.reduceLE, Int.reduceLT, Int.reduceEq, Int.reduceAdd, Int.reduceSub, Int.reduceNeg, ↓reduceIte]
    exact n13.symm
  by_cases x6 : a = 6
  · rw [x6]
    simp only [zn_a, f196_1, f197_1, f198_1, f199_1, f200_1, f168_1, f76_1, f315_1, Int.reduceLE, Int.reduceLT, Int.reduceEq, Int.reduceAdd, Int.reduceSub, Int.reduceNeg, ↓reduceIte]
    exact n14.symm
  by_cases x7 : a = 7
  · rw [x7]
    simp only [zn_a, f196_1, f197_1, f198_1, f199_1, f200_1, f168_1, f76_1, f315_1, Int.reduceLE, Int.reduceLT, Int.reduceEq, Int.reduceAdd, Int.reduceSub, Int.reduceNeg, ↓reduceIte]
    exact n15.symm
  by_cases x8 : a = 8
  · rw [x8]
    simp only [zn_a, f196_1, f197_1, f198_1, f199_1, f200_1, f168_1, f76_1, f315_1, Int.reduceLE, Int.reduceLT, Int.reduceEq, Int.reduceAdd, Int.reduceSub, Int.reduceNeg, ↓reduceIte]
    exact k8
  by_cases x9 : a = 9
  · rw [x9]
    simp only [zn_a, f196_1, f197_1, f198_1, f199_1, f200_1, f168_1, f76_1, f315_1, Int.reduceLE, Int.reduceLT, Int.reduceEq, Int.reduceAdd, Int.reduceSub, Int.reduceNeg, ↓reduceIte]
    exact l16
  by_cases x10 : a = 10
  · rw [x10]
    simp only [zn_a, f196_1, f197_1, f198_1, f199_1, f200_1, f168_1, f76_1, f315_1, Int.reduceLE, Int.reduceLT, Int.reduceEq, Int.reduceAdd, Int.reduceSub, Int.reduceNeg, ↓reduceIte]
    exact l17
  by_cases x11 : a = 11
  · rw [x11]
    simp only [zn_a, f196_1, f197_1, f198_1, f199_1, f200_1, f168_1, f76_1, f315_1, Int.reduceLE, Int.reduceLT, Int.reduceEq, Int.reduceAdd, Int.reduceSub, Int.reduceNeg, ↓reduceIte]
    exact b18
  by_cases x12 : a = 12
  · rw [x12]
    simp only [zn_a, f196_1, f197_1, f198_1, f199_1, f200_1, f168_1, f76_1, f315_1, Int.reduceLE, Int.reduceLT, Int.reduceEq, Int.reduceAdd, Int.reduceSub, Int.reduceNeg, ↓reduceIte]
    exact w1
  by_cases x13 : a = 13
  · rw [x13]
    simp only [zn_a, f196_1, f197_1, f198_1, f199_1, f200_1, f168_1, f76_1, f315_1, Int.reduceLE, Int.reduceLT, Int.reduceEq, Int.reduceAdd, Int.reduceSub, Int.reduceNeg, ↓reduceIte]
    exact w2
  by_cases x14 : a = 14
  · rw [x14]
    simp only [zn_a, f196_1, f197_1, f198_1, f199_1, f200_1, f168_1, f76_1, f315_1, Int.reduceLE, Int.reduceLT, Int.reduceEq, Int.reduceAdd, Int.reduceSub, Int.reduceNeg, ↓reduceIte]
    exact w3
  by_cases x15 : a = 15
  · rw [x15]
    simp only [zn_a, f196_1, f197_1, f198_1, f199_1, f200_1, f168_1, f76_1, f315_1, Int.reduceLE, Int.reduceLT, Int.reduceEq, Int.reduceAdd, Int.reduceSub, Int.reduceNeg, ↓reduceIte]
    exact sp
  by_cases x16 : a = 16
  · rw [x16]
    simp only [zn_a, f196_1, f197_1, f198_1, f199_1, f200_1, f168_1, f76_1, f315_1, Int.reduceLE, Int.reduceLT, Int.reduceEq, Int.reduceAdd, Int.reduceSub, Int.reduceNeg, ↓reduceIte]
  by_cases x17 : a = 17
  · rw [x17]
    simp only [zn_a, f196_1, f197_1, f198_1, f199_1, f200_1, f168_1, f76_1, f315_1, Int.reduceLE, Int.reduceLT, Int.reduceEq, Int.reduceAdd, Int.reduceSub, Int.reduceNeg, ↓reduceIte]
  by_cases x18 : a = 18
  · rw [x18]
    simp only [zn_a, f196_1, f197_1, f198_1, f199_1, f200_1, f168_1, f76_1, f315_1, Int.reduceLE, Int.reduceLT, Int.reduceEq, Int.reduceAdd, Int.reduceSub, Int.reduceNeg, ↓reduceIte]
  by_cases x19 : a = 19
  · rw [x19]
    simp only [zn_a, f196_1, f197_1, f198_1, f199_1, f200_1, f168_1, f76_1, f315_1, Int.reduceLE, Int.reduceLT, Int.reduceEq, Int.reduceAdd, Int.reduceSub, Int.reduceNeg, ↓reduceIte]
  by_cases x20 : a = 20
  · rw [x20]
    simp only [zn_a, f196_1, f197_1, f198_1, f199_1, f200_1, f168_1, f76_1, f315_1, Int.reduceLE, Int.reduceLT, Int.reduceEq, Int.reduceAdd, Int.reduceSub, Int.reduceNeg, ↓reduceIte]
    exact s0
  by_cases x21 : a = 21
  · rw [x21]
    simp only [zn_a, f196_1, f197_1, f198_1, f199_1, f200_1, f168_1, f76_1, f315_1, Int.reduceLE, Int.reduceLT, Int.reduceEq, Int.reduceAdd, Int.reduceSub, Int.reduceNeg, ↓reduceIte]
    exact s1
  by_cases x22 : a = 22
  · rw [x22]
    simp only [zn_a, f196_1, f197_1, f198_1, f199_1, f200_1, f168_1, f76_1, f315_1, Int.reduceLE, Int.reduceLT, Int.reduceEq, Int.reduceAdd, Int.reduceSub, Int.reduceNeg, ↓reduceIte]
    exact s2
  by_cases x23 : a = 23
  · rw [x23]
    simp only [zn_a, f196_1, f197_1, f198_1, f199_1, f200_1, f168_1, f76_1, f315_1, Int.reduceLE, Int.reduceLT, Int.reduceEq, Int.reduceAdd, Int.reduceSub, Int.reduceNeg, ↓reduceIte]
    exact s3
  by_cases x24 : a = 24
  · rw [x24]
    simp only [zn_a, f196_1, f197_1, f198_1, f199_1, f200_1, f168_1, f76_1, f315_1, Int.reduceLE, Int.reduceLT, Int.reduceEq, Int.reduceAdd, Int.reduceSub, Int.reduceNeg, ↓reduceIte]
    exact s4
  by_cases x25 : a = 25
  · rw [x25]
    simp only [zn_a, f196_1, f197_1, f198_1, f199_1, f200_1, f168_1, f76_1, f315_1, Int.reduceLE, Int.reduceLT, Int.reduceEq, Int.reduceAdd, Int.reduceSub, Int.reduceNeg, ↓reduceIte]
    exact s5
  by_cases x26 : a = 26
  · rw [x26]
    simp only [zn_a, f196_1, f197_1, f198_1, f199_1, f200_1, f168_1, f76_1, f315_1, Int.reduceLE, Int.reduceLT, Int.reduceEq, Int.reduceAdd, Int.reduceSub, Int.reduceNeg, ↓reduceIte]
  by_cases x27 : a = 27
  · rw [x27]
    simp only [zn_a, f196_1, f197_1, f198_1, f199_1, f200_1, f168_1, f76_1, f315_1, Int.reduceLE, Int.reduceLT, Int.reduceEq, Int.reduceAdd, Int.reduceSub, Int.reduceNeg, ↓reduceIte]
  by_cases x28 : a = 28
  · rw [x28]
    simp only [zn_a, f196_1, f197_1, f198_1, f199_1, f200_1, f168_1, f76_1, f315_1, Int.reduceLE, Int.reduceLT, Int.reduceEq, Int.reduceAdd, Int.reduceSub, Int.reduceNeg, ↓reduceIte]
  by_cases x29 : a = 29
  · rw [x29]
    simp only [zn_a, f196_1, f197_1, f198_1, f199_1, f200_1, f168_1, f76_1, f315_1, Int.reduceLE, Int.reduceLT, Int.reduceEq, Int.reduceAdd, Int.reduceSub, Int.reduceNeg, ↓reduceIte]
  by_cases x30 : a = 30
  · rw [x30]
    simp only [zn_a, f196_1, f197_1, f198_1, f199_1, f200_1, f168_1, f76_1, f315_1, Int.reduceLE, Int.reduceLT, Int.reduceEq, Int.reduceAdd, Int.reduceSub, Int.reduceNeg, ↓reduceIte]
    exact s6 0 (by omega) (by omega)
  by_cases x31 : a = 31
  · rw [x31]
    simp only [zn_a, f196_1, f197_1, f198_1, f199_1, f200_1, f168_1, f76_1, f315_1, Int.reduceLE, Int.reduceLT, Int.reduceEq, Int.reduceAdd, Int.reduceSub, Int.reduceNeg, ↓reduceIte]
    exact s6 1 (by omega) (by omega)
  by_cases x32 : a = 32
  · rw [x32]
    simp only [zn_a, f196_1, f197_1, f198_1, f199_1, f200_1, f168_1, f76_1, f315_1, Int.reduceLE, Int.reduceLT, Int.reduceEq, Int.reduceAdd, Int.reduceSub, Int.reduceNeg, ↓reduceIte]
    exact s6 2 (by omega) (by omega)
  by_cases x33 : a = 33
  · rw [x33]
    simp only [zn_a, f196_1, f197_1, f198_1, f199_1, f200_1, f168_1, f76_1, f315_1, Int.reduceLE, Int.reduceLT, Int.reduceEq, Int.reduceAdd, Int.reduceSub, Int.reduceNeg, ↓reduceIte]
    exact s6 3 (by omega) (by omega)
  by_cases x34 : a = 34
  · rw [x34]
    simp only [zn_a, f196_1, f197_1, f198_1, f199_1, f200_1, f168_1, f76_1, f315_1, Int.reduceLE, Int.reduceLT, Int.reduceEq, Int.reduceAdd, Int.reduceSub, Int.reduceNeg, ↓reduceIte]
  by_cases x35 : a = 35
  · rw [x35]
    simp only [zn_a, f196_1, f197_1, f198_1, f199_1, f200_1, f168_1, f76_1, f315_1, Int.reduceLE, Int.reduceLT, Int.reduceEq, Int.reduceAdd, Int.reduceSub, Int.reduceNeg, ↓reduceIte]
  by_cases x36 : a = 36
  · rw [x36]
    simp only [zn_a, f196_1, f197_1, f198_1, f199_1, f200_1, f168_1, f76_1, f315_1, Int.reduceLE, Int.reduceLT, Int.reduceEq, Int.reduceAdd, Int.reduceSub, Int.reduceNeg, ↓reduceIte]
  by_cases x37 : a = 37
  · rw [x37]
    simp only [zn_a, f196_1, f197_1, f198_1, f199_1, f200_1, f168_1, f76_1, f315_1, Int.reduceLE, Int.reduceLT, Int.reduceEq, Int.reduceAdd, Int.reduceSub, Int.reduceNeg, ↓reduceIte]
  by_cases x38 : a = 38
  · rw [x38]
    simp only [zn_a, f196_1, f197_1, f198_1, f199_1, f200_1, f168_1, f76_1, f315_1, Int.reduceLE, Int.reduceLT, Int.reduceEq, Int.reduceAdd, Int.reduceSub, Int.reduceNeg, ↓reduceIte]
  by_cases x39 : a = 39
  · rw [x39]
    simp only [zn_a, f196_1, f197_1, f198_1, f199_1, f200_1, f168_1, f76_1, f315_1, Int.reduceLE, Int.reduceLT, Int.reduceEq, Int.reduceAdd, Int.reduceSub, Int.reduceNeg, ↓reduceIte]
  by_cases x40 : a = 40
  · rw [x40]
    simp only [zn_a, f196_1, f197_1, f198_1, f199_1, f200_1, f168_1, f76_1, f315_1, Int.reduceLE, Int.reduceLT, Int.reduceEq, Int.reduceAdd, Int.reduceSub, Int.reduceNeg, ↓reduceIte]
    exact sn 0 (by omega) (by omega)
  by_cases x41 : a = 41
  · rw [x41]
    simp only [zn_a, f196_1, f197_1, f198_1, f199_1, f200_1, f168_1, f76_1, f315_1, Int.reduceLE, Int.reduceLT, Int.reduceEq, Int.reduceAdd, Int.reduceSub, Int.reduceNeg, ↓reduceIte]
    exact sn 1 (by omega) (by omega)
  by_cases x42 : a = 42
  · rw [x42]
    simp only [zn_a, f196_1, f197_1, f198_1, f199_1, f200_1, f168_1, f76_1, f315_1, Int.reduceLE, Int.reduceLT, Int.reduceEq, Int.reduceAdd, Int.reduceSub, Int.reduceNeg, ↓reduceIte]
    exact sn 2 (by omega) (by omega)
  by_cases x43 : a = 43
  · rw [x43]
    simp only [zn_a, f196_1, f197_1, f198_1, f199_1, f200_1, f168_1, f76_1, f315_1, Int.reduceLE, Int.reduceLT, Int.reduceEq, Int.reduceAdd, Int.reduceSub, Int.reduceNeg, ↓reduceIte]
    exact sn 3 (by omega) (by omega)
  by_cases x44 : a = 44
  · rw [x44]
    simp only [zn_a, f196_1, f197_1, f198_1, f199_1, f200_1, f168_1, f76_1, f315_1, Int.reduceLE, Int.reduceLT, Int.reduceEq, Int.reduceAdd, Int.reduceSub, Int.reduceNeg, ↓reduceIte]
  by_cases x45 : a = 45
  · rw [x45]
    simp only [zn_a, f196_1, f197_1, f198_1, f199_1, f200_1, f168_1, f76_1, f315_1, Int.reduceLE, Int.reduceLT, Int.reduceEq, Int.reduceAdd, Int.reduceSub, Int.reduceNeg, ↓reduceIte]
  by_cases x46 : a = 46
  · rw [x46]
    simp only [zn_a, f196_1, f197_1, f198_1, f199_1, f200_1, f168_1, f76_1, f315_1, Int.reduceLE, Int.reduceLT, Int.reduceEq, Int.reduceAdd, Int.reduceSub, Int.reduceNeg, ↓reduceIte]
  by_cases x47 : a = 47
  · rw [x47]
    simp only [zn_a, f196_1, f197_1, f198_1, f199_1, f200_1, f168_1, f76_1, f315_1, Int.reduceLE, Int.reduceLT, Int.reduceEq, Int.reduceAdd, Int.reduceSub, Int.reduceNeg, ↓reduceIte]
  by_cases x48 : a = 48
  · rw [x48]
    simp only [zn_a, f196_1, f197_1, f198_1, f199_1, f200_1, f168_1, f76_1, f315_1, Int.reduceLE, Int.reduceLT, Int.reduceEq, Int.reduceAdd, Int.reduceSub, Int.reduceNeg, ↓reduceIte]
  by_cases x49 : a = 49
  · rw [x49]
    simp only [zn_a, f196_1, f197_1, f198_1, f199_1, f200_1, f168_1, f76_1, f315_1, Int.reduceLE, Int.reduceLT, Int.reduceEq, Int.reduceAdd, Int.reduceSub, Int.reduceNeg, ↓reduceIte]
  by_cases x50 : a = 50
  · rw [x50]
    simp only [zn_a, f196_1, f197_1, f198_1, f199_1, f200_1, f168_1, f76_1, f315_1, Int.reduceLE, Int.reduceLT, Int.reduceEq, Int.reduceAdd, Int.reduceSub, Int.reduceNeg, ↓reduceIte]
    exact s7
  by_cases x51 : a = 51
  · rw [x51]
    simp only [zn_a, f196_1, f197_1, f198_1, f199_1, f200_1, f168_1, f76_1, f315_1, Int.reduceLE, Int.reduceLT, Int.reduceEq, Int.reduceAdd, Int.reduceSub, Int.reduceNeg, ↓reduceIte]
    exact s8
  by_cases x52 : a = 52
  · rw [x52]
    simp only [zn_a, f196_1, f197_1, f198_1, f199_1, f200_1, f168_1, f76_1, f315_1, Int.reduceLE, Int.reduceLT, Int.reduceEq, Int.reduceAdd, Int.reduceSub, Int.reduceNeg, ↓reduceIte]
    exact s9
  by_cases x53 : a = 53
  · rw [x53]
    simp only [zn_a, f196_1, f197_1, f198_1, f199_1, f200_1, f168_1, f76_1, f315_1, Int.reduceLE, Int.reduceLT, Int.reduceEq, Int.reduceAdd, Int.reduceSub, Int.reduceNeg, ↓reduceIte]
    rw [← e0]
    split <;> omega
  by_cases x54 : a = 54
  · rw [x54]
    simp only [zn_a, f196_1, f197_1, f198_1, f199_1, f200_1, f168_1, f76_1, f315_1, Int.reduceLE, Int.reduceLT, Int.reduceEq, Int.reduceAdd, Int.reduceSub, Int.reduceNeg, ↓reduceIte]
    exact e2
  by_cases x55 : a = 55
  · rw [x55]
    simp only [zn_a, f196_1, f197_1, f198_1, f199_1, f200_1, f168_1, f76_1, f315_1, Int.reduceLE, Int.reduceLT, Int.reduceEq, Int.reduceAdd, Int.reduceSub, Int.reduceNeg, ↓reduceIte]
    exact lk
  by_cases x56 : a = 56
  · rw [x56]
    simp only [zn_a, f196_1, f197_1, f198_1, f199_1, f200_1, f168_1, f76_1, f315_1, Int.reduceLE, Int.reduceLT, Int.reduceEq, Int.reduceAdd, Int.reduceSub, Int.reduceNeg, ↓reduceIte]
    exact e3
  by_cases x57 : a = 57
  · rw [x57]
    simp only [zn_a, f196_1, f197_1, f198_1, f199_1, f200_1, f168_1, f76_1, f315_1, Int.reduceLE, Int.reduceLT, Int.reduceEq, Int.reduceAdd, Int.reduceSub, Int.reduceNeg, ↓reduceIte]
    exact tl
  exfalso
  omega
