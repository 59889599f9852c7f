theorem kRel_t : kRel3 (mIni ku2) = true := by decide +kernel
theorem mIni_rel : Rel3 0 (mIni ku2) (mIni ku2) := kRel3_ok kRel_t
theorem kZZ_t : kZZ (mIni ku2) = true := by decide +kernel
theorem kfacts : ∃ (U1 U2 : List xC), x_exec kS pDf pP 20000 1999 0 0 (lv_args 0 [.ref 8]) [] kx1 = some (none, U1) ∧ U1.length = 108 ∧ U1.all kNor1 = true ∧ x_sz U1 ≤ 7302250 ∧ x_exec kS pDf pP 20000 1999 201 0 (lv_args 0 [.ref 116]) [] (U1 ++ [Sum.inr (12, pDf 12)]) = some (none, U2) ∧ U2.length = 115 ∧ U2.all kNor1 = true ∧ x_sz U2 ≤ 7302250 ∧ x_sz (U1 ++ [Sum.inr (12, pDf 12)]) ≤ 7302250 ∧ z_u lL (mIni U2) = U2 ∧ z_mok lL (mIni U2) ∧ JB 0 (mIni U2) ∧ Rel3 0 (mIni U2) (mIni U2) ∧ ZZ (mIni U2) :=
  ⟨ku1, ku2, kc1_e.1, kc1_e.2, kn1, ks1, kc2_e.1, kc2_e.2, kn2, ks2, ksx, (kAll_ok kAll_t).1, (kAll_ok kAll_t).2, mIni_JB kFlag_t, mIni_rel, kZZ_ok kZZ_t⟩
