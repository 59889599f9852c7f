theorem w10_all {S : zS} {m0 m m1 : zM} {B i x : Int} {g : Nat} (h : J S m0 B m) (hm : m1 = z_upd m g 10 i x) (hi : 0 ≤ i ∧ i ≤ 12) (hx : 0 ≤ x ∧ x ≤ 1000000) (h5 : i = 5 → 1 ≤ x ∧ x ≤ 6) (hf : ¬ S.1 3) (hg : ¬ S.2.1 g) : J S m0 B m1 := by
  by_cases h1 : i ≤ 4
  · exact w10_0 h hm (by omega) (by omega) hf hg
  · by_cases h2 : i = 5
    · rw [h2] at hm
      exact w10_5 h hm (h5 h2) hf hg
    · exact w10_6 h hm (by omega) (by omega) hf hg
