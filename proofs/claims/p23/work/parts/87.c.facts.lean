def kx1 : List xC := [.inr (11, pDf 11)]
noncomputable def kx2 : List xC := ku1 ++ [.inr (12, pDf 12)]
theorem kxl : kx2.length = 109 := by
  unfold kx2
  rw [List.length_append, kc1_e.2]
  rfl
theorem ksx : x_sz kx2 ≤ 7302250 := by decide +kernel
set_option maxHeartbeats 4000000 in
set_option maxRecDepth 20000 in
theorem start_O {p : Program} {s : State} {m : MethodId} {meth : Method} {c : Code} {b L : Nat} {xs : Nat → Int32} (C0 : lw_At p s m meth c b L xs) : ∃ (fv : Value) (b0 : Nat → Nat), fv.category = 1 ∧ b0 0 = b ∧ x_O (osO fv) b0 s.heap.size (sZ (L, xs)) s s.heap := by
  obtain ⟨hx, hb, hr, hml, hown, hts, hX, hbl, hlocks, hgv, hmn⟩ := id C0
  have hs := flat_of_before _ hgv
  have hA : ∀ a : Nat, a < s.heap.size → ¬ (fun q : Nat => s.heap.size ≤ q) a := fun a h => Nat.not_le.mpr h
  obtain ⟨t1, ht1, hT1⟩ := va_Tof (tm := (Jvm.Term.static "WorkMeter$Settings" "AT_FIRST" "[I")) (ty := .int) (N := 13) (f := fun j => .int (sA1.getD j 0)) (A := fun q => s.heap.size ≤ q) (by decide) (hs _ (List.mem_of_getElem? (i := 5) rfl)) (va_eqt (hs _ (List.mem_of_getElem? (i := 6) rfl))) (fun j hj => by
    rcases (show j = 0 ∨ j = 1 ∨ j = 2 ∨ j = 3 ∨ j = 4 ∨ j = 5 ∨ j = 6 ∨ j = 7 ∨ j = 8 ∨ j = 9 ∨ j = 10 ∨ j = 11 ∨ j = 12 by omega) with rfl | rfl | rfl | rfl | rfl | rfl | rfl | rfl | rfl | rfl | rfl | rfl | rfl
    · exact va_eqt (hs _ (List.mem_of_getElem? (i := 7) rfl))
    · exact va_eqt (hs _ (List.mem_of_getElem? (i := 8) rfl))
    · exact va_eqt (hs _ (List.mem_of_getElem? (i := 9) rfl))
    · exact va_eqt (hs _ (List.mem_of_getElem? (i := 10) rfl))
    · exact va_eqt (hs _ (List.mem_of_getElem? (i := 11) rfl))
    · exact va_eqt (hs _ (List.mem_of_getElem? (i := 12) rfl))
    · exact va_eqt (hs _ (List.mem_of_getElem? (i := 13) rfl))
    · exact va_eqt (hs _ (List.mem_of_getElem? (i := 14) rfl))
    · exact va_eqt (hs _ (List.mem_of_getElem? (i := 15) rfl))
    · exact va_eqt (hs _ (List.mem_of_getElem? (i := 16) rfl))
    · exact va_eqt (hs _ (List.mem_of_getElem? (i := 17) rfl))
    · exact va_eqt (hs _ (List.mem_of_getElem? (i := 18) rfl))
    · exact va_eqt (hs _ (List.mem_of_getElem? (i := 19) rfl))) hA
  have hZ1 : va_Z "WorkMeter$Settings" "AT_FIRST" "[I" (.ref t1) (fun q => s.heap.size ≤ q) s s.heap := va_Zof (hts _ (List.mem_append_right _ (xv1 (i := 42) rfl))) (hts _ (List.mem_append_right _ (xv1 (i := 3) rfl))) ht1 hA
  obtain ⟨t2, ht2, hT2⟩ := va_Tof (tm := (Jvm.Term.static "WorkMeter$Settings" "LEAST" "[I")) (ty := .int) (N := 13) (f := fun j => .int (sA2.getD j 0)) (A := fun q => s.heap.size ≤ q) (by decide) (hs _ (List.mem_of_getElem? (i := 21) rfl)) (va_eqt (hs _ (List.mem_of_getElem? (i := 22) rfl))) (fun j hj => by
    rcases (show j = 0 ∨ j = 1 ∨ j = 2 ∨ j = 3 ∨ j = 4 ∨ j = 5 ∨ j = 6 ∨ j = 7 ∨ j = 8 ∨ j = 9 ∨ j = 10 ∨ j = 11 ∨ j = 12 by omega) with rfl | rfl | rfl | rfl | rfl | rfl | rfl | rfl | rfl | rfl | rfl | rfl | rfl
    · exact va_eqt (hs _ (List.mem_of_getElem? (i := 23) rfl))
    · exact va_eqt (hs _ (List.mem_of_getElem? (i := 24) rfl))
    · exact va_eqt (hs _ (List.mem_of_getElem? (i := 25) rfl))
    · exact va_eqt (hs _ (List.mem_of_getElem? (i := 26) rfl))
    · exact va_eqt (hs _ (List.mem_of_getElem? (i := 27) rfl))
    · exact va_eqt (hs _ (List.mem_of_getElem? (i := 28) rfl))
    · exact va_eqt (hs _ (List.mem_of_getElem? (i := 29) rfl))
    · exact va_eqt (hs _ (List.mem_of_getElem? (i := 30) rfl))
    · exact va_eqt (hs _ (List.mem_of_getElem? (i := 31) rfl))
    · exact va_eqt (hs _ (List.mem_of_getElem? (i := 32) rfl))
    · exact va_eqt (hs _ (List.mem_of_getElem? (i := 33) rfl))
    · exact va_eqt (hs _ (List.mem_of_getElem? (i := 34) rfl))
    · exact va_eqt (hs _ (List.mem_of_getElem? (i := 35) rfl))) hA
  have hZ2 : va_Z "WorkMeter$Settings" "LEAST" "[I" (.ref t2) (fun q => s.heap.size ≤ q) s s.heap := va_Zof (hts _ (List.mem_append_right _ (xv3 (i := 212) rfl))) (hts _ (List.mem_append_right _ (xv1 (i := 3) rfl))) ht2 hA
  obtain ⟨t3, ht3, hT3⟩ := va_Tof (tm := (Jvm.Term.static "WorkMeter$Settings" "MOST" "[I")) (ty := .int) (N := 13) (f := fun j => .int (sA3.getD j 0)) (A := fun q => s.heap.size ≤ q) (by decide) (hs _ (List.mem_of_getElem? (i := 37) rfl)) (va_eqt (hs _ (List.mem_of_getElem? (i := 38) rfl))) (fun j hj => by
    rcases (show j = 0 ∨ j = 1 ∨ j = 2 ∨ j = 3 ∨ j = 4 ∨ j = 5 ∨ j = 6 ∨ j = 7 ∨ j = 8 ∨ j = 9 ∨ j = 10 ∨ j = 11 ∨ j = 12 by omega) with rfl | rfl | rfl | rfl | rfl | rfl | rfl | rfl | rfl | rfl | rfl | rfl | rfl
    · exact va_eqt (hs _ (List.mem_of_getElem? (i := 39) rfl))
    · exact va_eqt (hs _ (List.mem_of_getElem? (i := 40) rfl))
    · exact va_eqt (hs _ (List.mem_of_getElem? (i := 41) rfl))
    · exact va_eqt (hs _ (List.mem_of_getElem? (i := 42) rfl))
    · exact va_eqt (hs _ (List.mem_of_getElem? (i := 43) rfl))
    · exact va_eqt (hs _ (List.mem_of_getElem? (i := 44) rfl))
    · exact va_eqt (hs _ (List.mem_of_getElem? (i := 45) rfl))
    · exact va_eqt (hs _ (List.mem_of_getElem? (i := 46) rfl))
    · exact va_eqt (hs _ (List.mem_of_getElem? (i := 47) rfl))
    · exact va_eqt (hs _ (List.mem_of_getElem? (i := 48) rfl))
    · exact va_eqt (hs _ (List.mem_of_getElem? (i := 49) rfl))
    · exact va_eqt (hs _ (List.mem_of_getElem? (i := 50) rfl))
    · exact va_eqt (hs _ (List.mem_of_getElem? (i := 51) rfl))) hA
  have hZ3 : va_Z "WorkMeter$Settings" "MOST" "[I" (.ref t3) (fun q => s.heap.size ≤ q) s s.heap := va_Zof (hts _ (List.mem_append_right _ (xv3 (i := 214) rfl))) (hts _ (List.mem_append_right _ (xv1 (i := 3) rfl))) ht3 hA
  have hZc : va_Z "java/lang/String" "COMPACT_STRINGS" "Z" (.int 1) (fun q => s.heap.size ≤ q) s s.heap := va_Zof (hts _ (List.mem_append_right _ (xv4 (i := 65) rfl))) (hts _ (List.mem_append_right _ (xv1 (i := 17) rfl))) (va_eqt (hs _ (List.mem_of_getElem? (i := 52) rfl))) hA
  obtain ⟨fv, hfe, hfr⟩ := Cond.isRef_spec (args := #[Value.ref b]) (first := s) (o := none) (s := s) (idx := []) (show (Jvm.Cond.isRef (Jvm.Term.static "jdk/internal/util/Preconditions" "SIOOBE_FORMATTER" "Ljava/util/function/BiFunction;")).before #[Value.ref b] s = true from hs _ (List.mem_of_getElem? (i := 53) rfl))
  have hfv : fv.category = 1 := by cases fv <;> first | rfl | cases hfr
  have hZf : va_Z "jdk/internal/util/Preconditions" "SIOOBE_FORMATTER" "Ljava/util/function/BiFunction;" fv (fun q => s.heap.size ≤ q) s s.heap := va_Zof (hts _ (List.mem_append_right _ (xv4 (i := 81) rfl))) (hts _ (List.mem_append_right _ (xv1 (i := 19) rfl))) hfe hA
  obtain ⟨adK, adV, hvS, hvE⟩ := vk_Sof (args := #[Value.ref b]) (s := s) (N := 4) (tm := xTm) (len := [5, 6, 7, 5]) (byt := [sW4, sW5, sW6, sW7]) (A := fun q => s.heap.size ≤ q)
    (fun i hi => by
      rcases (show i = 0 ∨ i = 1 ∨ i = 2 ∨ i = 3 by omega) with rfl | rfl | rfl | rfl <;> decide)
    (fun i hi => by
      rcases (show i = 0 ∨ i = 1 ∨ i = 2 ∨ i = 3 by omega) with rfl | rfl | rfl | rfl
      · exact hs _ (List.mem_of_getElem? (i := 57) rfl)
      · exact hs _ (List.mem_of_getElem? (i := 66) rfl)
      · exact hs _ (List.mem_of_getElem? (i := 77) rfl)
      · exact hs _ (List.mem_of_getElem? (i := 90) rfl))
    (fun i hi => by
      rcases (show i = 0 ∨ i = 1 ∨ i = 2 ∨ i = 3 by omega) with rfl | rfl | rfl | rfl
      · exact hs _ (List.mem_of_getElem? (i := 58) rfl)
      · exact hs _ (List.mem_of_getElem? (i := 67) rfl)
      · exact hs _ (List.mem_of_getElem? (i := 78) rfl)
      · exact hs _ (List.mem_of_getElem? (i := 91) rfl))
    (fun i hi => by
      rcases (show i = 0 ∨ i = 1 ∨ i = 2 ∨ i = 3 by omega) with rfl | rfl | rfl | rfl
      · exact hs _ (List.mem_of_getElem? (i := 59) rfl)
      · exact hs _ (List.mem_of_getElem? (i := 68) rfl)
      · exact hs _ (List.mem_of_getElem? (i := 79) rfl)
      · exact hs _ (List.mem_of_getElem? (i := 92) rfl))
    (fun i hi => by
      rcases (show i = 0 ∨ i = 1 ∨ i = 2 ∨ i = 3 by omega) with rfl | rfl | rfl | rfl
      · exact hs _ (List.mem_of_getElem? (i := 60) rfl)
      · exact hs _ (List.mem_of_getElem? (i := 69) rfl)
      · exact hs _ (List.mem_of_getElem? (i := 80) rfl)
      · exact hs _ (List.mem_of_getElem? (i := 93) rfl))
    (fun i hi j hj => by
      rcases (show i = 0 ∨ i = 1 ∨ i = 2 ∨ i = 3 by omega) with rfl | rfl | rfl | rfl
      · have hj : j < 5 := hj
        rcases (show j = 0 ∨ j = 1 ∨ j = 2 ∨ j = 3 ∨ j = 4 by omega) with rfl | rfl | rfl | rfl | rfl
        · exact hs _ (List.mem_of_getElem? (i := 61) rfl)
        · exact hs _ (List.mem_of_getElem? (i := 62) rfl)
        · exact hs _ (List.mem_of_getElem? (i := 63) rfl)
        · exact hs _ (List.mem_of_getElem? (i := 64) rfl)
        · exact hs _ (List.mem_of_getElem? (i := 65) rfl)
      · have hj : j < 6 := hj
        rcases (show j = 0 ∨ j = 1 ∨ j = 2 ∨ j = 3 ∨ j = 4 ∨ j = 5 by omega) with rfl | rfl | rfl | rfl | rfl | rfl
        · exact hs _ (List.mem_of_getElem? (i := 70) rfl)
        · exact hs _ (List.mem_of_getElem? (i := 71) rfl)
        · exact hs _ (List.mem_of_getElem? (i := 72) rfl)
        · exact hs _ (List.mem_of_getElem? (i := 73) rfl)
        · exact hs _ (List.mem_of_getElem? (i := 74) rfl)
        · exact hs _ (List.mem_of_getElem? (i := 75) rfl)
      · have hj : j < 7 := hj
        rcases (show j = 0 ∨ j = 1 ∨ j = 2 ∨ j = 3 ∨ j = 4 ∨ j = 5 ∨ j = 6 by omega) with rfl | rfl | rfl | rfl | rfl | rfl | rfl
        · exact hs _ (List.mem_of_getElem? (i := 81) rfl)
        · exact hs _ (List.mem_of_getElem? (i := 82) rfl)
        · exact hs _ (List.mem_of_getElem? (i := 83) rfl)
        · exact hs _ (List.mem_of_getElem? (i := 84) rfl)
        · exact hs _ (List.mem_of_getElem? (i := 85) rfl)
        · exact hs _ (List.mem_of_getElem? (i := 86) rfl)
        · exact hs _ (List.mem_of_getElem? (i := 87) rfl)
      · have hj : j < 5 := hj
        rcases (show j = 0 ∨ j = 1 ∨ j = 2 ∨ j = 3 ∨ j = 4 by omega) with rfl | rfl | rfl | rfl | rfl
        · exact hs _ (List.mem_of_getElem? (i := 94) rfl)
        · exact hs _ (List.mem_of_getElem? (i := 95) rfl)
        · exact hs _ (List.mem_of_getElem? (i := 96) rfl)
        · exact hs _ (List.mem_of_getElem? (i := 97) rfl)
        · exact hs _ (List.mem_of_getElem? (i := 98) rfl))
    (fun i j hi hj hij => by
      rcases (show i = 0 ∨ i = 1 ∨ i = 2 ∨ i = 3 by omega) with rfl | rfl | rfl | rfl <;> rcases (show j = 0 ∨ j = 1 ∨ j = 2 ∨ j = 3 by omega) with rfl | rfl | rfl | rfl
      · exact absurd rfl hij
      · exact .inl (hs _ (List.mem_of_getElem? (i := 76) rfl))
      · exact .inl (hs _ (List.mem_of_getElem? (i := 88) rfl))
      · exact .inl (hs _ (List.mem_of_getElem? (i := 99) rfl))
      · exact .inr (hs _ (List.mem_of_getElem? (i := 76) rfl))
      · exact absurd rfl hij
      · exact .inl (hs _ (List.mem_of_getElem? (i := 89) rfl))
      · exact .inl (hs _ (List.mem_of_getElem? (i := 100) rfl))
      · exact .inr (hs _ (List.mem_of_getElem? (i := 88) rfl))
      · exact .inr (hs _ (List.mem_of_getElem? (i := 89) rfl))
      · exact absurd rfl hij
      · exact .inl (hs _ (List.mem_of_getElem? (i := 101) rfl))
      · exact .inr (hs _ (List.mem_of_getElem? (i := 99) rfl))
      · exact .inr (hs _ (List.mem_of_getElem? (i := 100) rfl))
      · exact .inr (hs _ (List.mem_of_getElem? (i := 101) rfl))
      · exact absurd rfl hij) hA
  let b0 : Nat → Nat := fun p => match p with
    | 0 => b
    | 1 => t1
    | 2 => t2
    | 3 => t3
    | p => adK (p - 4)
  have hb4 : ∀ i, i < 4 → b0 (4 + i) = adK i := fun i hi => by
    rcases (show i = 0 ∨ i = 1 ∨ i = 2 ∨ i = 3 by omega) with rfl | rfl | rfl | rfl <;> rfl
  have hXO : x_O (osO fv) b0 s.heap.size (sZ (L, xs)) s s.heap := by
    refine ⟨fun p hp => ?_, ?_, ?_, ?_, ?_, adV, ?_⟩
    · rcases (show p = 0 ∨ p = 1 ∨ p = 2 ∨ p = 3 by omega) with rfl | rfl | rfl | rfl
      · obtain ⟨sc, g1, g2, g3, g4, g5⟩ := hX
        exact ⟨sc, g1, g2, g3, Nat.le_of_eq g4.symm, by rw [g4]; rfl, g5, Nat.not_le.mpr hbl⟩
      · exact hT1
      · exact hT2
      · exact hT3
    · exact List.forall_mem_cons.mpr ⟨hZ1, List.forall_mem_cons.mpr ⟨hZ2, List.forall_mem_cons.mpr ⟨hZ3, fun _ h => absurd h List.not_mem_nil⟩⟩⟩
    · exact List.forall_mem_cons.mpr ⟨vk_R.of (hts _ (List.mem_append_right _ (xv4 (i := 51) rfl))) (hvE 0 (by decide)), List.forall_mem_cons.mpr ⟨vk_R.of (hts _ (List.mem_append_right _ (xv4 (i := 143) rfl))) (hvE 1 (by decide)), List.forall_mem_cons.mpr ⟨vk_R.of (hts _ (List.mem_append_right _ (xv4 (i := 148) rfl))) (hvE 2 (by decide)), List.forall_mem_cons.mpr ⟨vk_R.of (hts _ (List.mem_append_right _ (xv4 (i := 161) rfl))) (hvE 3 (by decide)), fun _ h => absurd h List.not_mem_nil⟩⟩⟩⟩
    · exact List.forall_mem_cons.mpr ⟨va_Nw.of rfl (hts _ (List.mem_append_right _ (xv1 (i := 31) rfl))), List.forall_mem_cons.mpr ⟨va_Nw.of rfl (hts _ (List.mem_append_right _ (xv2 (i := 124) rfl))), List.forall_mem_cons.mpr ⟨va_Nw.of rfl (hts _ (List.mem_append_right _ (xv1 (i := 101) rfl))), List.forall_mem_cons.mpr ⟨va_Nw.of rfl (hts _ (List.mem_append_right _ (xv1 (i := 135) rfl))), List.forall_mem_cons.mpr ⟨va_Nw.of rfl (hts _ (List.mem_append_right _ (xv1 (i := 155) rfl))), List.forall_mem_cons.mpr ⟨va_Nw.of rfl (hts _ (List.mem_append_right _ (xv1 (i := 233) rfl))), List.forall_mem_cons.mpr ⟨va_Nw.of rfl (hts _ (List.mem_append_right _ (xv2 (i := 17) rfl))), List.forall_mem_cons.mpr ⟨va_Nw.of rfl (hts _ (List.mem_append_right _ (xv2 (i := 31) rfl))), fun _ h => absurd h List.not_mem_nil⟩⟩⟩⟩⟩⟩⟩⟩
    · exact List.forall_mem_cons.mpr ⟨hZc, List.forall_mem_cons.mpr ⟨hZf, fun _ h => absurd h List.not_mem_nil⟩⟩
    · refine ⟨fun i hi => ?_, fun i j hi hj e9 => hvS.2 i j hi hj (by
        have e9 : b0 (4 + i) = b0 (4 + j) := e9
        rwa [hb4 i hi, hb4 j hj] at e9)⟩
      have h9 := hvS.1 i hi
      rw [← hb4 i hi] at h9
      exact h9
  exact ⟨fv, b0, hfv, rfl, hXO⟩
