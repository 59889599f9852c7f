set_option maxHeartbeats 4000000 in
set_option maxRecDepth 20000 in
theorem whole_start {p : Program} {e : Env} {s : State} {m : MethodId} {below : List Frame} {meth : Method} {c : Code} (l : Launch) (hflags : l.flags = flags0) {b L : Nat} {xs : Nat → Int32} (hL : L ≤ 3072) (C0 : lw_At p s m meth c b L xs) : W p l e room_1 s m #[Value.ref b] below meth c s.heap [] 0 0 (lw_Z below #[Value.ref b] s) (entryFrame m ([Value.ref b] : List Value).toArray 4) := by
  obtain ⟨hx, hb, hr, hml, hown, hts, hX, hbl, hlocks, hgv, hmn⟩ := id C0
  have hs := flat_of_before _ hgv
  have hA : ∀ a : Nat, a < s.heap.size → ¬ (fun q : Nat => s.heap.size ≤ q) a := fun a h => Nat.not_le.mpr h
  obtain ⟨t1, ht1, hT1⟩ := va_Tof (tm := (Jvm.Term.static "WorkMeter$Settings" "AT_FIRST" "[I")) (ty := .int) (N := 13) (f := fun j => .int (sA1.getD j 0)) (A := fun q => s.heap.size ≤ q) (by decide) (hs _ (List.mem_of_getElem? (i := 5) rfl)) (va_eqt (hs _ (List.mem_of_getElem? (i := 6) rfl))) (fun j hj => by
    rcases (show j = 0 ∨ j = 1 ∨ j = 2 ∨ j = 3 ∨ j = 4 ∨ j = 5 ∨ j = 6 ∨ j = 7 ∨ j = 8 ∨ j = 9 ∨ j = 10 ∨ j = 11 ∨ j = 12 by omega) with rfl | rfl | rfl | rfl | rfl | rfl | rfl | rfl | rfl | rfl | rfl | rfl | rfl
    · exact va_eqt (hs _ (List.mem_of_getElem? (i := 7) rfl))
    · exact va_eqt (hs _ (List.mem_of_getElem? (i := 8) rfl))
    · exact va_eqt (hs _ (List.mem_of_getElem? (i := 9) rfl))
    · exact va_eqt (hs _ (List.mem_of_getElem? (i := 10) rfl))
    · exact va_eqt (hs _ (List.mem_of_getElem? (i := 11) rfl))
    · exact va_eqt (hs _ (List.mem_of_getElem? (i := 12) rfl))
    · exact va_eqt (hs _ (List.mem_of_getElem? (i := 13) rfl))
    · exact va_eqt (hs _ (List.mem_of_getElem? (i := 14) rfl))
    · exact va_eqt (hs _ (List.mem_of_getElem? (i := 15) rfl))
    · exact va_eqt (hs _ (List.mem_of_getElem? (i := 16) rfl))
    · exact va_eqt (hs _ (List.mem_of_getElem? (i := 17) rfl))
    · exact va_eqt (hs _ (List.mem_of_getElem? (i := 18) rfl))
    · exact va_eqt (hs _ (List.mem_of_getElem? (i := 19) rfl))) hA
  have hZ1 : va_Z "WorkMeter$Settings" "AT_FIRST" "[I" (.ref t1) (fun q => s.heap.size ≤ q) s s.heap := va_Zof (hts _ (List.mem_append_right _ (xv1 (i := 42) rfl))) (hts _ (List.mem_append_right _ (xv1 (i := 3) rfl))) ht1 hA
  obtain ⟨t2, ht2, hT2⟩ := va_Tof (tm := (Jvm.Term.static "WorkMeter$Settings" "LEAST" "[I")) (ty := .int) (N := 13) (f := fun j => .int (sA2.getD j 0)) (A := fun q => s.heap.size ≤ q) (by decide) (hs _ (List.mem_of_getElem? (i := 21) rfl)) (va_eqt (hs _ (List.mem_of_getElem? (i := 22) rfl))) (fun j hj => by
    rcases (show j = 0 ∨ j = 1 ∨ j = 2 ∨ j = 3 ∨ j = 4 ∨ j = 5 ∨ j = 6 ∨ j = 7 ∨ j = 8 ∨ j = 9 ∨ j = 10 ∨ j = 11 ∨ j = 12 by omega) with rfl | rfl | rfl | rfl | rfl | rfl | rfl | rfl | rfl | rfl | rfl | rfl | rfl
    · exact va_eqt (hs _ (List.mem_of_getElem? (i := 23) rfl))
    · exact va_eqt (hs _ (List.mem_of_getElem? (i := 24) rfl))
    · exact va_eqt (hs _ (List.mem_of_getElem? (i := 25) rfl))
    · exact va_eqt (hs _ (List.mem_of_getElem? (i := 26) rfl))
    · exact va_eqt (hs _ (List.mem_of_getElem? (i := 27) rfl))
    · exact va_eqt (hs _ (List.mem_of_getElem? (i := 28) rfl))
    · exact va_eqt (hs _ (List.mem_of_getElem? (i := 29) rfl))
    · exact va_eqt (hs _ (List.mem_of_getElem? (i := 30) rfl))
    · exact va_eqt (hs _ (List.mem_of_getElem? (i := 31) rfl))
    · exact va_eqt (hs _ (List.mem_of_getElem? (i := 32) rfl))
    · exact va_eqt (hs _ (List.mem_of_getElem? (i := 33) rfl))
    · exact va_eqt (hs _ (List.mem_of_getElem? (i := 34) rfl))
    · exact va_eqt (hs _ (List.mem_of_getElem? (i := 35) rfl))) hA
  have hZ2 : va_Z "WorkMeter$Settings" "LEAST" "[I" (.ref t2) (fun q => s.heap.size ≤ q) s s.heap := va_Zof (hts _ (List.mem_append_right _ (xv3 (i := 212) rfl))) (hts _ (List.mem_append_right _ (xv1 (i := 3) rfl))) ht2 hA
  obtain ⟨t3, ht3, hT3⟩ := va_Tof (tm := (Jvm.Term.static "WorkMeter$Settings" "MOST" "[I")) (ty := .int) (N := 13) (f := fun j => .int (sA3.getD j 0)) (A := fun q => s.heap.size ≤ q) (by decide) (hs _ (List.mem_of_getElem? (i := 37) rfl)) (va_eqt (hs _ (List.mem_of_getElem? (i := 38) rfl))) (fun j hj => by
    rcases (show j = 0 ∨ j = 1 ∨ j = 2 ∨ j = 3 ∨ j = 4 ∨ j = 5 ∨ j = 6 ∨ j = 7 ∨ j = 8 ∨ j = 9 ∨ j = 10 ∨ j = 11 ∨ j = 12 by omega) with rfl | rfl | rfl | rfl | rfl | rfl | rfl | rfl | rfl | rfl | rfl | rfl | rfl
    · exact va_eqt (hs _ (List.mem_of_getElem? (i := 39) rfl))
    · exact va_eqt (hs _ (List.mem_of_getElem? (i := 40) rfl))
    · exact va_eqt (hs _ (List.mem_of_getElem? (i := 41) rfl))
    · exact va_eqt (hs _ (List.mem_of_getElem? (i := 42) rfl))
    · exact va_eqt (hs _ (List.mem_of_getElem? (i := 43) rfl))
    · exact va_eqt (hs _ (List.mem_of_getElem? (i := 44) rfl))
    · exact va_eqt (hs _ (List.mem_of_getElem? (i := 45) rfl))
    · exact va_eqt (hs _ (List.mem_of_getElem? (i := 46) rfl))
    · exact va_eqt (hs _ (List.mem_of_getElem? (i := 47) rfl))
    · exact va_eqt (hs _ (List.mem_of_getElem? (i := 48) rfl))
    · exact va_eqt (hs _ (List.mem_of_getElem? (i := 49) rfl))
    · exact va_eqt (hs _ (List.mem_of_getElem? (i := 50) rfl))
    · exact va_eqt (hs _ (List.mem_of_getElem? (i := 51) rfl))) hA
  have hZ3 : va_Z "WorkMeter$Settings" "MOST" "[I" (.ref t3) (fun q => s.heap.size ≤ q) s s.heap := va_Zof (hts _ (List.mem_append_right _ (xv3 (i := 214) rfl))) (hts _ (List.mem_append_right _ (xv1 (i := 3) rfl))) ht3 hA
  have hZc : va_Z "java/lang/String" "COMPACT_STRINGS" "Z" (.int 1) (fun q => s.heap.size ≤ q) s s.heap := va_Zof (hts _ (List.mem_append_right _ (xv4 (i := 65) rfl))) (hts _ (List.mem_append_right _ (xv1 (i := 17) rfl))) (va_eqt (hs _ (List.mem_of_getElem? (i := 52) rfl))) hA
  obtain ⟨fv, hfe, hfr⟩ := Cond.isRef_spec (args := #[Value.ref b]) (first := s) (o := none) (s := s) (idx := []) (show (Jvm.Cond.isRef (Jvm.Term.static "jdk/internal/util/Preconditions" "SIOOBE_FORMATTER" "Ljava/util/function/BiFunction;")).before #[Value.ref b] s = true from hs _ (List.mem_of_getElem? (i := 53) rfl))
  have hfv : fv.category = 1 := by cases fv <;> first | rfl | cases hfr
  have hZf : va_Z "jdk/internal/util/Preconditions" "SIOOBE_FORMATTER" "Ljava/util/function/BiFunction;" fv (fun q => s.heap.size ≤ q) s s.heap := va_Zof (hts _ (List.mem_append_right _ (xv4 (i := 81) rfl))) (hts _ (List.mem_append_right _ (xv1 (i := 19) rfl))) hfe hA
  obtain ⟨adK, adV, hvS, hvE⟩ := vk_Sof (args := #[Value.ref b]) (s := s) (N := 4) (tm := xTm) (len := [5, 6, 7, 5]) (byt := [sW4, sW5, sW6, sW7]) (A := fun q => s.heap.size ≤ q)
    (fun i hi => by
      rcases (show i = 0 ∨ i = 1 ∨ i = 2 ∨ i = 3 by omega) with rfl | rfl | rfl | rfl <;> decide)
    (fun i hi => by
      rcases (show i = 0 ∨ i = 1 ∨ i = 2 ∨ i = 3 by omega) with rfl | rfl | rfl | rfl
      · exact hs _ (List.mem_of_getElem? (i := 57) rfl)
      · exact hs _ (List.mem_of_getElem? (i := 66) rfl)
      · exact hs _ (List.mem_of_getElem? (i := 77) rfl)
      · exact hs _ (List.mem_of_getElem? (i := 90) rfl))
    (fun i hi => by
      rcases (show i = 0 ∨ i = 1 ∨ i = 2 ∨ i = 3 by omega) with rfl | rfl | rfl | rfl
      · exact hs _ (List.mem_of_getElem? (i := 58) rfl)
      · exact hs _ (List.mem_of_getElem? (i := 67) rfl)
      · exact hs _ (List.mem_of_getElem? (i := 78) rfl)
      · exact hs _ (List.mem_of_getElem? (i := 91) rfl))
    (fun i hi => by
      rcases (show i = 0 ∨ i = 1 ∨ i = 2 ∨ i = 3 by omega) with rfl | rfl | rfl | rfl
      · exact hs _ (List.mem_of_getElem? (i := 59) rfl)
      · exact hs _ (List.mem_of_getElem? (i := 68) rfl)
      · exact hs _ (List.mem_of_getElem? (i := 79) rfl)
      · exact hs _ (List.mem_of_getElem? (i := 92) rfl))
    (fun i hi => by
      rcases (show i = 0 ∨ i = 1 ∨ i = 2 ∨ i = 3 by omega) with rfl | rfl | rfl | rfl
      · exact hs _ (List.mem_of_getElem? (i := 60) rfl)
      · exact hs _ (List.mem_of_getElem? (i := 69) rfl)
      · exact hs _ (List.mem_of_getElem? (i := 80) rfl)
      · exact hs _ (List.mem_of_getElem? (i := 93) rfl))
    (fun i hi j hj => by
      rcases (show i = 0 ∨ i = 1 ∨ i = 2 ∨ i = 3 by omega) with rfl | rfl | rfl | rfl
      · have hj : j < 5 := hj
        rcases (show j = 0 ∨ j = 1 ∨ j = 2 ∨ j = 3 ∨ j = 4 by omega) with rfl | rfl | rfl | rfl | rfl
        · exact hs _ (List.mem_of_getElem? (i := 61) rfl)
        · exact hs _ (List.mem_of_getElem? (i := 62) rfl)
        · exact hs _ (List.mem_of_getElem? (i := 63) rfl)
        · exact hs _ (List.mem_of_getElem? (i := 64) rfl)
        · exact hs _ (List.mem_of_getElem? (i := 65) rfl)
      · have hj : j < 6 := hj
        rcases (show j = 0 ∨ j = 1 ∨ j = 2 ∨ j = 3 ∨ j = 4 ∨ j = 5 by omega) with rfl | rfl | rfl | rfl | rfl | rfl
        · exact hs _ (List.mem_of_getElem? (i := 70) rfl)
        · exact hs _ (List.mem_of_getElem? (i := 71) rfl)
        · exact hs _ (List.mem_of_getElem? (i := 72) rfl)
        · exact hs _ (List.mem_of_getElem? (i := 73) rfl)
        · exact hs _ (List.mem_of_getElem? (i := 74) rfl)
        · exact hs _ (List.mem_of_getElem? (i := 75) rfl)
      · have hj : j < 7 := hj
        rcases (show j = 0 ∨ j = 1 ∨ j = 2 ∨ j = 3 ∨ j = 4 ∨ j = 5 ∨ j = 6 by omega) with rfl | rfl | rfl | rfl | rfl | rfl | rfl
        · exact hs _ (List.mem_of_getElem? (i := 81) rfl)
        · exact hs _ (List.mem_of_getElem? (i := 82) rfl)
        · exact hs _ (List.mem_of_getElem? (i := 83) rfl)
        · exact hs _ (List.mem_of_getElem? (i := 84) rfl)
        · exact hs _ (List.mem_of_getElem? (i := 85) rfl)
        · exact hs _ (List.mem_of_getElem? (i := 86) rfl)
        · exact hs _ (List.mem_of_getElem? (i := 87) rfl)
      · have hj : j < 5 := hj
        rcases (show j = 0 ∨ j = 1 ∨ j = 2 ∨ j = 3 ∨ j = 4 by omega) with rfl | rfl | rfl | rfl | rfl
        · exact hs _ (List.mem_of_getElem? (i := 94) rfl)
        · exact hs _ (List.mem_of_getElem? (i := 95) rfl)
        · exact hs _ (List.mem_of_getElem? (i := 96) rfl)
        · exact hs _ (List.mem_of_getElem? (i := 97) rfl)
        · exact hs _ (List.mem_of_getElem? (i := 98) rfl))
    (fun i j hi hj hij => by
      rcases (show i = 0 ∨ i = 1 ∨ i = 2 ∨ i = 3 by omega) with rfl | rfl | rfl | rfl <;> rcases (show j = 0 ∨ j = 1 ∨ j = 2 ∨ j = 3 by omega) with rfl | rfl | rfl | rfl
      · exact absurd rfl hij
      · exact .inl (hs _ (List.mem_of_getElem? (i := 76) rfl))
      · exact .inl (hs _ (List.mem_of_getElem? (i := 88) rfl))
      · exact .inl (hs _ (List.mem_of_getElem? (i := 99) rfl))
      · exact .inr (hs _ (List.mem_of_getElem? (i := 76) rfl))
      · exact absurd rfl hij
      · exact .inl (hs _ (List.mem_of_getElem? (i := 89) rfl))
      · exact .inl (hs _ (List.mem_of_getElem? (i := 100) rfl))
      · exact .inr (hs _ (List.mem_of_getElem? (i := 88) rfl))
      · exact .inr (hs _ (List.mem_of_getElem? (i := 89) rfl))
      · exact absurd rfl hij
      · exact .inl (hs _ (List.mem_of_getElem? (i := 101) rfl))
      · exact .inr (hs _ (List.mem_of_getElem? (i := 99) rfl))
      · exact .inr (hs _ (List.mem_of_getElem? (i := 100) rfl))
      · exact .inr (hs _ (List.mem_of_getElem? (i := 101) rfl))
      · exact absurd rfl hij) hA
  let b0 : Nat → Nat := fun p => match p with
    | 0 => b
    | 1 => t1
    | 2 => t2
    | 3 => t3
    | p => adK (p - 4)
  have hb4 : ∀ i, i < 4 → b0 (4 + i) = adK i := fun i hi => by
    rcases (show i = 0 ∨ i = 1 ∨ i = 2 ∨ i = 3 by omega) with rfl | rfl | rfl | rfl <;> rfl
  have hXO : x_O (osO fv) b0 s.heap.size (sZ (L, xs)) s s.heap := by
    refine ⟨fun p hp => ?_, ?_, ?_, ?_, ?_, adV, ?_⟩
    · rcases (show p = 0 ∨ p = 1 ∨ p = 2 ∨ p = 3 by omega) with rfl | rfl | rfl | rfl
      · obtain ⟨sc, g1, g2, g3, g4, g5⟩ := hX
        exact ⟨sc, g1, g2, g3, Nat.le_of_eq g4.symm, by rw [g4]; rfl, g5, Nat.not_le.mpr hbl⟩
      · exact hT1
      · exact hT2
      · exact hT3
    · exact List.forall_mem_cons.mpr ⟨hZ1, List.forall_mem_cons.mpr ⟨hZ2, List.forall_mem_cons.mpr ⟨hZ3, fun _ h => absurd h List.not_mem_nil⟩⟩⟩
    · exact List.forall_mem_cons.mpr ⟨vk_R.of (hts _ (List.mem_append_right _ (xv4 (i := 51) rfl))) (hvE 0 (by decide)), List.forall_mem_cons.mpr ⟨vk_R.of (hts _ (List.mem_append_right _ (xv4 (i := 143) rfl))) (hvE 1 (by decide)), List.forall_mem_cons.mpr ⟨vk_R.of (hts _ (List.mem_append_right _ (xv4 (i := 148) rfl))) (hvE 2 (by decide)), List.forall_mem_cons.mpr ⟨vk_R.of (hts _ (List.mem_append_right _ (xv4 (i := 161) rfl))) (hvE 3 (by decide)), fun _ h => absurd h List.not_mem_nil⟩⟩⟩⟩
    · exact List.forall_mem_cons.mpr ⟨va_Nw.of rfl (hts _ (List.mem_append_right _ (xv1 (i := 31) rfl))), List.forall_mem_cons.mpr ⟨va_Nw.of rfl (hts _ (List.mem_append_right _ (xv2 (i := 124) rfl))), List.forall_mem_cons.mpr ⟨va_Nw.of rfl (hts _ (List.mem_append_right _ (xv1 (i := 101) rfl))), List.forall_mem_cons.mpr ⟨va_Nw.of rfl (hts _ (List.mem_append_right _ (xv1 (i := 135) rfl))), List.forall_mem_cons.mpr ⟨va_Nw.of rfl (hts _ (List.mem_append_right _ (xv1 (i := 155) rfl))), List.forall_mem_cons.mpr ⟨va_Nw.of rfl (hts _ (List.mem_append_right _ (xv1 (i := 233) rfl))), List.forall_mem_cons.mpr ⟨va_Nw.of rfl (hts _ (List.mem_append_right _ (xv2 (i := 17) rfl))), List.forall_mem_cons.mpr ⟨va_Nw.of rfl (hts _ (List.mem_append_right _ (xv2 (i := 31) rfl))), fun _ h => absurd h List.not_mem_nil⟩⟩⟩⟩⟩⟩⟩⟩
    · exact List.forall_mem_cons.mpr ⟨hZc, List.forall_mem_cons.mpr ⟨hZf, fun _ h => absurd h List.not_mem_nil⟩⟩
    · refine ⟨fun i hi => ?_, fun i j hi hj e9 => hvS.2 i j hi hj (by
        have e9 : b0 (4 + i) = b0 (4 + j) := e9
        rwa [hb4 i hi, hb4 j hj] at e9)⟩
      have h9 := hvS.1 i hi
      rw [← hb4 i hi] at h9
      exact h9
  have htT : ∀ w ∈ xTT, w.before #[Value.ref b] s = true := fun w hw => hts w (List.mem_filter.mp hw).1
  -- classes, rows
  have hk0 : ∀ k : Nat, ∃ q : ClassId × (Nat → Nat), ∀ z : vw_C, pCl[k]? = some z → u_Kn s z.1 z.2.1 z.2.2 q.1 q.2 := by
    intro k
    cases hk : pCl[k]? with
    | none => exact ⟨(0, fun _ => 0), fun z h => by cases h⟩
    | some z =>
      obtain ⟨C, F, N⟩ := z
      obtain ⟨cC, iS, h1⟩ := u_known htT (pCL k C F N hk).1 (htT _ (pIn _ (List.mem_of_getElem? hk)))
      exact ⟨(cC, iS), fun z h => by cases h; exact h1⟩
  obtain ⟨dq, hdq⟩ := Classical.axiomOfChoice hk0
  have ha0 : ∀ t : FieldType, ∃ cA : ClassId, t ∈ pTyl → ArrOfT s cA t ∧ va_RA s cA t := by
    intro t
    by_cases ht : t ∈ pTyl
    · obtain ⟨cA, kA, comp, h1, h2, h3⟩ := Cond.arrayClass_spec (htT _ (pAr t ht))
      refine ⟨cA, fun _ => ⟨fun n z => ⟨fun k h => (by cases h), kA, h2, comp, h3⟩, ?_⟩⟩
      have ht : t = .int ∨ t = .long ∨ t = .byte ∨ t = .boolean := by simpa [pTyl] using ht
      rcases ht with rfl | rfl | rfl | rfl <;> exact h1
    · exact ⟨0, fun h => absurd h ht⟩
  obtain ⟨ca, hca⟩ := Classical.axiomOfChoice ha0
  obtain ⟨D, hDe⟩ : ∃ D : va_G, D = (fun k => (dq k).1, fun k => (dq k).2) := ⟨_, rfl⟩
  have hK : va_K D pCl (pTyl.map fun t => (ca t, t)) s := by
    subst hDe
    refine ⟨fun k q hq => hdq k q hq, fun k q hq => ?_⟩
    rw [List.getElem?_map] at hq
    obtain ⟨t, h1, rfl⟩ := Option.map_eq_some_iff.mp hq
    exact hca t (List.mem_of_getElem? h1)
  have hF : x_Fix (osO fv) xTT D pCl pTyl ca b0 s.heap.size (sZ (L, xs)) [] pm316 p s m #[Value.ref b] meth c := ⟨hx, hb, hml, hr, hmn, hown, htT, hK, hXO, rfl, hlocks⟩
  have hI : x_Inv D pCl pTyl ca b0 s.heap.size s [] [] s.heap [] 0 0 := ⟨fun k q h => by cases h, va_S.rf, rfl, rfl, fun e he => by cases he⟩
  have hl := lv_entry ([.ref b]) (n := 4) (Nat.le_of_ble_eq_true rfl)
  rw [lg_entry_eq]
  generalize (lg_sl ([.ref b]) ++ List.replicate (4 - (lg_sl ([.ref b])).length) Slot.unset).toArray = ls at hl ⊢
  have hl : lv_has ls 4 [(0, .ref b)] := hl
  have hokI := fun pc x h => (ok316 (fv := fv)).2.2 pc x h
  have hOK := pOK (fv := fv)
  have hSt0 : ∀ b1 : Nat → Nat, ∀ s1 : Nat × (Nat → Int32), x_St (osO fv) l xTT 40 D pCl pTyl ca b1 s.heap.size (sZ s1) pcL pcC := fun b1 s1 => pSt hfv
  have hO : ∀ (U : State) (H : Heap), x_O (osO fv) b0 s.heap.size (sZ (L, xs)) U H → x_O (osO fv) (fun p => if p = 0 then b0 1 else b0 p) s.heap.size kS U H := by
    intro U H h
    obtain ⟨h1, h2, h3, h4, h5, adV', h6⟩ := h
    refine ⟨fun p hp => ?_, ?_, ?_, h4, h5, adV', ?_⟩
    · rcases (show p = 0 ∨ p = 1 ∨ p = 2 ∨ p = 3 by omega) with rfl | rfl | rfl | rfl
      · exact h1 1 (by decide)
      · exact h1 1 (by decide)
      · exact h1 2 (by decide)
      · exact h1 3 (by decide)
    · exact List.forall_mem_cons.mpr ⟨h2 _ (List.Mem.head _), List.forall_mem_cons.mpr ⟨h2 _ (List.Mem.tail _ (List.Mem.head _)), List.forall_mem_cons.mpr ⟨h2 _ (List.Mem.tail _ (List.Mem.tail _ (List.Mem.head _))), fun _ h => absurd h List.not_mem_nil⟩⟩⟩
    · exact List.forall_mem_cons.mpr ⟨h3 _ (List.Mem.head _), List.forall_mem_cons.mpr ⟨h3 _ (List.Mem.tail _ (List.Mem.head _)), List.forall_mem_cons.mpr ⟨h3 _ (List.Mem.tail _ (List.Mem.tail _ (List.Mem.head _))), List.forall_mem_cons.mpr ⟨h3 _ (List.Mem.tail _ (List.Mem.tail _ (List.Mem.tail _ (List.Mem.head _)))), fun _ h => absurd h List.not_mem_nil⟩⟩⟩⟩
    · have e : (fun i => (fun p => if p = 0 then b0 1 else b0 p) (4 + i)) = fun i => b0 (4 + i) := funext fun i => if_neg (by omega)
      rw [e]
      exact h6
  have hKm : ∀ (j : Nat) (M' : xM), pP j = some M' → M'.2.2.1 + 19 ≤ 40 := fun j M' h => (hOK.2.2.2 j M' h).1
  -- new WorkMeter
  refine x_heap_ok (st := []) (k := xK 3 [.ref 8] [.inr (11, pDf 11)]) (res := (none, [])) pCL hF (hokI 0 (.new 7, 3, (11, 0, 0, 0), .null, none) rfl) hI (xK_t 3 [.ref 8] [.inr (11, pDf 11)]) (fun pc' st' u' h => ?_) (fun pc' st' u' H1 locs1 cells1 slots1 h hI1 => ?_)
  · obtain ⟨-, -, rfl⟩ := xK_i h
    exact ⟨Nat.le_of_ble_eq_true rfl, Nat.le_of_ble_eq_true rfl⟩
  obtain ⟨rfl, rfl, rfl⟩ := xK_i h
  refine lv_dup hx hb (show decode code 3 = .ok (.dup, 1) by decide +kernel) rfl ?_
  refine x_inv_ok (K := 40) (d := 2000) (st := [.ref 8, .ref 8]) (call := xCa 0 [.ref 8] [.inr (11, pDf 11)] (none, ku1)) (k := xK 7 [.ref 8] ku1) (res := (none, [])) xTT_ok hKm (by decide) (fun j As u z M' hc hM' hu => ?_) hF (hokI 4 (.invokespecial 9, 3, (0, 0, 2, 11), .null, none) rfl) rfl (by decide) hI1 hl.1 (Nat.le_of_ble_eq_true rfl) (Nat.le_of_ble_eq_true rfl) ?_ (fun pc' st' u' h => ?_) (fun pc' st' u' H2 locs2 cells2 slots2 h hI2 => ?_)
  · obtain ⟨rfl, rfl, rfl, rfl⟩ := xCa_i hc
    have hc1 : x_exec kS pDf pP 20000 1999 0 0 (lv_args 0 [.ref 8]) [] [.inr (11, pDf 11)] = some (none, ku1) := kc1_e.1
    obtain ⟨g1, g2⟩ := x_exec_len _ _ _ _ _ _ _ _ hc1
    refine ⟨1999, rfl, g1, g2, x_metS hOK (hSt0 _ _) hO hM' hc1 ?_ rfl rfl (kNor_ws _ _ kn1) rfl hu⟩
    have hM' : some pm0 = some M' := hM'
    cases hM'
    decide
  · show x_low [.ref 8] ((xCa 0 [.ref 8] [.inr (11, pDf 11)] (none, ku1) 0 [.ref 8] [.inr (11, pDf 11)]).bind fun z => xK 7 [.ref 8] ku1 7 (z.1.toList ++ [.ref 8]) z.2) = _
    rw [xCa_t]
    show x_low [.ref 8] (xK 7 [.ref 8] ku1 7 [.ref 8] ku1) = _
    rw [xK_t]
    rfl
  · obtain ⟨-, -, rfl⟩ := xK_i h
    exact ⟨by rw [kc1_e.2]; exact Nat.le_of_ble_eq_true rfl, ks1⟩
  obtain ⟨rfl, rfl, rfl⟩ := xK_i h
  refine lv_astore_n (lv' := [(1, .ref s.heap.size), (0, .ref b)]) hx hb (show decode code 7 = .ok (.astore_n 1, 1) by decide +kernel) rfl hl (by decide) rfl (fun ls1 hl1 => ?_)
  -- new WorkMeterModel
  refine x_heap_ok (st := []) (k := xK 11 [.ref (ku1.length + 8)] (ku1 ++ [.inr (12, pDf 12)])) (res := (none, [])) pCL hF (hokI 8 (.new 10, 3, (12, 0, 0, 0), .null, none) rfl) hI2 (xK_t 11 [.ref (ku1.length + 8)] (ku1 ++ [.inr (12, pDf 12)])) (fun pc' st' u' h => ?_) (fun pc' st' u' H3 locs3 cells3 slots3 h hI3 => ?_)
  · obtain ⟨-, -, rfl⟩ := xK_i h
    refine ⟨?_, ?_⟩
    · rw [List.length_append, kc1_e.2]
      exact Nat.le_of_ble_eq_true rfl
    · have h9 : x_sz (ku1 ++ [.inr (12, pDf 12)]) ≤ 7302250 := by
        have hc2 : x_exec kS pDf pP 20000 1999 201 0 [(0, .ref 116)] [] (ku1 ++ [.inr (12, pDf 12)]) = some (none, ku2) := kc2_e.1
        exact Nat.le_trans (x_exec_len _ _ _ _ _ _ _ _ hc2).2 ks2
      exact h9
  obtain ⟨rfl, rfl, rfl⟩ := xK_i h
  rw [kc1_e.2]
  refine lv_dup hx hb (show decode code 11 = .ok (.dup, 1) by decide +kernel) rfl ?_
  refine x_inv_ok (K := 40) (d := 2000) (st := [.ref 116, .ref 116]) (call := xCa 201 [.ref 116] (ku1 ++ [.inr (12, pDf 12)]) (none, ku2)) (k := xK 15 [.ref 116] ku2) (res := (none, [])) xTT_ok hKm (by decide) (fun j As u z M' hc hM' hu => ?_) hF (hokI 12 (.invokespecial 12, 3, (201, 0, 2, 12), .null, none) rfl) rfl (by decide) hI3 hl1.1 (Nat.le_of_ble_eq_true rfl) (Nat.le_of_ble_eq_true rfl) ?_ (fun pc' st' u' h => ?_) (fun pc' st' u' H4 locs4 cells4 slots4 h hI4 => ?_)
  · obtain ⟨rfl, rfl, rfl, rfl⟩ := xCa_i hc
    have hc2 : x_exec kS pDf pP 20000 1999 201 0 (lv_args 0 [.ref 116]) [] (ku1 ++ [.inr (12, pDf 12)]) = some (none, ku2) := kc2_e.1
    obtain ⟨g1, g2⟩ := x_exec_len _ _ _ _ _ _ _ _ hc2
    have hn12 : (ku1 ++ [.inr (12, pDf 12)]).all kNor1 = true := by
      rw [List.all_append, kn1]
      rfl
    refine ⟨1999, rfl, g1, g2, x_metS hOK (hSt0 _ _) hO hM' hc2 ?_ rfl (kNor_ws _ _ hn12) (kNor_ws _ _ kn2) rfl hu⟩
    have hM' : some pm201 = some M' := hM'
    cases hM'
    decide
  · have e1 : (ku1 ++ [Sum.inr (12, pDf 12)])[108]? = some (Sum.inr (12, pDf 12)) := by
      rw [List.getElem?_append_right (by rw [kc1_e.2]; exact Nat.le_refl _), kc1_e.2]
      rfl
    show (match (ku1 ++ [Sum.inr (12, pDf 12)])[108]? with
        | some (.inr (ci, _)) => if ci = 12 then x_low [.ref 116] ((xCa 201 [.ref 116] (ku1 ++ [.inr (12, pDf 12)]) (none, ku2) 201 [.ref 116] (ku1 ++ [.inr (12, pDf 12)])).bind fun z => xK 15 [.ref 116] ku2 15 (z.1.toList ++ [.ref 116]) z.2) else none
        | _ => none) = _
    rw [e1]
    show x_low [.ref 116] ((xCa 201 [.ref 116] (ku1 ++ [.inr (12, pDf 12)]) (none, ku2) 201 [.ref 116] (ku1 ++ [.inr (12, pDf 12)])).bind fun z => xK 15 [.ref 116] ku2 15 (z.1.toList ++ [.ref 116]) z.2) = _
    rw [xCa_t]
    show x_low [.ref 116] (xK 15 [.ref 116] ku2 15 [.ref 116] ku2) = _
    rw [xK_t]
    rfl
  · obtain ⟨-, -, rfl⟩ := xK_i h
    exact ⟨by rw [kc2_e.2]; exact Nat.le_of_ble_eq_true rfl, ks2⟩
  obtain ⟨rfl, rfl, rfl⟩ := xK_i h
  refine lv_astore_n (lv' := [(2, .ref (s.heap.size + 108)), (1, .ref s.heap.size), (0, .ref b)]) hx hb (show decode code 15 = .ok (.astore_n 2, 1) by decide +kernel) rfl hl1 (by decide) rfl (fun ls2 hl2 => ?_)
  refine lv_iconst (v := 0) hx hb (show decode code 16 = .ok (.iconst 0, 1) by decide +kernel) rfl ?_
  refine lv_istore_n (lv' := [(3, .int 0), (2, .ref (s.heap.size + 108)), (1, .ref s.heap.size), (0, .ref b)]) hx hb (show decode code 17 = .ok (.istore_n 3, 1) by decide +kernel) rfl hl2 (by decide) rfl (fun ls3 hl3 => ?_)
  -- the loop
  obtain ⟨hu2, hmok⟩ := kAll_ok kAll_t
  have hv40 : z_val lL 4 40 := lL_val 0 (by decide)
  have hv44 : z_val lL 4 44 := lL_val 108 (by decide)
  have hloop := law_loop (s := (L, xs)) (d := 2000) (by decide) (show L ≤ 3072 by omega) 513 0 (mIni ku2) (mIni ku2) 0 (mIni_J kFlag_t) mIni_rel (by omega) (show (L : Int) - 0 < 6 * ((513 : Nat) : Int) by omega) (by decide)
  obtain ⟨cn, r, m', hex, -, -, hr1⟩ := hloop (fun q hq => by
    simp only [List.mem_cons, List.not_mem_nil, or_false] at hq
    rcases hq with rfl | rfl | rfl | rfl
    · exact .inl ⟨rfl, by decide⟩
    · exact .inr hv40
    · exact .inr hv44
    · exact ⟨by decide, by decide⟩) (fun v hv => by cases hv) hmok
  subst hr1
  have hex0 := hex 0
  rw [Nat.zero_add, show z_u (EE (L, xs)).2.2.2 (mIni ku2) = ku2 from hu2] at hex0
  refine x_sound hOK (hSt0 b0 (L, xs)) cn 2000 316 pm316 rfl p e room_1 s m #[Value.ref b] below meth c (lw_Z below #[Value.ref b] s) [] (some (.int 1), z_u lL m') hF (Nat.le_of_ble_eq_true rfl) (Nat.le_of_ble_eq_true rfl) ?_ ?_ ?_ 18 [(0, .ref 0), (1, .ref 8), (2, .ref 116), (3, .int 0)] [] ku2 H4 locs4 cells4 slots4 ls3 hex0 hI4 (lv_sub hl3 [3, 2, 1, 0] rfl)
  · show (z_u lL m').length ≤ 600000 + 0
    unfold z_u
    rw [List.length_map, List.length_range]
    exact Nat.le_of_ble_eq_true rfl
  · show x_sz (z_u lL m') ≤ 7302250 + 0
    rw [kszu m' (mIni ku2), hu2]
    exact ks2
  · intro i k pc st u H locs cells slots ls hd hr9 hI9
    obtain ⟨rfl, rfl, rfl⟩ := x_ret_bool hr9
    have e9 := x_ret_u hr9
    obtain ⟨-, hS9, g1, g2, -⟩ := hI9
    refine va_forget (fun q hq => hS9.2.2 q hq) ?_
    refine W.widen (k := 600000) (n := 7302250) ?_ ?_ ?_
    · have h9 : u.length = 115 := by
        rw [← e9]
        show (z_u lL m').length = 115
        unfold z_u
        rw [List.length_map, List.length_range]
        rfl
      have g1 : cells + 0 = u.length := g1
      omega
    · have h9 : x_sz u ≤ 7302250 := by
        rw [← e9]
        show x_sz (z_u lL m') ≤ 7302250
        rw [kszu m' (mIni ku2), hu2]
        exact ks2
      have g2 : slots + 0 = x_sz u := g2
      omega
    · exact lw_ret hx hb hr hlocks hd

