/-! How the two sides hang together in what is tracked. -/
section
variable {E : zE} {d j pc : Nat} {lv : List (Nat × zV)} {st : List zV} {m : zM} {Q : Option zV → zM → Prop} {q : Nat × Nat × Nat × Nat} {c : Value} {ks : Option (List Nat)}
theorem X.pop2 (pc' : Nat) {x : Int} (hi : z_I E j pc = some (.pop2, 1, q, c, ks)) (hc : z_cut ks lv = lv) (hp : pc + 1 = pc') (kk : X E d j pc' lv st m Q) : X E d j pc lv (zl x :: st) m Q :=
  X.num pc' hi hc hp rfl kk (fun h => ⟨z_tl h, fun _ => by
    show x_d2 1 (fun _ r => r) (fun _ _ r => r) (.long (Int64.ofInt x) :: st.map (z_v E.2.2.2)) _ = _
    simp only [x_d2, if_true]⟩)
end
theorem J.nx {L L' : List (Nat × Nat × Int)} {m0 m : zM} {B : Int} (h : J (zfr L zZ) m0 B m) : J (zfr L' zZ) m B m := J.rf h.1.1
def Rel (B : Int) (m : zM) : Prop := (m 0 8 9 = m 4 45 0 ∧ m 0 8 13 = m 4 45 13 ∧ m 0 19 3 = m 4 45 1 ∧ m 0 19 4 = m 4 45 2 ∧ m 0 19 5 = m 4 45 3 ∧ m 0 39 0 = m 4 45 1614 ∧ m 0 39 1 = m 4 45 1615 ∧ m 0 39 2 = m 4 45 1616 ∧ m 0 39 4 = m 4 45 1617) ∧ m 0 8 13 ≤ B ∧ m 4 40 4 = m 4 44 3 ∧ (m 4 44 3 = 1 → (m 1 8 9 = m 4 47 0 ∧ m 1 8 13 = m 4 47 13 ∧ m 1 19 3 = m 4 47 1 ∧ m 1 19 4 = m 4 47 2 ∧ m 1 19 5 = m 4 47 3 ∧ m 1 39 0 = m 4 47 1614 ∧ m 1 39 1 = m 4 47 1615 ∧ m 1 39 2 = m 4 47 1616 ∧ m 1 39 4 = m 4 47 1617) ∧ m 1 8 13 ≤ B)
theorem rel_mt {B : Int} {m : zM} (h : Rel B m) : m 0 8 13 ≤ B := h.2.1
theorem Rel.up {B B' : Int} {m : zM} (h : Rel B m) (hb : B ≤ B') : Rel B' m := ⟨h.1, Int.le_trans h.2.1 hb, h.2.2.1, fun e => ⟨(h.2.2.2 e).1, Int.le_trans (h.2.2.2 e).2 hb⟩⟩
def relS : List (Nat × Nat × Int) := [(0, 8, 9), (0, 8, 13), (0, 19, 3), (0, 19, 4), (0, 19, 5), (0, 39, 0), (0, 39, 1), (0, 39, 2), (0, 39, 4), (4, 45, 0), (4, 45, 13), (4, 45, 1), (4, 45, 2), (4, 45, 3), (4, 45, 1614), (4, 45, 1615), (4, 45, 1616), (4, 45, 1617), (4, 40, 4), (4, 44, 3), (1, 8, 9), (1, 8, 13), (1, 19, 3), (1, 19, 4), (1, 19, 5), (1, 39, 0), (1, 39, 1), (1, 39, 2), (1, 39, 4), (4, 47, 0), (4, 47, 13), (4, 47, 1), (4, 47, 2), (4, 47, 3), (4, 47, 1614), (4, 47, 1615), (4, 47, 1616), (4, 47, 1617)]
def relno (L : List (Nat × Nat × Int)) : Bool := relS.all fun x => zno L x.1 x.2.1 x.2.2
theorem rel_k {L : List (Nat × Nat × Int)} {m m1 : zM} {B B' : Int} (hR : Rel B m) (h : J (zfr L zZ) m B' m1) (hL : relno L = true) : Rel B m1 := by
  have hz := List.all_eq_true.mp hL
  have e0 : m1 0 8 9 = m 0 8 9 := h.eq rfl (hz (0, 8, 9) (List.mem_of_getElem? (i := 0) rfl))
  have e1 : m1 0 8 13 = m 0 8 13 := h.eq rfl (hz (0, 8, 13) (List.mem_of_getElem? (i := 1) rfl))
  have e2 : m1 0 19 3 = m 0 19 3 := h.eq rfl (hz (0, 19, 3) (List.mem_of_getElem? (i := 2) rfl))
  have e3 : m1 0 19 4 = m 0 19 4 := h.eq rfl (hz (0, 19, 4) (List.mem_of_getElem? (i := 3) rfl))
  have e4 : m1 0 19 5 = m 0 19 5 := h.eq rfl (hz (0, 19, 5) (List.mem_of_getElem? (i := 4) rfl))
  have e5 : m1 0 39 0 = m 0 39 0 := h.eq rfl (hz (0, 39, 0) (List.mem_of_getElem? (i := 5) rfl))
  have e6 : m1 0 39 1 = m 0 39 1 := h.eq rfl (hz (0, 39, 1) (List.mem_of_getElem? (i := 6) rfl))
  have e7 : m1 0 39 2 = m 0 39 2 := h.eq rfl (hz (0, 39, 2) (List.mem_of_getElem? (i := 7) rfl))
  have e8 : m1 0 39 4 = m 0 39 4 := h.eq rfl (hz (0, 39, 4) (List.mem_of_getElem? (i := 8) rfl))
  have e9 : m1 4 45 0 = m 4 45 0 := h.eq rfl (hz (4, 45, 0) (List.mem_of_getElem? (i := 9) rfl))
  have e10 : m1 4 45 13 = m 4 45 13 := h.eq rfl (hz (4, 45, 13) (List.mem_of_getElem? (i := 10) rfl))
  have e11 : m1 4 45 1 = m 4 45 1 := h.eq rfl (hz (4, 45, 1) (List.mem_of_getElem? (i := 11) rfl))
  have e12 : m1 4 45 2 = m 4 45 2 := h.eq rfl (hz (4, 45, 2) (List.mem_of_getElem? (i := 12) rfl))
  have e13 : m1 4 45 3 = m 4 45 3 := h.eq rfl (hz (4, 45, 3) (List.mem_of_getElem? (i := 13) rfl))
  have e14 : m1 4 45 1614 = m 4 45 1614 := h.eq rfl (hz (4, 45, 1614) (List.mem_of_getElem? (i := 14) rfl))
  have e15 : m1 4 45 1615 = m 4 45 1615 := h.eq rfl (hz (4, 45, 1615) (List.mem_of_getElem? (i := 15) rfl))
  have e16 : m1 4 45 1616 = m 4 45 1616 := h.eq rfl (hz (4, 45, 1616) (List.mem_of_getElem? (i := 16) rfl))
  have e17 : m1 4 45 1617 = m 4 45 1617 := h.eq rfl (hz (4, 45, 1617) (List.mem_of_getElem? (i := 17) rfl))
  have e18 : m1 4 40 4 = m 4 40 4 := h.eq rfl (hz (4, 40, 4) (List.mem_of_getElem? (i := 18) rfl))
  have e19 : m1 4 44 3 = m 4 44 3 := h.eq rfl (hz (4, 44, 3) (List.mem_of_getElem? (i := 19) rfl))
  have e20 : m1 1 8 9 = m 1 8 9 := h.eq rfl (hz (1, 8, 9) (List.mem_of_getElem? (i := 20) rfl))
  have e21 : m1 1 8 13 = m 1 8 13 := h.eq rfl (hz (1, 8, 13) (List.mem_of_getElem? (i := 21) rfl))
  have e22 : m1 1 19 3 = m 1 19 3 := h.eq rfl (hz (1, 19, 3) (List.mem_of_getElem? (i := 22) rfl))
  have e23 : m1 1 19 4 = m 1 19 4 := h.eq rfl (hz (1, 19, 4) (List.mem_of_getElem? (i := 23) rfl))
  have e24 : m1 1 19 5 = m 1 19 5 := h.eq rfl (hz (1, 19, 5) (List.mem_of_getElem? (i := 24) rfl))
  have e25 : m1 1 39 0 = m 1 39 0 := h.eq rfl (hz (1, 39, 0) (List.mem_of_getElem? (i := 25) rfl))
  have e26 : m1 1 39 1 = m 1 39 1 := h.eq rfl (hz (1, 39, 1) (List.mem_of_getElem? (i := 26) rfl))
  have e27 : m1 1 39 2 = m 1 39 2 := h.eq rfl (hz (1, 39, 2) (List.mem_of_getElem? (i := 27) rfl))
  have e28 : m1 1 39 4 = m 1 39 4 := h.eq rfl (hz (1, 39, 4) (List.mem_of_getElem? (i := 28) rfl))
  have e29 : m1 4 47 0 = m 4 47 0 := h.eq rfl (hz (4, 47, 0) (List.mem_of_getElem? (i := 29) rfl))
  have e30 : m1 4 47 13 = m 4 47 13 := h.eq rfl (hz (4, 47, 13) (List.mem_of_getElem? (i := 30) rfl))
  have e31 : m1 4 47 1 = m 4 47 1 := h.eq rfl (hz (4, 47, 1) (List.mem_of_getElem? (i := 31) rfl))
  have e32 : m1 4 47 2 = m 4 47 2 := h.eq rfl (hz (4, 47, 2) (List.mem_of_getElem? (i := 32) rfl))
  have e33 : m1 4 47 3 = m 4 47 3 := h.eq rfl (hz (4, 47, 3) (List.mem_of_getElem? (i := 33) rfl))
  have e34 : m1 4 47 1614 = m 4 47 1614 := h.eq rfl (hz (4, 47, 1614) (List.mem_of_getElem? (i := 34) rfl))
  have e35 : m1 4 47 1615 = m 4 47 1615 := h.eq rfl (hz (4, 47, 1615) (List.mem_of_getElem? (i := 35) rfl))
  have e36 : m1 4 47 1616 = m 4 47 1616 := h.eq rfl (hz (4, 47, 1616) (List.mem_of_getElem? (i := 36) rfl))
  have e37 : m1 4 47 1617 = m 4 47 1617 := h.eq rfl (hz (4, 47, 1617) (List.mem_of_getElem? (i := 37) rfl))
  unfold Rel
  rw [e0, e1, e2, e3, e4, e5, e6, e7, e8, e9, e10, e11, e12, e13, e14, e15, e16, e17, e18, e19, e20, e21, e22, e23, e24, e25, e26, e27, e28, e29, e30, e31, e32, e33, e34, e35, e36, e37]
  exact hR
theorem rel_would {m m1 : zM} {B B' B1 : Int} (hR : Rel B m) (hb : B + 900 ≤ B') (h1 : J (zfr [(4, 45, 0), (4, 45, 1), (4, 45, 2), (4, 45, 3), (4, 45, 11), (4, 45, 13), (4, 45, 18), (4, 45, 1614), (4, 45, 1615), (4, 45, 1616), (4, 45, 1617), (4, 46, 0), (4, 46, 1), (4, 46, 2), (4, 46, 3), (4, 46, 11), (4, 46, 13), (4, 46, 18), (4, 46, 1614), (4, 46, 1615), (4, 46, 1616), (4, 46, 1617)] zZ) m B1 m1) (p1a : m1 4 45 0 = m 4 45 0 ∧ m1 4 45 1 = m 4 45 1 ∧ m1 4 45 2 = m 4 45 2 ∧ m1 4 45 3 = m 4 45 3 ∧ m1 4 45 11 = m 4 45 11 ∧ m1 4 45 13 = m 4 45 13 ∧ m1 4 45 18 = m 4 45 18 ∧ m1 4 45 1614 = m 4 45 1614 ∧ m1 4 45 1615 = m 4 45 1615 ∧ m1 4 45 1616 = m 4 45 1616 ∧ m1 4 45 1617 = m 4 45 1617) : Rel B' m1 := by
  obtain ⟨⟨r0, r1, r2, r3, r4, r5, r6, r7, r8⟩, rb, ri, rk⟩ := hR
  have e0 : m1 0 8 9 = m 0 8 9 := h1.eq rfl rfl
  have e1 : m1 0 8 13 = m 0 8 13 := h1.eq rfl rfl
  have e2 : m1 0 19 3 = m 0 19 3 := h1.eq rfl rfl
  have e3 : m1 0 19 4 = m 0 19 4 := h1.eq rfl rfl
  have e4 : m1 0 19 5 = m 0 19 5 := h1.eq rfl rfl
  have e5 : m1 0 39 0 = m 0 39 0 := h1.eq rfl rfl
  have e6 : m1 0 39 1 = m 0 39 1 := h1.eq rfl rfl
  have e7 : m1 0 39 2 = m 0 39 2 := h1.eq rfl rfl
  have e8 : m1 0 39 4 = m 0 39 4 := h1.eq rfl rfl
  have e18 : m1 4 40 4 = m 4 40 4 := h1.eq rfl rfl
  have e19 : m1 4 44 3 = m 4 44 3 := h1.eq rfl rfl
  have e20 : m1 1 8 9 = m 1 8 9 := h1.eq rfl rfl
  have e21 : m1 1 8 13 = m 1 8 13 := h1.eq rfl rfl
  have e22 : m1 1 19 3 = m 1 19 3 := h1.eq rfl rfl
  have e23 : m1 1 19 4 = m 1 19 4 := h1.eq rfl rfl
  have e24 : m1 1 19 5 = m 1 19 5 := h1.eq rfl rfl
  have e25 : m1 1 39 0 = m 1 39 0 := h1.eq rfl rfl
  have e26 : m1 1 39 1 = m 1 39 1 := h1.eq rfl rfl
  have e27 : m1 1 39 2 = m 1 39 2 := h1.eq rfl rfl
  have e28 : m1 1 39 4 = m 1 39 4 := h1.eq rfl rfl
  have e29 : m1 4 47 0 = m 4 47 0 := h1.eq rfl rfl
  have e30 : m1 4 47 13 = m 4 47 13 := h1.eq rfl rfl
  have e31 : m1 4 47 1 = m 4 47 1 := h1.eq rfl rfl
  have e32 : m1 4 47 2 = m 4 47 2 := h1.eq rfl rfl
  have e33 : m1 4 47 3 = m 4 47 3 := h1.eq rfl rfl
  have e34 : m1 4 47 1614 = m 4 47 1614 := h1.eq rfl rfl
  have e35 : m1 4 47 1615 = m 4 47 1615 := h1.eq rfl rfl
  have e36 : m1 4 47 1616 = m 4 47 1616 := h1.eq rfl rfl
  have e37 : m1 4 47 1617 = m 4 47 1617 := h1.eq rfl rfl
  unfold Rel
  try simp only [e0, e1, e2, e3, e4, e5, e6, e7, e8, e18, e19, e20, e21, e22, e23, e24, e25, e26, e27, e28, e29, e30, e31, e32, e33, e34, e35, e36, e37]
  clear h1 e0 e1 e2 e3 e4 e5 e6 e7 e8 e18 e19 e20 e21 e22 e23 e24 e25 e26 e27 e28 e29 e30 e31 e32 e33 e34 e35 e36 e37
  refine ⟨⟨by first | assumption | omega, by first | assumption | omega, by first | assumption | omega, by first | assumption | omega, by first | assumption | omega, by first | assumption | omega, by first | assumption | omega, by first | assumption | omega, by first | assumption | omega⟩, by omega, by omega, fun hi => by
        obtain ⟨⟨k0, k1, k2, k3, k4, k5, k6, k7, k8⟩, kb⟩ := rk (by omega)
        exact ⟨⟨by first | assumption | omega, by first | assumption | omega, by first | assumption | omega, by first | assumption | omega, by first | assumption | omega, by first | assumption | omega, by first | assumption | omega, by first | assumption | omega, by first | assumption | omega⟩, by omega⟩⟩
theorem rel_lasts {m m1 : zM} {B B' B1 : Int} (hR : Rel B m) (hb : B + 900 ≤ B') (h1 : J (zfr [(4, 45, 0), (4, 45, 1), (4, 45, 2), (4, 45, 3), (4, 45, 11), (4, 45, 13), (4, 45, 18), (4, 45, 1614), (4, 45, 1615), (4, 45, 1616), (4, 45, 1617), (4, 46, 0), (4, 46, 1), (4, 46, 2), (4, 46, 3), (4, 46, 11), (4, 46, 13), (4, 46, 18), (4, 46, 1614), (4, 46, 1615), (4, 46, 1616), (4, 46, 1617)] zZ) m B1 m1) (p1a : m1 4 45 0 = m 4 45 0 ∧ m1 4 45 1 = m 4 45 1 ∧ m1 4 45 2 = m 4 45 2 ∧ m1 4 45 3 = m 4 45 3 ∧ m1 4 45 11 = m 4 45 11 ∧ m1 4 45 13 = m 4 45 13 ∧ m1 4 45 18 = m 4 45 18 ∧ m1 4 45 1614 = m 4 45 1614 ∧ m1 4 45 1615 = m 4 45 1615 ∧ m1 4 45 1616 = m 4 45 1616 ∧ m1 4 45 1617 = m 4 45 1617) : Rel B' m1 := by
  obtain ⟨⟨r0, r1, r2, r3, r4, r5, r6, r7, r8⟩, rb, ri, rk⟩ := hR
  have e0 : m1 0 8 9 = m 0 8 9 := h1.eq rfl rfl
  have e1 : m1 0 8 13 = m 0 8 13 := h1.eq rfl rfl
  have e2 : m1 0 19 3 = m 0 19 3 := h1.eq rfl rfl
  have e3 : m1 0 19 4 = m 0 19 4 := h1.eq rfl rfl
  have e4 : m1 0 19 5 = m 0 19 5 := h1.eq rfl rfl
  have e5 : m1 0 39 0 = m 0 39 0 := h1.eq rfl rfl
  have e6 : m1 0 39 1 = m 0 39 1 := h1.eq rfl rfl
  have e7 : m1 0 39 2 = m 0 39 2 := h1.eq rfl rfl
  have e8 : m1 0 39 4 = m 0 39 4 := h1.eq rfl rfl
  have e18 : m1 4 40 4 = m 4 40 4 := h1.eq rfl rfl
  have e19 : m1 4 44 3 = m 4 44 3 := h1.eq rfl rfl
  have e20 : m1 1 8 9 = m 1 8 9 := h1.eq rfl rfl
  have e21 : m1 1 8 13 = m 1 8 13 := h1.eq rfl rfl
  have e22 : m1 1 19 3 = m 1 19 3 := h1.eq rfl rfl
  have e23 : m1 1 19 4 = m 1 19 4 := h1.eq rfl rfl
  have e24 : m1 1 19 5 = m 1 19 5 := h1.eq rfl rfl
  have e25 : m1 1 39 0 = m 1 39 0 := h1.eq rfl rfl
  have e26 : m1 1 39 1 = m 1 39 1 := h1.eq rfl rfl
  have e27 : m1 1 39 2 = m 1 39 2 := h1.eq rfl rfl
  have e28 : m1 1 39 4 = m 1 39 4 := h1.eq rfl rfl
  have e29 : m1 4 47 0 = m 4 47 0 := h1.eq rfl rfl
  have e30 : m1 4 47 13 = m 4 47 13 := h1.eq rfl rfl
  have e31 : m1 4 47 1 = m 4 47 1 := h1.eq rfl rfl
  have e32 : m1 4 47 2 = m 4 47 2 := h1.eq rfl rfl
  have e33 : m1 4 47 3 = m 4 47 3 := h1.eq rfl rfl
  have e34 : m1 4 47 1614 = m 4 47 1614 := h1.eq rfl rfl
  have e35 : m1 4 47 1615 = m 4 47 1615 := h1.eq rfl rfl
  have e36 : m1 4 47 1616 = m 4 47 1616 := h1.eq rfl rfl
  have e37 : m1 4 47 1617 = m 4 47 1617 := h1.eq rfl rfl
  unfold Rel
  try simp only [e0, e1, e2, e3, e4, e5, e6, e7, e8, e18, e19, e20, e21, e22, e23, e24, e25, e26, e27, e28, e29, e30, e31, e32, e33, e34, e35, e36, e37]
  clear h1 e0 e1 e2 e3 e4 e5 e6 e7 e8 e18 e19 e20 e21 e22 e23 e24 e25 e26 e27 e28 e29 e30 e31 e32 e33 e34 e35 e36 e37
  refine ⟨⟨by first | assumption | omega, by first | assumption | omega, by first | assumption | omega, by first | assumption | omega, by first | assumption | omega, by first | assumption | omega, by first | assumption | omega, by first | assumption | omega, by first | assumption | omega⟩, by omega, by omega, fun hi => by
        obtain ⟨⟨k0, k1, k2, k3, k4, k5, k6, k7, k8⟩, kb⟩ := rk (by omega)
        exact ⟨⟨by first | assumption | omega, by first | assumption | omega, by first | assumption | omega, by first | assumption | omega, by first | assumption | omega, by first | assumption | omega, by first | assumption | omega, by first | assumption | omega, by first | assumption | omega⟩, by omega⟩⟩
theorem rel_calendar {m m1 : zM} {B B' B1 : Int} (hR : Rel B m) (hb : B + 900 ≤ B') (h1 : J (zfr [(4, 45, 0), (4, 45, 1), (4, 45, 2), (4, 45, 3), (4, 45, 11), (4, 45, 13), (4, 45, 18), (4, 45, 1614), (4, 45, 1615), (4, 45, 1616), (4, 45, 1617), (4, 46, 0), (4, 46, 1), (4, 46, 2), (4, 46, 3), (4, 46, 11), (4, 46, 13), (4, 46, 18), (4, 46, 1614), (4, 46, 1615), (4, 46, 1616), (4, 46, 1617), (4, 44, 5), (4, 44, 8), (4, 44, 9)] zZ) m B1 m1) (p1a : m1 4 45 0 = m 4 45 0 ∧ m1 4 45 1 = m 4 45 1 ∧ m1 4 45 2 = m 4 45 2 ∧ m1 4 45 3 = m 4 45 3 ∧ m1 4 45 11 = m 4 45 11 ∧ m1 4 45 13 = m 4 45 13 ∧ m1 4 45 18 = m 4 45 18 ∧ m1 4 45 1614 = m 4 45 1614 ∧ m1 4 45 1615 = m 4 45 1615 ∧ m1 4 45 1616 = m 4 45 1616 ∧ m1 4 45 1617 = m 4 45 1617) : Rel B' m1 := by
  obtain ⟨⟨r0, r1, r2, r3, r4, r5, r6, r7, r8⟩, rb, ri, rk⟩ := hR
  have e0 : m1 0 8 9 = m 0 8 9 := h1.eq rfl rfl
  have e1 : m1 0 8 13 = m 0 8 13 := h1.eq rfl rfl
  have e2 : m1 0 19 3 = m 0 19 3 := h1.eq rfl rfl
  have e3 : m1 0 19 4 = m 0 19 4 := h1.eq rfl rfl
  have e4 : m1 0 19 5 = m 0 19 5 := h1.eq rfl rfl
  have e5 : m1 0 39 0 = m 0 39 0 := h1.eq rfl rfl
  have e6 : m1 0 39 1 = m 0 39 1 := h1.eq rfl rfl
  have e7 : m1 0 39 2 = m 0 39 2 := h1.eq rfl rfl
  have e8 : m1 0 39 4 = m 0 39 4 := h1.eq rfl rfl
  have e18 : m1 4 40 4 = m 4 40 4 := h1.eq rfl rfl
  have e19 : m1 4 44 3 = m 4 44 3 := h1.eq rfl rfl
  have e20 : m1 1 8 9 = m 1 8 9 := h1.eq rfl rfl
  have e21 : m1 1 8 13 = m 1 8 13 := h1.eq rfl rfl
  have e22 : m1 1 19 3 = m 1 19 3 := h1.eq rfl rfl
  have e23 : m1 1 19 4 = m 1 19 4 := h1.eq rfl rfl
  have e24 : m1 1 19 5 = m 1 19 5 := h1.eq rfl rfl
  have e25 : m1 1 39 0 = m 1 39 0 := h1.eq rfl rfl
  have e26 : m1 1 39 1 = m 1 39 1 := h1.eq rfl rfl
  have e27 : m1 1 39 2 = m 1 39 2 := h1.eq rfl rfl
  have e28 : m1 1 39 4 = m 1 39 4 := h1.eq rfl rfl
  have e29 : m1 4 47 0 = m 4 47 0 := h1.eq rfl rfl
  have e30 : m1 4 47 13 = m 4 47 13 := h1.eq rfl rfl
  have e31 : m1 4 47 1 = m 4 47 1 := h1.eq rfl rfl
  have e32 : m1 4 47 2 = m 4 47 2 := h1.eq rfl rfl
  have e33 : m1 4 47 3 = m 4 47 3 := h1.eq rfl rfl
  have e34 : m1 4 47 1614 = m 4 47 1614 := h1.eq rfl rfl
  have e35 : m1 4 47 1615 = m 4 47 1615 := h1.eq rfl rfl
  have e36 : m1 4 47 1616 = m 4 47 1616 := h1.eq rfl rfl
  have e37 : m1 4 47 1617 = m 4 47 1617 := h1.eq rfl rfl
  unfold Rel
  try simp only [e0, e1, e2, e3, e4, e5, e6, e7, e8, e18, e19, e20, e21, e22, e23, e24, e25, e26, e27, e28, e29, e30, e31, e32, e33, e34, e35, e36, e37]
  clear h1 e0 e1 e2 e3 e4 e5 e6 e7 e8 e18 e19 e20 e21 e22 e23 e24 e25 e26 e27 e28 e29 e30 e31 e32 e33 e34 e35 e36 e37
  refine ⟨⟨by first | assumption | omega, by first | assumption | omega, by first | assumption | omega, by first | assumption | omega, by first | assumption | omega, by first | assumption | omega, by first | assumption | omega, by first | assumption | omega, by first | assumption | omega⟩, by omega, by omega, fun hi => by
        obtain ⟨⟨k0, k1, k2, k3, k4, k5, k6, k7, k8⟩, kb⟩ := rk (by omega)
        exact ⟨⟨by first | assumption | omega, by first | assumption | omega, by first | assumption | omega, by first | assumption | omega, by first | assumption | omega, by first | assumption | omega, by first | assumption | omega, by first | assumption | omega, by first | assumption | omega⟩, by omega⟩⟩
theorem rel_phases {m m1 m2 : zM} {B B' B1 B2 v w a b : Int} (hR : Rel B m) (hb : B + 900 ≤ B') (h1 : J (zfr [(0, 19, 3), (0, 19, 4), (0, 19, 5)] zZ) m B1 m1) (p1a : (v = 1 ∧ m 0 39 0 = 0 ∧ 1 ≤ a ∧ a ≤ 3 ∧ 4 ≤ b ∧ b ≤ 16 ∧ b % 4 = 0 ∧ m1 0 19 3 = a ∧ m1 0 19 4 = b ∧ m1 0 19 5 = 0) ∨ (v = 0 ∧ ¬ (m 0 39 0 = 0 ∧ 1 ≤ a ∧ a ≤ 3 ∧ 4 ≤ b ∧ b ≤ 16 ∧ b % 4 = 0) ∧ m1 0 19 3 = m 0 19 3 ∧ m1 0 19 4 = m 0 19 4 ∧ m1 0 19 5 = m 0 19 5)) (h2 : J (zfr [(4, 45, 1), (4, 45, 2), (4, 45, 3)] zZ) m1 B2 m2) (p2a : (w = 1 ∧ m1 4 45 1614 = 0 ∧ 1 ≤ a ∧ a ≤ 3 ∧ 4 ≤ b ∧ b ≤ 16 ∧ b % 4 = 0 ∧ m2 4 45 1 = a ∧ m2 4 45 2 = b ∧ m2 4 45 3 = 0) ∨ (w = 0 ∧ ¬ (m1 4 45 1614 = 0 ∧ 1 ≤ a ∧ a ≤ 3 ∧ 4 ≤ b ∧ b ≤ 16 ∧ b % 4 = 0) ∧ m2 4 45 1 = m1 4 45 1 ∧ m2 4 45 2 = m1 4 45 2 ∧ m2 4 45 3 = m1 4 45 3)) : v = w ∧ Rel B' m2 := by
  obtain ⟨⟨r0, r1, r2, r3, r4, r5, r6, r7, r8⟩, rb, ri, rk⟩ := hR
  have e0 : m1 0 8 9 = m 0 8 9 := h1.eq rfl rfl
  have e1 : m1 0 8 13 = m 0 8 13 := h1.eq rfl rfl
  have e5 : m1 0 39 0 = m 0 39 0 := h1.eq rfl rfl
  have e6 : m1 0 39 1 = m 0 39 1 := h1.eq rfl rfl
  have e7 : m1 0 39 2 = m 0 39 2 := h1.eq rfl rfl
  have e8 : m1 0 39 4 = m 0 39 4 := h1.eq rfl rfl
  have e9 : m1 4 45 0 = m 4 45 0 := h1.eq rfl rfl
  have e10 : m1 4 45 13 = m 4 45 13 := h1.eq rfl rfl
  have e11 : m1 4 45 1 = m 4 45 1 := h1.eq rfl rfl
  have e12 : m1 4 45 2 = m 4 45 2 := h1.eq rfl rfl
  have e13 : m1 4 45 3 = m 4 45 3 := h1.eq rfl rfl
  have e14 : m1 4 45 1614 = m 4 45 1614 := h1.eq rfl rfl
  have e15 : m1 4 45 1615 = m 4 45 1615 := h1.eq rfl rfl
  have e16 : m1 4 45 1616 = m 4 45 1616 := h1.eq rfl rfl
  have e17 : m1 4 45 1617 = m 4 45 1617 := h1.eq rfl rfl
  have e18 : m1 4 40 4 = m 4 40 4 := h1.eq rfl rfl
  have e19 : m1 4 44 3 = m 4 44 3 := h1.eq rfl rfl
  have e20 : m1 1 8 9 = m 1 8 9 := h1.eq rfl rfl
  have e21 : m1 1 8 13 = m 1 8 13 := h1.eq rfl rfl
  have e22 : m1 1 19 3 = m 1 19 3 := h1.eq rfl rfl
  have e23 : m1 1 19 4 = m 1 19 4 := h1.eq rfl rfl
  have e24 : m1 1 19 5 = m 1 19 5 := h1.eq rfl rfl
  have e25 : m1 1 39 0 = m 1 39 0 := h1.eq rfl rfl
  have e26 : m1 1 39 1 = m 1 39 1 := h1.eq rfl rfl
  have e27 : m1 1 39 2 = m 1 39 2 := h1.eq rfl rfl
  have e28 : m1 1 39 4 = m 1 39 4 := h1.eq rfl rfl
  have e29 : m1 4 47 0 = m 4 47 0 := h1.eq rfl rfl
  have e30 : m1 4 47 13 = m 4 47 13 := h1.eq rfl rfl
  have e31 : m1 4 47 1 = m 4 47 1 := h1.eq rfl rfl
  have e32 : m1 4 47 2 = m 4 47 2 := h1.eq rfl rfl
  have e33 : m1 4 47 3 = m 4 47 3 := h1.eq rfl rfl
  have e34 : m1 4 47 1614 = m 4 47 1614 := h1.eq rfl rfl
  have e35 : m1 4 47 1615 = m 4 47 1615 := h1.eq rfl rfl
  have e36 : m1 4 47 1616 = m 4 47 1616 := h1.eq rfl rfl
  have e37 : m1 4 47 1617 = m 4 47 1617 := h1.eq rfl rfl
  have f0 : m2 0 8 9 = m1 0 8 9 := h2.eq rfl rfl
  have f1 : m2 0 8 13 = m1 0 8 13 := h2.eq rfl rfl
  have f2 : m2 0 19 3 = m1 0 19 3 := h2.eq rfl rfl
  have f3 : m2 0 19 4 = m1 0 19 4 := h2.eq rfl rfl
  have f4 : m2 0 19 5 = m1 0 19 5 := h2.eq rfl rfl
  have f5 : m2 0 39 0 = m1 0 39 0 := h2.eq rfl rfl
  have f6 : m2 0 39 1 = m1 0 39 1 := h2.eq rfl rfl
  have f7 : m2 0 39 2 = m1 0 39 2 := h2.eq rfl rfl
  have f8 : m2 0 39 4 = m1 0 39 4 := h2.eq rfl rfl
  have f9 : m2 4 45 0 = m1 4 45 0 := h2.eq rfl rfl
  have f10 : m2 4 45 13 = m1 4 45 13 := h2.eq rfl rfl
  have f14 : m2 4 45 1614 = m1 4 45 1614 := h2.eq rfl rfl
  have f15 : m2 4 45 1615 = m1 4 45 1615 := h2.eq rfl rfl
  have f16 : m2 4 45 1616 = m1 4 45 1616 := h2.eq rfl rfl
  have f17 : m2 4 45 1617 = m1 4 45 1617 := h2.eq rfl rfl
  have f18 : m2 4 40 4 = m1 4 40 4 := h2.eq rfl rfl
  have f19 : m2 4 44 3 = m1 4 44 3 := h2.eq rfl rfl
  have f20 : m2 1 8 9 = m1 1 8 9 := h2.eq rfl rfl
  have f21 : m2 1 8 13 = m1 1 8 13 := h2.eq rfl rfl
  have f22 : m2 1 19 3 = m1 1 19 3 := h2.eq rfl rfl
  have f23 : m2 1 19 4 = m1 1 19 4 := h2.eq rfl rfl
  have f24 : m2 1 19 5 = m1 1 19 5 := h2.eq rfl rfl
  have f25 : m2 1 39 0 = m1 1 39 0 := h2.eq rfl rfl
  have f26 : m2 1 39 1 = m1 1 39 1 := h2.eq rfl rfl
  have f27 : m2 1 39 2 = m1 1 39 2 := h2.eq rfl rfl
  have f28 : m2 1 39 4 = m1 1 39 4 := h2.eq rfl rfl
  have f29 : m2 4 47 0 = m1 4 47 0 := h2.eq rfl rfl
  have f30 : m2 4 47 13 = m1 4 47 13 := h2.eq rfl rfl
  have f31 : m2 4 47 1 = m1 4 47 1 := h2.eq rfl rfl
  have f32 : m2 4 47 2 = m1 4 47 2 := h2.eq rfl rfl
  have f33 : m2 4 47 3 = m1 4 47 3 := h2.eq rfl rfl
  have f34 : m2 4 47 1614 = m1 4 47 1614 := h2.eq rfl rfl
  have f35 : m2 4 47 1615 = m1 4 47 1615 := h2.eq rfl rfl
  have f36 : m2 4 47 1616 = m1 4 47 1616 := h2.eq rfl rfl
  have f37 : m2 4 47 1617 = m1 4 47 1617 := h2.eq rfl rfl
  try simp only [e0, e1, e5, e6, e7, e8, e9, e10, e11, e12, e13, e14, e15, e16, e17, e18, e19, e20, e21, e22, e23, e24, e25, e26, e27, e28, e29, e30, e31, e32, e33, e34, e35, e36, e37] at p2a
  unfold Rel
  try simp only [f0, f1, f2, f3, f4, f5, f6, f7, f8, f9, f10, f14, f15, f16, f17, f18, f19, f20, f21, f22, f23, f24, f25, f26, f27, f28, f29, f30, f31, f32, f33, f34, f35, f36, f37]
  try simp only [e0, e1, e5, e6, e7, e8, e9, e10, e11, e12, e13, e14, e15, e16, e17, e18, e19, e20, e21, e22, e23, e24, e25, e26, e27, e28, e29, e30, e31, e32, e33, e34, e35, e36, e37]
  clear h1 h2 e0 e1 e5 e6 e7 e8 e9 e10 e11 e12 e13 e14 e15 e16 e17 e18 e19 e20 e21 e22 e23 e24 e25 e26 e27 e28 e29 e30 e31 e32 e33 e34 e35 e36 e37 f0 f1 f2 f3 f4 f5 f6 f7 f8 f9 f10 f14 f15 f16 f17 f18 f19 f20 f21 f22 f23 f24 f25 f26 f27 f28 f29 f30 f31 f32 f33 f34 f35 f36 f37
  rcases p1a with p1a | p1a <;> rcases p2a with p2a | p2a
  all_goals first
    | (exfalso; omega)
    | (refine ⟨by omega, ⟨⟨by first | assumption | omega, by first | assumption | omega, by first | assumption | omega, by first | assumption | omega, by first | assumption | omega, by first | assumption | omega, by first | assumption | omega, by first | assumption | omega, by first | assumption | omega⟩, by omega, by omega, fun hi => by
        obtain ⟨⟨k0, k1, k2, k3, k4, k5, k6, k7, k8⟩, kb⟩ := rk (by omega)
        exact ⟨⟨by first | assumption | omega, by first | assumption | omega, by first | assumption | omega, by first | assumption | omega, by first | assumption | omega, by first | assumption | omega, by first | assumption | omega, by first | assumption | omega, by first | assumption | omega⟩, by omega⟩⟩⟩)
theorem rel_sample {m m1 m2 : zM} {B B' B1 B2 v w a b : Int} (hR : Rel B m) (hb : B + 900 ≤ B') (h1 : J (zfr [(0, 19, 5), (0, 8, 9), (0, 8, 13)] zZ) m B1 m1) (p1a : (v = -1 ∧ ¬ (-500 ≤ a ∧ a ≤ 500 ∧ -500 ≤ b ∧ b ≤ 500) ∧ m1 0 19 5 = m 0 19 5 ∧ m1 0 8 9 = m 0 8 9 ∧ m1 0 8 13 = m 0 8 13) ∨ (v = m 0 19 5 + 1 ∧ -500 ≤ a ∧ a ≤ 500 ∧ -500 ≤ b ∧ b ≤ 500 ∧ m 0 19 5 + 1 < m 0 19 3 * m 0 19 4 ∧ m1 0 19 5 = m 0 19 5 + 1 ∧ m1 0 8 9 = m 0 8 9 ∧ m1 0 8 13 = m 0 8 13) ∨ (v = 0 ∧ -500 ≤ a ∧ a ≤ 500 ∧ -500 ≤ b ∧ b ≤ 500 ∧ m 0 19 3 * m 0 19 4 ≤ m 0 19 5 + 1 ∧ m1 0 19 5 = 0 ∧ m1 0 8 9 = min (m 0 8 9 + 1) 2000000000 ∧ m1 0 8 13 = m 0 8 13 + 1)) (h2 : J (zfr [(4, 45, 3), (4, 45, 0), (4, 45, 13)] zZ) m1 B2 m2) (p2a : (w = -1 ∧ ¬ (-500 ≤ a ∧ a ≤ 500 ∧ -500 ≤ b ∧ b ≤ 500) ∧ m2 4 45 3 = m1 4 45 3 ∧ m2 4 45 0 = m1 4 45 0 ∧ m2 4 45 13 = m1 4 45 13) ∨ (w = m1 4 45 3 + 1 ∧ -500 ≤ a ∧ a ≤ 500 ∧ -500 ≤ b ∧ b ≤ 500 ∧ m1 4 45 3 + 1 < m1 4 45 1 * m1 4 45 2 ∧ m2 4 45 3 = m1 4 45 3 + 1 ∧ m2 4 45 0 = m1 4 45 0 ∧ m2 4 45 13 = m1 4 45 13) ∨ (w = 0 ∧ -500 ≤ a ∧ a ≤ 500 ∧ -500 ≤ b ∧ b ≤ 500 ∧ m1 4 45 1 * m1 4 45 2 ≤ m1 4 45 3 + 1 ∧ m2 4 45 3 = 0 ∧ m2 4 45 0 = min (m1 4 45 0 + 1) 2000000000 ∧ m2 4 45 13 = m1 4 45 13 + 1)) : v = w ∧ Rel B' m2 := by
  obtain ⟨⟨r0, r1, r2, r3, r4, r5, r6, r7, r8⟩, rb, ri, rk⟩ := hR
  have e2 : m1 0 19 3 = m 0 19 3 := h1.eq rfl rfl
  have e3 : m1 0 19 4 = m 0 19 4 := h1.eq rfl rfl
  have e5 : m1 0 39 0 = m 0 39 0 := h1.eq rfl rfl
  have e6 : m1 0 39 1 = m 0 39 1 := h1.eq rfl rfl
  have e7 : m1 0 39 2 = m 0 39 2 := h1.eq rfl rfl
  have e8 : m1 0 39 4 = m 0 39 4 := h1.eq rfl rfl
  have e9 : m1 4 45 0 = m 4 45 0 := h1.eq rfl rfl
  have e10 : m1 4 45 13 = m 4 45 13 := h1.eq rfl rfl
  have e11 : m1 4 45 1 = m 4 45 1 := h1.eq rfl rfl
  have e12 : m1 4 45 2 = m 4 45 2 := h1.eq rfl rfl
  have e13 : m1 4 45 3 = m 4 45 3 := h1.eq rfl rfl
  have e14 : m1 4 45 1614 = m 4 45 1614 := h1.eq rfl rfl
  have e15 : m1 4 45 1615 = m 4 45 1615 := h1.eq rfl rfl
  have e16 : m1 4 45 1616 = m 4 45 1616 := h1.eq rfl rfl
  have e17 : m1 4 45 1617 = m 4 45 1617 := h1.eq rfl rfl
  have e18 : m1 4 40 4 = m 4 40 4 := h1.eq rfl rfl
  have e19 : m1 4 44 3 = m 4 44 3 := h1.eq rfl rfl
  have e20 : m1 1 8 9 = m 1 8 9 := h1.eq rfl rfl
  have e21 : m1 1 8 13 = m 1 8 13 := h1.eq rfl rfl
  have e22 : m1 1 19 3 = m 1 19 3 := h1.eq rfl rfl
  have e23 : m1 1 19 4 = m 1 19 4 := h1.eq rfl rfl
  have e24 : m1 1 19 5 = m 1 19 5 := h1.eq rfl rfl
  have e25 : m1 1 39 0 = m 1 39 0 := h1.eq rfl rfl
  have e26 : m1 1 39 1 = m 1 39 1 := h1.eq rfl rfl
  have e27 : m1 1 39 2 = m 1 39 2 := h1.eq rfl rfl
  have e28 : m1 1 39 4 = m 1 39 4 := h1.eq rfl rfl
  have e29 : m1 4 47 0 = m 4 47 0 := h1.eq rfl rfl
  have e30 : m1 4 47 13 = m 4 47 13 := h1.eq rfl rfl
  have e31 : m1 4 47 1 = m 4 47 1 := h1.eq rfl rfl
  have e32 : m1 4 47 2 = m 4 47 2 := h1.eq rfl rfl
  have e33 : m1 4 47 3 = m 4 47 3 := h1.eq rfl rfl
  have e34 : m1 4 47 1614 = m 4 47 1614 := h1.eq rfl rfl
  have e35 : m1 4 47 1615 = m 4 47 1615 := h1.eq rfl rfl
  have e36 : m1 4 47 1616 = m 4 47 1616 := h1.eq rfl rfl
  have e37 : m1 4 47 1617 = m 4 47 1617 := h1.eq rfl rfl
  have f0 : m2 0 8 9 = m1 0 8 9 := h2.eq rfl rfl
  have f1 : m2 0 8 13 = m1 0 8 13 := h2.eq rfl rfl
  have f2 : m2 0 19 3 = m1 0 19 3 := h2.eq rfl rfl
  have f3 : m2 0 19 4 = m1 0 19 4 := h2.eq rfl rfl
  have f4 : m2 0 19 5 = m1 0 19 5 := h2.eq rfl rfl
  have f5 : m2 0 39 0 = m1 0 39 0 := h2.eq rfl rfl
  have f6 : m2 0 39 1 = m1 0 39 1 := h2.eq rfl rfl
  have f7 : m2 0 39 2 = m1 0 39 2 := h2.eq rfl rfl
  have f8 : m2 0 39 4 = m1 0 39 4 := h2.eq rfl rfl
  have f11 : m2 4 45 1 = m1 4 45 1 := h2.eq rfl rfl
  have f12 : m2 4 45 2 = m1 4 45 2 := h2.eq rfl rfl
  have f14 : m2 4 45 1614 = m1 4 45 1614 := h2.eq rfl rfl
  have f15 : m2 4 45 1615 = m1 4 45 1615 := h2.eq rfl rfl
  have f16 : m2 4 45 1616 = m1 4 45 1616 := h2.eq rfl rfl
  have f17 : m2 4 45 1617 = m1 4 45 1617 := h2.eq rfl rfl
  have f18 : m2 4 40 4 = m1 4 40 4 := h2.eq rfl rfl
  have f19 : m2 4 44 3 = m1 4 44 3 := h2.eq rfl rfl
  have f20 : m2 1 8 9 = m1 1 8 9 := h2.eq rfl rfl
  have f21 : m2 1 8 13 = m1 1 8 13 := h2.eq rfl rfl
  have f22 : m2 1 19 3 = m1 1 19 3 := h2.eq rfl rfl
  have f23 : m2 1 19 4 = m1 1 19 4 := h2.eq rfl rfl
  have f24 : m2 1 19 5 = m1 1 19 5 := h2.eq rfl rfl
  have f25 : m2 1 39 0 = m1 1 39 0 := h2.eq rfl rfl
  have f26 : m2 1 39 1 = m1 1 39 1 := h2.eq rfl rfl
  have f27 : m2 1 39 2 = m1 1 39 2 := h2.eq rfl rfl
  have f28 : m2 1 39 4 = m1 1 39 4 := h2.eq rfl rfl
  have f29 : m2 4 47 0 = m1 4 47 0 := h2.eq rfl rfl
  have f30 : m2 4 47 13 = m1 4 47 13 := h2.eq rfl rfl
  have f31 : m2 4 47 1 = m1 4 47 1 := h2.eq rfl rfl
  have f32 : m2 4 47 2 = m1 4 47 2 := h2.eq rfl rfl
  have f33 : m2 4 47 3 = m1 4 47 3 := h2.eq rfl rfl
  have f34 : m2 4 47 1614 = m1 4 47 1614 := h2.eq rfl rfl
  have f35 : m2 4 47 1615 = m1 4 47 1615 := h2.eq rfl rfl
  have f36 : m2 4 47 1616 = m1 4 47 1616 := h2.eq rfl rfl
  have f37 : m2 4 47 1617 = m1 4 47 1617 := h2.eq rfl rfl
  have hp : m1 4 45 1 * m1 4 45 2 = m 0 19 3 * m 0 19 4 := by rw [show m1 4 45 1 = m 0 19 3 by omega, show m1 4 45 2 = m 0 19 4 by omega]
  try simp only [e2, e3, e5, e6, e7, e8, e9, e10, e11, e12, e13, e14, e15, e16, e17, e18, e19, e20, e21, e22, e23, e24, e25, e26, e27, e28, e29, e30, e31, e32, e33, e34, e35, e36, e37] at p2a hp
  unfold Rel
  try simp only [f0, f1, f2, f3, f4, f5, f6, f7, f8, f11, f12, f14, f15, f16, f17, f18, f19, f20, f21, f22, f23, f24, f25, f26, f27, f28, f29, f30, f31, f32, f33, f34, f35, f36, f37]
  try simp only [e2, e3, e5, e6, e7, e8, e9, e10, e11, e12, e13, e14, e15, e16, e17, e18, e19, e20, e21, e22, e23, e24, e25, e26, e27, e28, e29, e30, e31, e32, e33, e34, e35, e36, e37]
  clear h1 h2 e2 e3 e5 e6 e7 e8 e9 e10 e11 e12 e13 e14 e15 e16 e17 e18 e19 e20 e21 e22 e23 e24 e25 e26 e27 e28 e29 e30 e31 e32 e33 e34 e35 e36 e37 f0 f1 f2 f3 f4 f5 f6 f7 f8 f11 f12 f14 f15 f16 f17 f18 f19 f20 f21 f22 f23 f24 f25 f26 f27 f28 f29 f30 f31 f32 f33 f34 f35 f36 f37
  rcases p1a with p1a | p1a | p1a <;> rcases p2a with p2a | p2a | p2a
  all_goals first
    | (exfalso; omega)
    | (refine ⟨by omega, ⟨⟨by first | assumption | omega, by first | assumption | omega, by first | assumption | omega, by first | assumption | omega, by first | assumption | omega, by first | assumption | omega, by first | assumption | omega, by first | assumption | omega, by first | assumption | omega⟩, by omega, by omega, fun hi => by
        obtain ⟨⟨k0, k1, k2, k3, k4, k5, k6, k7, k8⟩, kb⟩ := rk (by omega)
        exact ⟨⟨by first | assumption | omega, by first | assumption | omega, by first | assumption | omega, by first | assumption | omega, by first | assumption | omega, by first | assumption | omega, by first | assumption | omega, by first | assumption | omega, by first | assumption | omega⟩, by omega⟩⟩⟩)
theorem rel_again {m m1 m2 : zM} {B B' B1 B2 a : Int} (hR : Rel B m) (hb : B + 900 ≤ B') (h1 : J (zfr [(0, 8, 9), (0, 8, 13)] zZ) m B1 m1) (p1a : (¬ (1 ≤ a ∧ a ≤ 900) ∧ m1 0 8 9 = m 0 8 9 ∧ m1 0 8 13 = m 0 8 13) ∨ (1 ≤ a ∧ a ≤ 900 ∧ m1 0 8 9 = min (m 0 8 9 + a) 2000000000 ∧ m1 0 8 13 = m 0 8 13 + a)) (h2 : J (zfr [(4, 45, 0), (4, 45, 13)] zZ) m1 B2 m2) (p2a : (¬ (1 ≤ a ∧ a ≤ 900) ∧ m2 4 45 0 = m1 4 45 0 ∧ m2 4 45 13 = m1 4 45 13) ∨ (1 ≤ a ∧ a ≤ 900 ∧ m2 4 45 0 = min (m1 4 45 0 + a) 2000000000 ∧ m2 4 45 13 = m1 4 45 13 + a)) : Rel B' m2 := by
  obtain ⟨⟨r0, r1, r2, r3, r4, r5, r6, r7, r8⟩, rb, ri, rk⟩ := hR
  have e2 : m1 0 19 3 = m 0 19 3 := h1.eq rfl rfl
  have e3 : m1 0 19 4 = m 0 19 4 := h1.eq rfl rfl
  have e4 : m1 0 19 5 = m 0 19 5 := h1.eq rfl rfl
  have e5 : m1 0 39 0 = m 0 39 0 := h1.eq rfl rfl
  have e6 : m1 0 39 1 = m 0 39 1 := h1.eq rfl rfl
  have e7 : m1 0 39 2 = m 0 39 2 := h1.eq rfl rfl
  have e8 : m1 0 39 4 = m 0 39 4 := h1.eq rfl rfl
  have e9 : m1 4 45 0 = m 4 45 0 := h1.eq rfl rfl
  have e10 : m1 4 45 13 = m 4 45 13 := h1.eq rfl rfl
  have e11 : m1 4 45 1 = m 4 45 1 := h1.eq rfl rfl
  have e12 : m1 4 45 2 = m 4 45 2 := h1.eq rfl rfl
  have e13 : m1 4 45 3 = m 4 45 3 := h1.eq rfl rfl
  have e14 : m1 4 45 1614 = m 4 45 1614 := h1.eq rfl rfl
  have e15 : m1 4 45 1615 = m 4 45 1615 := h1.eq rfl rfl
  have e16 : m1 4 45 1616 = m 4 45 1616 := h1.eq rfl rfl
  have e17 : m1 4 45 1617 = m 4 45 1617 := h1.eq rfl rfl
  have e18 : m1 4 40 4 = m 4 40 4 := h1.eq rfl rfl
  have e19 : m1 4 44 3 = m 4 44 3 := h1.eq rfl rfl
  have e20 : m1 1 8 9 = m 1 8 9 := h1.eq rfl rfl
  have e21 : m1 1 8 13 = m 1 8 13 := h1.eq rfl rfl
  have e22 : m1 1 19 3 = m 1 19 3 := h1.eq rfl rfl
  have e23 : m1 1 19 4 = m 1 19 4 := h1.eq rfl rfl
  have e24 : m1 1 19 5 = m 1 19 5 := h1.eq rfl rfl
  have e25 : m1 1 39 0 = m 1 39 0 := h1.eq rfl rfl
  have e26 : m1 1 39 1 = m 1 39 1 := h1.eq rfl rfl
  have e27 : m1 1 39 2 = m 1 39 2 := h1.eq rfl rfl
  have e28 : m1 1 39 4 = m 1 39 4 := h1.eq rfl rfl
  have e29 : m1 4 47 0 = m 4 47 0 := h1.eq rfl rfl
  have e30 : m1 4 47 13 = m 4 47 13 := h1.eq rfl rfl
  have e31 : m1 4 47 1 = m 4 47 1 := h1.eq rfl rfl
  have e32 : m1 4 47 2 = m 4 47 2 := h1.eq rfl rfl
  have e33 : m1 4 47 3 = m 4 47 3 := h1.eq rfl rfl
  have e34 : m1 4 47 1614 = m 4 47 1614 := h1.eq rfl rfl
  have e35 : m1 4 47 1615 = m 4 47 1615 := h1.eq rfl rfl
  have e36 : m1 4 47 1616 = m 4 47 1616 := h1.eq rfl rfl
  have e37 : m1 4 47 1617 = m 4 47 1617 := h1.eq rfl rfl
  have f0 : m2 0 8 9 = m1 0 8 9 := h2.eq rfl rfl
  have f1 : m2 0 8 13 = m1 0 8 13 := h2.eq rfl rfl
  have f2 : m2 0 19 3 = m1 0 19 3 := h2.eq rfl rfl
  have f3 : m2 0 19 4 = m1 0 19 4 := h2.eq rfl rfl
  have f4 : m2 0 19 5 = m1 0 19 5 := h2.eq rfl rfl
  have f5 : m2 0 39 0 = m1 0 39 0 := h2.eq rfl rfl
  have f6 : m2 0 39 1 = m1 0 39 1 := h2.eq rfl rfl
  have f7 : m2 0 39 2 = m1 0 39 2 := h2.eq rfl rfl
  have f8 : m2 0 39 4 = m1 0 39 4 := h2.eq rfl rfl
  have f11 : m2 4 45 1 = m1 4 45 1 := h2.eq rfl rfl
  have f12 : m2 4 45 2 = m1 4 45 2 := h2.eq rfl rfl
  have f13 : m2 4 45 3 = m1 4 45 3 := h2.eq rfl rfl
  have f14 : m2 4 45 1614 = m1 4 45 1614 := h2.eq rfl rfl
  have f15 : m2 4 45 1615 = m1 4 45 1615 := h2.eq rfl rfl
  have f16 : m2 4 45 1616 = m1 4 45 1616 := h2.eq rfl rfl
  have f17 : m2 4 45 1617 = m1 4 45 1617 := h2.eq rfl rfl
  have f18 : m2 4 40 4 = m1 4 40 4 := h2.eq rfl rfl
  have f19 : m2 4 44 3 = m1 4 44 3 := h2.eq rfl rfl
  have f20 : m2 1 8 9 = m1 1 8 9 := h2.eq rfl rfl
  have f21 : m2 1 8 13 = m1 1 8 13 := h2.eq rfl rfl
  have f22 : m2 1 19 3 = m1 1 19 3 := h2.eq rfl rfl
  have f23 : m2 1 19 4 = m1 1 19 4 := h2.eq rfl rfl
  have f24 : m2 1 19 5 = m1 1 19 5 := h2.eq rfl rfl
  have f25 : m2 1 39 0 = m1 1 39 0 := h2.eq rfl rfl
  have f26 : m2 1 39 1 = m1 1 39 1 := h2.eq rfl rfl
  have f27 : m2 1 39 2 = m1 1 39 2 := h2.eq rfl rfl
  have f28 : m2 1 39 4 = m1 1 39 4 := h2.eq rfl rfl
  have f29 : m2 4 47 0 = m1 4 47 0 := h2.eq rfl rfl
  have f30 : m2 4 47 13 = m1 4 47 13 := h2.eq rfl rfl
  have f31 : m2 4 47 1 = m1 4 47 1 := h2.eq rfl rfl
  have f32 : m2 4 47 2 = m1 4 47 2 := h2.eq rfl rfl
  have f33 : m2 4 47 3 = m1 4 47 3 := h2.eq rfl rfl
  have f34 : m2 4 47 1614 = m1 4 47 1614 := h2.eq rfl rfl
  have f35 : m2 4 47 1615 = m1 4 47 1615 := h2.eq rfl rfl
  have f36 : m2 4 47 1616 = m1 4 47 1616 := h2.eq rfl rfl
  have f37 : m2 4 47 1617 = m1 4 47 1617 := h2.eq rfl rfl
  try simp only [e2, e3, e4, e5, e6, e7, e8, e9, e10, e11, e12, e13, e14, e15, e16, e17, e18, e19, e20, e21, e22, e23, e24, e25, e26, e27, e28, e29, e30, e31, e32, e33, e34, e35, e36, e37] at p2a
  unfold Rel
  try simp only [f0, f1, f2, f3, f4, f5, f6, f7, f8, f11, f12, f13, f14, f15, f16, f17, f18, f19, f20, f21, f22, f23, f24, f25, f26, f27, f28, f29, f30, f31, f32, f33, f34, f35, f36, f37]
  try simp only [e2, e3, e4, e5, e6, e7, e8, e9, e10, e11, e12, e13, e14, e15, e16, e17, e18, e19, e20, e21, e22, e23, e24, e25, e26, e27, e28, e29, e30, e31, e32, e33, e34, e35, e36, e37]
  clear h1 h2 e2 e3 e4 e5 e6 e7 e8 e9 e10 e11 e12 e13 e14 e15 e16 e17 e18 e19 e20 e21 e22 e23 e24 e25 e26 e27 e28 e29 e30 e31 e32 e33 e34 e35 e36 e37 f0 f1 f2 f3 f4 f5 f6 f7 f8 f11 f12 f13 f14 f15 f16 f17 f18 f19 f20 f21 f22 f23 f24 f25 f26 f27 f28 f29 f30 f31 f32 f33 f34 f35 f36 f37
  rcases p1a with p1a | p1a <;> rcases p2a with p2a | p2a
  all_goals first
    | (exfalso; omega)
    | (refine ⟨⟨by first | assumption | omega, by first | assumption | omega, by first | assumption | omega, by first | assumption | omega, by first | assumption | omega, by first | assumption | omega, by first | assumption | omega, by first | assumption | omega, by first | assumption | omega⟩, by omega, by omega, fun hi => by
        obtain ⟨⟨k0, k1, k2, k3, k4, k5, k6, k7, k8⟩, kb⟩ := rk (by omega)
        exact ⟨⟨by first | assumption | omega, by first | assumption | omega, by first | assumption | omega, by first | assumption | omega, by first | assumption | omega, by first | assumption | omega, by first | assumption | omega, by first | assumption | omega, by first | assumption | omega⟩, by omega⟩⟩)
theorem rel_move {m m1 m2 : zM} {B B' B1 B2 v w a : Int} (hR : Rel B m) (hb : B + 900 ≤ B') (h1 : J (zfr [(0, 8, 9)] zZ) m B1 m1) (p1a : (v = -1 ∧ ¬ (m 0 39 0 = 0 ∧ 0 ≤ a ∧ a ≤ 2000000000) ∧ m1 0 8 9 = m 0 8 9) ∨ (v = m 0 8 9 ∧ m 0 39 0 = 0 ∧ 0 ≤ a ∧ a ≤ 2000000000 ∧ m1 0 8 9 = a)) (h2 : J (zfr [(4, 45, 0)] zZ) m1 B2 m2) (p2a : (w = -1 ∧ ¬ (m1 4 45 1614 = 0 ∧ 0 ≤ a ∧ a ≤ 2000000000) ∧ m2 4 45 0 = m1 4 45 0) ∨ (w = m1 4 45 0 ∧ m1 4 45 1614 = 0 ∧ 0 ≤ a ∧ a ≤ 2000000000 ∧ m2 4 45 0 = a)) : v = w ∧ Rel B' m2 := by
  obtain ⟨⟨r0, r1, r2, r3, r4, r5, r6, r7, r8⟩, rb, ri, rk⟩ := hR
  have e1 : m1 0 8 13 = m 0 8 13 := h1.eq rfl rfl
  have e2 : m1 0 19 3 = m 0 19 3 := h1.eq rfl rfl
  have e3 : m1 0 19 4 = m 0 19 4 := h1.eq rfl rfl
  have e4 : m1 0 19 5 = m 0 19 5 := h1.eq rfl rfl
  have e5 : m1 0 39 0 = m 0 39 0 := h1.eq rfl rfl
  have e6 : m1 0 39 1 = m 0 39 1 := h1.eq rfl rfl
  have e7 : m1 0 39 2 = m 0 39 2 := h1.eq rfl rfl
  have e8 : m1 0 39 4 = m 0 39 4 := h1.eq rfl rfl
  have e9 : m1 4 45 0 = m 4 45 0 := h1.eq rfl rfl
  have e10 : m1 4 45 13 = m 4 45 13 := h1.eq rfl rfl
  have e11 : m1 4 45 1 = m 4 45 1 := h1.eq rfl rfl
  have e12 : m1 4 45 2 = m 4 45 2 := h1.eq rfl rfl
  have e13 : m1 4 45 3 = m 4 45 3 := h1.eq rfl rfl
  have e14 : m1 4 45 1614 = m 4 45 1614 := h1.eq rfl rfl
  have e15 : m1 4 45 1615 = m 4 45 1615 := h1.eq rfl rfl
  have e16 : m1 4 45 1616 = m 4 45 1616 := h1.eq rfl rfl
  have e17 : m1 4 45 1617 = m 4 45 1617 := h1.eq rfl rfl
  have e18 : m1 4 40 4 = m 4 40 4 := h1.eq rfl rfl
  have e19 : m1 4 44 3 = m 4 44 3 := h1.eq rfl rfl
  have e20 : m1 1 8 9 = m 1 8 9 := h1.eq rfl rfl
  have e21 : m1 1 8 13 = m 1 8 13 := h1.eq rfl rfl
  have e22 : m1 1 19 3 = m 1 19 3 := h1.eq rfl rfl
  have e23 : m1 1 19 4 = m 1 19 4 := h1.eq rfl rfl
  have e24 : m1 1 19 5 = m 1 19 5 := h1.eq rfl rfl
  have e25 : m1 1 39 0 = m 1 39 0 := h1.eq rfl rfl
  have e26 : m1 1 39 1 = m 1 39 1 := h1.eq rfl rfl
  have e27 : m1 1 39 2 = m 1 39 2 := h1.eq rfl rfl
  have e28 : m1 1 39 4 = m 1 39 4 := h1.eq rfl rfl
  have e29 : m1 4 47 0 = m 4 47 0 := h1.eq rfl rfl
  have e30 : m1 4 47 13 = m 4 47 13 := h1.eq rfl rfl
  have e31 : m1 4 47 1 = m 4 47 1 := h1.eq rfl rfl
  have e32 : m1 4 47 2 = m 4 47 2 := h1.eq rfl rfl
  have e33 : m1 4 47 3 = m 4 47 3 := h1.eq rfl rfl
  have e34 : m1 4 47 1614 = m 4 47 1614 := h1.eq rfl rfl
  have e35 : m1 4 47 1615 = m 4 47 1615 := h1.eq rfl rfl
  have e36 : m1 4 47 1616 = m 4 47 1616 := h1.eq rfl rfl
  have e37 : m1 4 47 1617 = m 4 47 1617 := h1.eq rfl rfl
  have f0 : m2 0 8 9 = m1 0 8 9 := h2.eq rfl rfl
  have f1 : m2 0 8 13 = m1 0 8 13 := h2.eq rfl rfl
  have f2 : m2 0 19 3 = m1 0 19 3 := h2.eq rfl rfl
  have f3 : m2 0 19 4 = m1 0 19 4 := h2.eq rfl rfl
  have f4 : m2 0 19 5 = m1 0 19 5 := h2.eq rfl rfl
  have f5 : m2 0 39 0 = m1 0 39 0 := h2.eq rfl rfl
  have f6 : m2 0 39 1 = m1 0 39 1 := h2.eq rfl rfl
  have f7 : m2 0 39 2 = m1 0 39 2 := h2.eq rfl rfl
  have f8 : m2 0 39 4 = m1 0 39 4 := h2.eq rfl rfl
  have f10 : m2 4 45 13 = m1 4 45 13 := h2.eq rfl rfl
  have f11 : m2 4 45 1 = m1 4 45 1 := h2.eq rfl rfl
  have f12 : m2 4 45 2 = m1 4 45 2 := h2.eq rfl rfl
  have f13 : m2 4 45 3 = m1 4 45 3 := h2.eq rfl rfl
  have f14 : m2 4 45 1614 = m1 4 45 1614 := h2.eq rfl rfl
  have f15 : m2 4 45 1615 = m1 4 45 1615 := h2.eq rfl rfl
  have f16 : m2 4 45 1616 = m1 4 45 1616 := h2.eq rfl rfl
  have f17 : m2 4 45 1617 = m1 4 45 1617 := h2.eq rfl rfl
  have f18 : m2 4 40 4 = m1 4 40 4 := h2.eq rfl rfl
  have f19 : m2 4 44 3 = m1 4 44 3 := h2.eq rfl rfl
  have f20 : m2 1 8 9 = m1 1 8 9 := h2.eq rfl rfl
  have f21 : m2 1 8 13 = m1 1 8 13 := h2.eq rfl rfl
  have f22 : m2 1 19 3 = m1 1 19 3 := h2.eq rfl rfl
  have f23 : m2 1 19 4 = m1 1 19 4 := h2.eq rfl rfl
  have f24 : m2 1 19 5 = m1 1 19 5 := h2.eq rfl rfl
  have f25 : m2 1 39 0 = m1 1 39 0 := h2.eq rfl rfl
  have f26 : m2 1 39 1 = m1 1 39 1 := h2.eq rfl rfl
  have f27 : m2 1 39 2 = m1 1 39 2 := h2.eq rfl rfl
  have f28 : m2 1 39 4 = m1 1 39 4 := h2.eq rfl rfl
  have f29 : m2 4 47 0 = m1 4 47 0 := h2.eq rfl rfl
  have f30 : m2 4 47 13 = m1 4 47 13 := h2.eq rfl rfl
  have f31 : m2 4 47 1 = m1 4 47 1 := h2.eq rfl rfl
  have f32 : m2 4 47 2 = m1 4 47 2 := h2.eq rfl rfl
  have f33 : m2 4 47 3 = m1 4 47 3 := h2.eq rfl rfl
  have f34 : m2 4 47 1614 = m1 4 47 1614 := h2.eq rfl rfl
  have f35 : m2 4 47 1615 = m1 4 47 1615 := h2.eq rfl rfl
  have f36 : m2 4 47 1616 = m1 4 47 1616 := h2.eq rfl rfl
  have f37 : m2 4 47 1617 = m1 4 47 1617 := h2.eq rfl rfl
  try simp only [e1, e2, e3, e4, e5, e6, e7, e8, e9, e10, e11, e12, e13, e14, e15, e16, e17, e18, e19, e20, e21, e22, e23, e24, e25, e26, e27, e28, e29, e30, e31, e32, e33, e34, e35, e36, e37] at p2a
  unfold Rel
  try simp only [f0, f1, f2, f3, f4, f5, f6, f7, f8, f10, f11, f12, f13, f14, f15, f16, f17, f18, f19, f20, f21, f22, f23, f24, f25, f26, f27, f28, f29, f30, f31, f32, f33, f34, f35, f36, f37]
  try simp only [e1, e2, e3, e4, e5, e6, e7, e8, e9, e10, e11, e12, e13, e14, e15, e16, e17, e18, e19, e20, e21, e22, e23, e24, e25, e26, e27, e28, e29, e30, e31, e32, e33, e34, e35, e36, e37]
  clear h1 h2 e1 e2 e3 e4 e5 e6 e7 e8 e9 e10 e11 e12 e13 e14 e15 e16 e17 e18 e19 e20 e21 e22 e23 e24 e25 e26 e27 e28 e29 e30 e31 e32 e33 e34 e35 e36 e37 f0 f1 f2 f3 f4 f5 f6 f7 f8 f10 f11 f12 f13 f14 f15 f16 f17 f18 f19 f20 f21 f22 f23 f24 f25 f26 f27 f28 f29 f30 f31 f32 f33 f34 f35 f36 f37
  rcases p1a with p1a | p1a <;> rcases p2a with p2a | p2a
  all_goals first
    | (exfalso; omega)
    | (refine ⟨by omega, ⟨⟨by first | assumption | omega, by first | assumption | omega, by first | assumption | omega, by first | assumption | omega, by first | assumption | omega, by first | assumption | omega, by first | assumption | omega, by first | assumption | omega, by first | assumption | omega⟩, by omega, by omega, fun hi => by
        obtain ⟨⟨k0, k1, k2, k3, k4, k5, k6, k7, k8⟩, kb⟩ := rk (by omega)
        exact ⟨⟨by first | assumption | omega, by first | assumption | omega, by first | assumption | omega, by first | assumption | omega, by first | assumption | omega, by first | assumption | omega, by first | assumption | omega, by first | assumption | omega, by first | assumption | omega⟩, by omega⟩⟩⟩)
theorem rel_off {m m1 m2 : zM} {B B' B1 B2 v w a : Int} (hR : Rel B m) (hb : B + 900 ≤ B') (h1 : J (zfr [(0, 8, 9), (0, 19, 5)] zZ) m B1 m1) (p1a : (v = -1 ∧ ¬ (1 ≤ a ∧ a ≤ 100000 ∧ m 0 8 9 + a ≤ 2000000000) ∧ m1 0 8 9 = m 0 8 9 ∧ m1 0 19 5 = m 0 19 5) ∨ (v = m 0 8 9 + a ∧ 1 ≤ a ∧ a ≤ 100000 ∧ m 0 8 9 + a ≤ 2000000000 ∧ m1 0 8 9 = m 0 8 9 + a ∧ m1 0 19 5 = 0)) (h2 : J (zfr [(4, 45, 0), (4, 45, 3)] zZ) m1 B2 m2) (p2a : (w = -1 ∧ ¬ (1 ≤ a ∧ a ≤ 100000 ∧ m1 4 45 0 + a ≤ 2000000000) ∧ m2 4 45 0 = m1 4 45 0 ∧ m2 4 45 3 = m1 4 45 3) ∨ (w = m1 4 45 0 + a ∧ 1 ≤ a ∧ a ≤ 100000 ∧ m1 4 45 0 + a ≤ 2000000000 ∧ m2 4 45 0 = m1 4 45 0 + a ∧ m2 4 45 3 = 0)) : v = w ∧ Rel B' m2 := by
  obtain ⟨⟨r0, r1, r2, r3, r4, r5, r6, r7, r8⟩, rb, ri, rk⟩ := hR
  have e1 : m1 0 8 13 = m 0 8 13 := h1.eq rfl rfl
  have e2 : m1 0 19 3 = m 0 19 3 := h1.eq rfl rfl
  have e3 : m1 0 19 4 = m 0 19 4 := h1.eq rfl rfl
  have e5 : m1 0 39 0 = m 0 39 0 := h1.eq rfl rfl
  have e6 : m1 0 39 1 = m 0 39 1 := h1.eq rfl rfl
  have e7 : m1 0 39 2 = m 0 39 2 := h1.eq rfl rfl
  have e8 : m1 0 39 4 = m 0 39 4 := h1.eq rfl rfl
  have e9 : m1 4 45 0 = m 4 45 0 := h1.eq rfl rfl
  have e10 : m1 4 45 13 = m 4 45 13 := h1.eq rfl rfl
  have e11 : m1 4 45 1 = m 4 45 1 := h1.eq rfl rfl
  have e12 : m1 4 45 2 = m 4 45 2 := h1.eq rfl rfl
  have e13 : m1 4 45 3 = m 4 45 3 := h1.eq rfl rfl
  have e14 : m1 4 45 1614 = m 4 45 1614 := h1.eq rfl rfl
  have e15 : m1 4 45 1615 = m 4 45 1615 := h1.eq rfl rfl
  have e16 : m1 4 45 1616 = m 4 45 1616 := h1.eq rfl rfl
  have e17 : m1 4 45 1617 = m 4 45 1617 := h1.eq rfl rfl
  have e18 : m1 4 40 4 = m 4 40 4 := h1.eq rfl rfl
  have e19 : m1 4 44 3 = m 4 44 3 := h1.eq rfl rfl
  have e20 : m1 1 8 9 = m 1 8 9 := h1.eq rfl rfl
  have e21 : m1 1 8 13 = m 1 8 13 := h1.eq rfl rfl
  have e22 : m1 1 19 3 = m 1 19 3 := h1.eq rfl rfl
  have e23 : m1 1 19 4 = m 1 19 4 := h1.eq rfl rfl
  have e24 : m1 1 19 5 = m 1 19 5 := h1.eq rfl rfl
  have e25 : m1 1 39 0 = m 1 39 0 := h1.eq rfl rfl
  have e26 : m1 1 39 1 = m 1 39 1 := h1.eq rfl rfl
  have e27 : m1 1 39 2 = m 1 39 2 := h1.eq rfl rfl
  have e28 : m1 1 39 4 = m 1 39 4 := h1.eq rfl rfl
  have e29 : m1 4 47 0 = m 4 47 0 := h1.eq rfl rfl
  have e30 : m1 4 47 13 = m 4 47 13 := h1.eq rfl rfl
  have e31 : m1 4 47 1 = m 4 47 1 := h1.eq rfl rfl
  have e32 : m1 4 47 2 = m 4 47 2 := h1.eq rfl rfl
  have e33 : m1 4 47 3 = m 4 47 3 := h1.eq rfl rfl
  have e34 : m1 4 47 1614 = m 4 47 1614 := h1.eq rfl rfl
  have e35 : m1 4 47 1615 = m 4 47 1615 := h1.eq rfl rfl
  have e36 : m1 4 47 1616 = m 4 47 1616 := h1.eq rfl rfl
  have e37 : m1 4 47 1617 = m 4 47 1617 := h1.eq rfl rfl
  have f0 : m2 0 8 9 = m1 0 8 9 := h2.eq rfl rfl
  have f1 : m2 0 8 13 = m1 0 8 13 := h2.eq rfl rfl
  have f2 : m2 0 19 3 = m1 0 19 3 := h2.eq rfl rfl
  have f3 : m2 0 19 4 = m1 0 19 4 := h2.eq rfl rfl
  have f4 : m2 0 19 5 = m1 0 19 5 := h2.eq rfl rfl
  have f5 : m2 0 39 0 = m1 0 39 0 := h2.eq rfl rfl
  have f6 : m2 0 39 1 = m1 0 39 1 := h2.eq rfl rfl
  have f7 : m2 0 39 2 = m1 0 39 2 := h2.eq rfl rfl
  have f8 : m2 0 39 4 = m1 0 39 4 := h2.eq rfl rfl
  have f10 : m2 4 45 13 = m1 4 45 13 := h2.eq rfl rfl
  have f11 : m2 4 45 1 = m1 4 45 1 := h2.eq rfl rfl
  have f12 : m2 4 45 2 = m1 4 45 2 := h2.eq rfl rfl
  have f14 : m2 4 45 1614 = m1 4 45 1614 := h2.eq rfl rfl
  have f15 : m2 4 45 1615 = m1 4 45 1615 := h2.eq rfl rfl
  have f16 : m2 4 45 1616 = m1 4 45 1616 := h2.eq rfl rfl
  have f17 : m2 4 45 1617 = m1 4 45 1617 := h2.eq rfl rfl
  have f18 : m2 4 40 4 = m1 4 40 4 := h2.eq rfl rfl
  have f19 : m2 4 44 3 = m1 4 44 3 := h2.eq rfl rfl
  have f20 : m2 1 8 9 = m1 1 8 9 := h2.eq rfl rfl
  have f21 : m2 1 8 13 = m1 1 8 13 := h2.eq rfl rfl
  have f22 : m2 1 19 3 = m1 1 19 3 := h2.eq rfl rfl
  have f23 : m2 1 19 4 = m1 1 19 4 := h2.eq rfl rfl
  have f24 : m2 1 19 5 = m1 1 19 5 := h2.eq rfl rfl
  have f25 : m2 1 39 0 = m1 1 39 0 := h2.eq rfl rfl
  have f26 : m2 1 39 1 = m1 1 39 1 := h2.eq rfl rfl
  have f27 : m2 1 39 2 = m1 1 39 2 := h2.eq rfl rfl
  have f28 : m2 1 39 4 = m1 1 39 4 := h2.eq rfl rfl
  have f29 : m2 4 47 0 = m1 4 47 0 := h2.eq rfl rfl
  have f30 : m2 4 47 13 = m1 4 47 13 := h2.eq rfl rfl
  have f31 : m2 4 47 1 = m1 4 47 1 := h2.eq rfl rfl
  have f32 : m2 4 47 2 = m1 4 47 2 := h2.eq rfl rfl
  have f33 : m2 4 47 3 = m1 4 47 3 := h2.eq rfl rfl
  have f34 : m2 4 47 1614 = m1 4 47 1614 := h2.eq rfl rfl
  have f35 : m2 4 47 1615 = m1 4 47 1615 := h2.eq rfl rfl
  have f36 : m2 4 47 1616 = m1 4 47 1616 := h2.eq rfl rfl
  have f37 : m2 4 47 1617 = m1 4 47 1617 := h2.eq rfl rfl
  try simp only [e1, e2, e3, e5, e6, e7, e8, e9, e10, e11, e12, e13, e14, e15, e16, e17, e18, e19, e20, e21, e22, e23, e24, e25, e26, e27, e28, e29, e30, e31, e32, e33, e34, e35, e36, e37] at p2a
  unfold Rel
  try simp only [f0, f1, f2, f3, f4, f5, f6, f7, f8, f10, f11, f12, f14, f15, f16, f17, f18, f19, f20, f21, f22, f23, f24, f25, f26, f27, f28, f29, f30, f31, f32, f33, f34, f35, f36, f37]
  try simp only [e1, e2, e3, e5, e6, e7, e8, e9, e10, e11, e12, e13, e14, e15, e16, e17, e18, e19, e20, e21, e22, e23, e24, e25, e26, e27, e28, e29, e30, e31, e32, e33, e34, e35, e36, e37]
  clear h1 h2 e1 e2 e3 e5 e6 e7 e8 e9 e10 e11 e12 e13 e14 e15 e16 e17 e18 e19 e20 e21 e22 e23 e24 e25 e26 e27 e28 e29 e30 e31 e32 e33 e34 e35 e36 e37 f0 f1 f2 f3 f4 f5 f6 f7 f8 f10 f11 f12 f14 f15 f16 f17 f18 f19 f20 f21 f22 f23 f24 f25 f26 f27 f28 f29 f30 f31 f32 f33 f34 f35 f36 f37
  rcases p1a with p1a | p1a <;> rcases p2a with p2a | p2a
  all_goals first
    | (exfalso; omega)
    | (refine ⟨by omega, ⟨⟨by first | assumption | omega, by first | assumption | omega, by first | assumption | omega, by first | assumption | omega, by first | assumption | omega, by first | assumption | omega, by first | assumption | omega, by first | assumption | omega, by first | assumption | omega⟩, by omega, by omega, fun hi => by
        obtain ⟨⟨k0, k1, k2, k3, k4, k5, k6, k7, k8⟩, kb⟩ := rk (by omega)
        exact ⟨⟨by first | assumption | omega, by first | assumption | omega, by first | assumption | omega, by first | assumption | omega, by first | assumption | omega, by first | assumption | omega, by first | assumption | omega, by first | assumption | omega, by first | assumption | omega⟩, by omega⟩⟩⟩)
theorem rel_seal {m m1 m2 : zM} {B B' B1 B2 v w a : Int} (hR : Rel B m) (hb : B + 900 ≤ B') (h1 : J (zfr [(0, 39, 0), (0, 39, 1)] zZ) m B1 m1) (p1a : (v = 1 ∧ m 0 39 0 = 0 ∧ 0 ≤ a ∧ a ≤ 9999 ∧ m1 0 39 0 = 1 ∧ m1 0 39 1 = a) ∨ (v = 0 ∧ ¬ (m 0 39 0 = 0 ∧ 0 ≤ a ∧ a ≤ 9999) ∧ m1 0 39 0 = m 0 39 0 ∧ m1 0 39 1 = m 0 39 1)) (h2 : J (zfr [(4, 45, 1614), (4, 45, 1615)] zZ) m1 B2 m2) (p2a : (w = 1 ∧ m1 4 45 1614 = 0 ∧ 0 ≤ a ∧ a ≤ 9999 ∧ m2 4 45 1614 = 1 ∧ m2 4 45 1615 = a) ∨ (w = 0 ∧ ¬ (m1 4 45 1614 = 0 ∧ 0 ≤ a ∧ a ≤ 9999) ∧ m2 4 45 1614 = m1 4 45 1614 ∧ m2 4 45 1615 = m1 4 45 1615)) : v = w ∧ Rel B' m2 := by
  obtain ⟨⟨r0, r1, r2, r3, r4, r5, r6, r7, r8⟩, rb, ri, rk⟩ := hR
  have e0 : m1 0 8 9 = m 0 8 9 := h1.eq rfl rfl
  have e1 : m1 0 8 13 = m 0 8 13 := h1.eq rfl rfl
  have e2 : m1 0 19 3 = m 0 19 3 := h1.eq rfl rfl
  have e3 : m1 0 19 4 = m 0 19 4 := h1.eq rfl rfl
  have e4 : m1 0 19 5 = m 0 19 5 := h1.eq rfl rfl
  have e7 : m1 0 39 2 = m 0 39 2 := h1.eq rfl rfl
  have e8 : m1 0 39 4 = m 0 39 4 := h1.eq rfl rfl
  have e9 : m1 4 45 0 = m 4 45 0 := h1.eq rfl rfl
  have e10 : m1 4 45 13 = m 4 45 13 := h1.eq rfl rfl
  have e11 : m1 4 45 1 = m 4 45 1 := h1.eq rfl rfl
  have e12 : m1 4 45 2 = m 4 45 2 := h1.eq rfl rfl
  have e13 : m1 4 45 3 = m 4 45 3 := h1.eq rfl rfl
  have e14 : m1 4 45 1614 = m 4 45 1614 := h1.eq rfl rfl
  have e15 : m1 4 45 1615 = m 4 45 1615 := h1.eq rfl rfl
  have e16 : m1 4 45 1616 = m 4 45 1616 := h1.eq rfl rfl
  have e17 : m1 4 45 1617 = m 4 45 1617 := h1.eq rfl rfl
  have e18 : m1 4 40 4 = m 4 40 4 := h1.eq rfl rfl
  have e19 : m1 4 44 3 = m 4 44 3 := h1.eq rfl rfl
  have e20 : m1 1 8 9 = m 1 8 9 := h1.eq rfl rfl
  have e21 : m1 1 8 13 = m 1 8 13 := h1.eq rfl rfl
  have e22 : m1 1 19 3 = m 1 19 3 := h1.eq rfl rfl
  have e23 : m1 1 19 4 = m 1 19 4 := h1.eq rfl rfl
  have e24 : m1 1 19 5 = m 1 19 5 := h1.eq rfl rfl
  have e25 : m1 1 39 0 = m 1 39 0 := h1.eq rfl rfl
  have e26 : m1 1 39 1 = m 1 39 1 := h1.eq rfl rfl
  have e27 : m1 1 39 2 = m 1 39 2 := h1.eq rfl rfl
  have e28 : m1 1 39 4 = m 1 39 4 := h1.eq rfl rfl
  have e29 : m1 4 47 0 = m 4 47 0 := h1.eq rfl rfl
  have e30 : m1 4 47 13 = m 4 47 13 := h1.eq rfl rfl
  have e31 : m1 4 47 1 = m 4 47 1 := h1.eq rfl rfl
  have e32 : m1 4 47 2 = m 4 47 2 := h1.eq rfl rfl
  have e33 : m1 4 47 3 = m 4 47 3 := h1.eq rfl rfl
  have e34 : m1 4 47 1614 = m 4 47 1614 := h1.eq rfl rfl
  have e35 : m1 4 47 1615 = m 4 47 1615 := h1.eq rfl rfl
  have e36 : m1 4 47 1616 = m 4 47 1616 := h1.eq rfl rfl
  have e37 : m1 4 47 1617 = m 4 47 1617 := h1.eq rfl rfl
  have f0 : m2 0 8 9 = m1 0 8 9 := h2.eq rfl rfl
  have f1 : m2 0 8 13 = m1 0 8 13 := h2.eq rfl rfl
  have f2 : m2 0 19 3 = m1 0 19 3 := h2.eq rfl rfl
  have f3 : m2 0 19 4 = m1 0 19 4 := h2.eq rfl rfl
  have f4 : m2 0 19 5 = m1 0 19 5 := h2.eq rfl rfl
  have f5 : m2 0 39 0 = m1 0 39 0 := h2.eq rfl rfl
  have f6 : m2 0 39 1 = m1 0 39 1 := h2.eq rfl rfl
  have f7 : m2 0 39 2 = m1 0 39 2 := h2.eq rfl rfl
  have f8 : m2 0 39 4 = m1 0 39 4 := h2.eq rfl rfl
  have f9 : m2 4 45 0 = m1 4 45 0 := h2.eq rfl rfl
  have f10 : m2 4 45 13 = m1 4 45 13 := h2.eq rfl rfl
  have f11 : m2 4 45 1 = m1 4 45 1 := h2.eq rfl rfl
  have f12 : m2 4 45 2 = m1 4 45 2 := h2.eq rfl rfl
  have f13 : m2 4 45 3 = m1 4 45 3 := h2.eq rfl rfl
  have f16 : m2 4 45 1616 = m1 4 45 1616 := h2.eq rfl rfl
  have f17 : m2 4 45 1617 = m1 4 45 1617 := h2.eq rfl rfl
  have f18 : m2 4 40 4 = m1 4 40 4 := h2.eq rfl rfl
  have f19 : m2 4 44 3 = m1 4 44 3 := h2.eq rfl rfl
  have f20 : m2 1 8 9 = m1 1 8 9 := h2.eq rfl rfl
  have f21 : m2 1 8 13 = m1 1 8 13 := h2.eq rfl rfl
  have f22 : m2 1 19 3 = m1 1 19 3 := h2.eq rfl rfl
  have f23 : m2 1 19 4 = m1 1 19 4 := h2.eq rfl rfl
  have f24 : m2 1 19 5 = m1 1 19 5 := h2.eq rfl rfl
  have f25 : m2 1 39 0 = m1 1 39 0 := h2.eq rfl rfl
  have f26 : m2 1 39 1 = m1 1 39 1 := h2.eq rfl rfl
  have f27 : m2 1 39 2 = m1 1 39 2 := h2.eq rfl rfl
  have f28 : m2 1 39 4 = m1 1 39 4 := h2.eq rfl rfl
  have f29 : m2 4 47 0 = m1 4 47 0 := h2.eq rfl rfl
  have f30 : m2 4 47 13 = m1 4 47 13 := h2.eq rfl rfl
  have f31 : m2 4 47 1 = m1 4 47 1 := h2.eq rfl rfl
  have f32 : m2 4 47 2 = m1 4 47 2 := h2.eq rfl rfl
  have f33 : m2 4 47 3 = m1 4 47 3 := h2.eq rfl rfl
  have f34 : m2 4 47 1614 = m1 4 47 1614 := h2.eq rfl rfl
  have f35 : m2 4 47 1615 = m1 4 47 1615 := h2.eq rfl rfl
  have f36 : m2 4 47 1616 = m1 4 47 1616 := h2.eq rfl rfl
  have f37 : m2 4 47 1617 = m1 4 47 1617 := h2.eq rfl rfl
  try simp only [e0, e1, e2, e3, e4, e7, e8, e9, e10, e11, e12, e13, e14, e15, e16, e17, e18, e19, e20, e21, e22, e23, e24, e25, e26, e27, e28, e29, e30, e31, e32, e33, e34, e35, e36, e37] at p2a
  unfold Rel
  try simp only [f0, f1, f2, f3, f4, f5, f6, f7, f8, f9, f10, f11, f12, f13, f16, f17, f18, f19, f20, f21, f22, f23, f24, f25, f26, f27, f28, f29, f30, f31, f32, f33, f34, f35, f36, f37]
  try simp only [e0, e1, e2, e3, e4, e7, e8, e9, e10, e11, e12, e13, e14, e15, e16, e17, e18, e19, e20, e21, e22, e23, e24, e25, e26, e27, e28, e29, e30, e31, e32, e33, e34, e35, e36, e37]
  clear h1 h2 e0 e1 e2 e3 e4 e7 e8 e9 e10 e11 e12 e13 e14 e15 e16 e17 e18 e19 e20 e21 e22 e23 e24 e25 e26 e27 e28 e29 e30 e31 e32 e33 e34 e35 e36 e37 f0 f1 f2 f3 f4 f5 f6 f7 f8 f9 f10 f11 f12 f13 f16 f17 f18 f19 f20 f21 f22 f23 f24 f25 f26 f27 f28 f29 f30 f31 f32 f33 f34 f35 f36 f37
  rcases p1a with p1a | p1a <;> rcases p2a with p2a | p2a
  all_goals first
    | (exfalso; omega)
    | (refine ⟨by omega, ⟨⟨by first | assumption | omega, by first | assumption | omega, by first | assumption | omega, by first | assumption | omega, by first | assumption | omega, by first | assumption | omega, by first | assumption | omega, by first | assumption | omega, by first | assumption | omega⟩, by omega, by omega, fun hi => by
        obtain ⟨⟨k0, k1, k2, k3, k4, k5, k6, k7, k8⟩, kb⟩ := rk (by omega)
        exact ⟨⟨by first | assumption | omega, by first | assumption | omega, by first | assumption | omega, by first | assumption | omega, by first | assumption | omega, by first | assumption | omega, by first | assumption | omega, by first | assumption | omega, by first | assumption | omega⟩, by omega⟩⟩⟩)
theorem rel_open {m m1 m2 : zM} {B B' B1 B2 v w a : Int} (hR : Rel B m) (hb : B + 900 ≤ B') (h1 : J (zfr [(0, 39, 0), (0, 39, 2), (0, 39, 4)] zZ) m B1 m1) (p1a : (v = 0 ∧ ¬ (m 0 39 0 = 1 ∧ m 0 39 4 ≤ m 0 8 9) ∧ m1 0 39 0 = m 0 39 0 ∧ m1 0 39 2 = m 0 39 2 ∧ m1 0 39 4 = m 0 39 4) ∨ (v = 1 ∧ m 0 39 0 = 1 ∧ m 0 39 4 ≤ m 0 8 9 ∧ a = m 0 39 1 ∧ m1 0 39 0 = 0 ∧ m1 0 39 2 = 0 ∧ m1 0 39 4 = 0) ∨ (v = 0 ∧ m 0 39 0 = 1 ∧ m 0 39 4 ≤ m 0 8 9 ∧ ¬ (a = m 0 39 1) ∧ m 0 39 2 + 1 < 3 ∧ m1 0 39 0 = m 0 39 0 ∧ m1 0 39 4 = m 0 39 4 ∧ m1 0 39 2 = m 0 39 2 + 1) ∨ (v = 0 ∧ m 0 39 0 = 1 ∧ m 0 39 4 ≤ m 0 8 9 ∧ ¬ (a = m 0 39 1) ∧ 3 ≤ m 0 39 2 + 1 ∧ m1 0 39 0 = m 0 39 0 ∧ m1 0 39 2 = 0 ∧ m1 0 39 4 = m 0 8 9 + 300)) (h2 : J (zfr [(4, 45, 1614), (4, 45, 1616), (4, 45, 1617)] zZ) m1 B2 m2) (p2a : (w = 0 ∧ ¬ (m1 4 45 1614 = 1 ∧ m1 4 45 1617 ≤ m1 4 45 0) ∧ m2 4 45 1614 = m1 4 45 1614 ∧ m2 4 45 1616 = m1 4 45 1616 ∧ m2 4 45 1617 = m1 4 45 1617) ∨ (w = 1 ∧ m1 4 45 1614 = 1 ∧ m1 4 45 1617 ≤ m1 4 45 0 ∧ a = m1 4 45 1615 ∧ m2 4 45 1614 = 0 ∧ m2 4 45 1616 = 0 ∧ m2 4 45 1617 = 0) ∨ (w = 0 ∧ m1 4 45 1614 = 1 ∧ m1 4 45 1617 ≤ m1 4 45 0 ∧ ¬ (a = m1 4 45 1615) ∧ m1 4 45 1616 + 1 < 3 ∧ m2 4 45 1614 = m1 4 45 1614 ∧ m2 4 45 1617 = m1 4 45 1617 ∧ m2 4 45 1616 = m1 4 45 1616 + 1) ∨ (w = 0 ∧ m1 4 45 1614 = 1 ∧ m1 4 45 1617 ≤ m1 4 45 0 ∧ ¬ (a = m1 4 45 1615) ∧ 3 ≤ m1 4 45 1616 + 1 ∧ m2 4 45 1614 = m1 4 45 1614 ∧ m2 4 45 1616 = 0 ∧ m2 4 45 1617 = m1 4 45 0 + 300)) : v = w ∧ Rel B' m2 := by
  obtain ⟨⟨r0, r1, r2, r3, r4, r5, r6, r7, r8⟩, rb, ri, rk⟩ := hR
  have e0 : m1 0 8 9 = m 0 8 9 := h1.eq rfl rfl
  have e1 : m1 0 8 13 = m 0 8 13 := h1.eq rfl rfl
  have e2 : m1 0 19 3 = m 0 19 3 := h1.eq rfl rfl
  have e3 : m1 0 19 4 = m 0 19 4 := h1.eq rfl rfl
  have e4 : m1 0 19 5 = m 0 19 5 := h1.eq rfl rfl
  have e6 : m1 0 39 1 = m 0 39 1 := h1.eq rfl rfl
  have e9 : m1 4 45 0 = m 4 45 0 := h1.eq rfl rfl
  have e10 : m1 4 45 13 = m 4 45 13 := h1.eq rfl rfl
  have e11 : m1 4 45 1 = m 4 45 1 := h1.eq rfl rfl
  have e12 : m1 4 45 2 = m 4 45 2 := h1.eq rfl rfl
  have e13 : m1 4 45 3 = m 4 45 3 := h1.eq rfl rfl
  have e14 : m1 4 45 1614 = m 4 45 1614 := h1.eq rfl rfl
  have e15 : m1 4 45 1615 = m 4 45 1615 := h1.eq rfl rfl
  have e16 : m1 4 45 1616 = m 4 45 1616 := h1.eq rfl rfl
  have e17 : m1 4 45 1617 = m 4 45 1617 := h1.eq rfl rfl
  have e18 : m1 4 40 4 = m 4 40 4 := h1.eq rfl rfl
  have e19 : m1 4 44 3 = m 4 44 3 := h1.eq rfl rfl
  have e20 : m1 1 8 9 = m 1 8 9 := h1.eq rfl rfl
  have e21 : m1 1 8 13 = m 1 8 13 := h1.eq rfl rfl
  have e22 : m1 1 19 3 = m 1 19 3 := h1.eq rfl rfl
  have e23 : m1 1 19 4 = m 1 19 4 := h1.eq rfl rfl
  have e24 : m1 1 19 5 = m 1 19 5 := h1.eq rfl rfl
  have e25 : m1 1 39 0 = m 1 39 0 := h1.eq rfl rfl
  have e26 : m1 1 39 1 = m 1 39 1 := h1.eq rfl rfl
  have e27 : m1 1 39 2 = m 1 39 2 := h1.eq rfl rfl
  have e28 : m1 1 39 4 = m 1 39 4 := h1.eq rfl rfl
  have e29 : m1 4 47 0 = m 4 47 0 := h1.eq rfl rfl
  have e30 : m1 4 47 13 = m 4 47 13 := h1.eq rfl rfl
  have e31 : m1 4 47 1 = m 4 47 1 := h1.eq rfl rfl
  have e32 : m1 4 47 2 = m 4 47 2 := h1.eq rfl rfl
  have e33 : m1 4 47 3 = m 4 47 3 := h1.eq rfl rfl
  have e34 : m1 4 47 1614 = m 4 47 1614 := h1.eq rfl rfl
  have e35 : m1 4 47 1615 = m 4 47 1615 := h1.eq rfl rfl
  have e36 : m1 4 47 1616 = m 4 47 1616 := h1.eq rfl rfl
  have e37 : m1 4 47 1617 = m 4 47 1617 := h1.eq rfl rfl
  have f0 : m2 0 8 9 = m1 0 8 9 := h2.eq rfl rfl
  have f1 : m2 0 8 13 = m1 0 8 13 := h2.eq rfl rfl
  have f2 : m2 0 19 3 = m1 0 19 3 := h2.eq rfl rfl
  have f3 : m2 0 19 4 = m1 0 19 4 := h2.eq rfl rfl
  have f4 : m2 0 19 5 = m1 0 19 5 := h2.eq rfl rfl
  have f5 : m2 0 39 0 = m1 0 39 0 := h2.eq rfl rfl
  have f6 : m2 0 39 1 = m1 0 39 1 := h2.eq rfl rfl
  have f7 : m2 0 39 2 = m1 0 39 2 := h2.eq rfl rfl
  have f8 : m2 0 39 4 = m1 0 39 4 := h2.eq rfl rfl
  have f9 : m2 4 45 0 = m1 4 45 0 := h2.eq rfl rfl
  have f10 : m2 4 45 13 = m1 4 45 13 := h2.eq rfl rfl
  have f11 : m2 4 45 1 = m1 4 45 1 := h2.eq rfl rfl
  have f12 : m2 4 45 2 = m1 4 45 2 := h2.eq rfl rfl
  have f13 : m2 4 45 3 = m1 4 45 3 := h2.eq rfl rfl
  have f15 : m2 4 45 1615 = m1 4 45 1615 := h2.eq rfl rfl
  have f18 : m2 4 40 4 = m1 4 40 4 := h2.eq rfl rfl
  have f19 : m2 4 44 3 = m1 4 44 3 := h2.eq rfl rfl
  have f20 : m2 1 8 9 = m1 1 8 9 := h2.eq rfl rfl
  have f21 : m2 1 8 13 = m1 1 8 13 := h2.eq rfl rfl
  have f22 : m2 1 19 3 = m1 1 19 3 := h2.eq rfl rfl
  have f23 : m2 1 19 4 = m1 1 19 4 := h2.eq rfl rfl
  have f24 : m2 1 19 5 = m1 1 19 5 := h2.eq rfl rfl
  have f25 : m2 1 39 0 = m1 1 39 0 := h2.eq rfl rfl
  have f26 : m2 1 39 1 = m1 1 39 1 := h2.eq rfl rfl
  have f27 : m2 1 39 2 = m1 1 39 2 := h2.eq rfl rfl
  have f28 : m2 1 39 4 = m1 1 39 4 := h2.eq rfl rfl
  have f29 : m2 4 47 0 = m1 4 47 0 := h2.eq rfl rfl
  have f30 : m2 4 47 13 = m1 4 47 13 := h2.eq rfl rfl
  have f31 : m2 4 47 1 = m1 4 47 1 := h2.eq rfl rfl
  have f32 : m2 4 47 2 = m1 4 47 2 := h2.eq rfl rfl
  have f33 : m2 4 47 3 = m1 4 47 3 := h2.eq rfl rfl
  have f34 : m2 4 47 1614 = m1 4 47 1614 := h2.eq rfl rfl
  have f35 : m2 4 47 1615 = m1 4 47 1615 := h2.eq rfl rfl
  have f36 : m2 4 47 1616 = m1 4 47 1616 := h2.eq rfl rfl
  have f37 : m2 4 47 1617 = m1 4 47 1617 := h2.eq rfl rfl
  try simp only [e0, e1, e2, e3, e4, e6, e9, e10, e11, e12, e13, e14, e15, e16, e17, e18, e19, e20, e21, e22, e23, e24, e25, e26, e27, e28, e29, e30, e31, e32, e33, e34, e35, e36, e37] at p2a
  unfold Rel
  try simp only [f0, f1, f2, f3, f4, f5, f6, f7, f8, f9, f10, f11, f12, f13, f15, f18, f19, f20, f21, f22, f23, f24, f25, f26, f27, f28, f29, f30, f31, f32, f33, f34, f35, f36, f37]
  try simp only [e0, e1, e2, e3, e4, e6, e9, e10, e11, e12, e13, e14, e15, e16, e17, e18, e19, e20, e21, e22, e23, e24, e25, e26, e27, e28, e29, e30, e31, e32, e33, e34, e35, e36, e37]
  clear h1 h2 e0 e1 e2 e3 e4 e6 e9 e10 e11 e12 e13 e14 e15 e16 e17 e18 e19 e20 e21 e22 e23 e24 e25 e26 e27 e28 e29 e30 e31 e32 e33 e34 e35 e36 e37 f0 f1 f2 f3 f4 f5 f6 f7 f8 f9 f10 f11 f12 f13 f15 f18 f19 f20 f21 f22 f23 f24 f25 f26 f27 f28 f29 f30 f31 f32 f33 f34 f35 f36 f37
  rcases p1a with p1a | p1a | p1a | p1a <;> rcases p2a with p2a | p2a | p2a | p2a
  all_goals first
    | (exfalso; omega)
    | (refine ⟨by omega, ⟨⟨by first | assumption | omega, by first | assumption | omega, by first | assumption | omega, by first | assumption | omega, by first | assumption | omega, by first | assumption | omega, by first | assumption | omega, by first | assumption | omega, by first | assumption | omega⟩, by omega, by omega, fun hi => by
        obtain ⟨⟨k0, k1, k2, k3, k4, k5, k6, k7, k8⟩, kb⟩ := rk (by omega)
        exact ⟨⟨by first | assumption | omega, by first | assumption | omega, by first | assumption | omega, by first | assumption | omega, by first | assumption | omega, by first | assumption | omega, by first | assumption | omega, by first | assumption | omega, by first | assumption | omega⟩, by omega⟩⟩⟩)
theorem rel_image {m m1 m2 : zM} {B B' B1 B2 v w a : Int} (hR : Rel B m) (hb : B + 900 ≤ B') (h1 : J (zfr [(0, 8, 9), (0, 8, 11), (0, 8, 13), (0, 23, 3), (0, 19, 3), (0, 19, 4), (0, 19, 5), (0, 39, 0), (0, 39, 1), (0, 39, 2), (0, 39, 4), (1, 8, 9), (1, 8, 11), (1, 8, 13), (1, 23, 3), (1, 19, 3), (1, 19, 4), (1, 19, 5), (1, 39, 0), (1, 39, 1), (1, 39, 2), (1, 39, 4), (4, 40, 4)] zZ) m B1 m1) (p1a : (a = 1 ∧ v = 1 ∧ m1 4 40 4 = 1 ∧ m1 0 8 9 = m 0 8 9 ∧ m1 0 8 11 = m 0 8 11 ∧ m1 0 8 13 = m 0 8 13 ∧ m1 0 23 3 = m 0 23 3 ∧ m1 0 19 3 = m 0 19 3 ∧ m1 0 19 4 = m 0 19 4 ∧ m1 0 19 5 = m 0 19 5 ∧ m1 0 39 0 = m 0 39 0 ∧ m1 0 39 1 = m 0 39 1 ∧ m1 0 39 2 = m 0 39 2 ∧ m1 0 39 4 = m 0 39 4 ∧ m1 1 8 9 = m 0 8 9 ∧ m1 1 8 11 = m 0 8 11 ∧ m1 1 8 13 = m 0 8 13 ∧ m1 1 23 3 = m 0 23 3 ∧ m1 1 19 3 = m 0 19 3 ∧ m1 1 19 4 = m 0 19 4 ∧ m1 1 19 5 = m 0 19 5 ∧ m1 1 39 0 = m 0 39 0 ∧ m1 1 39 1 = m 0 39 1 ∧ m1 1 39 2 = m 0 39 2 ∧ m1 1 39 4 = m 0 39 4) ∨ (a = 0 ∧ m 4 40 4 = 1 ∧ v = 1 ∧ m1 4 40 4 = 1 ∧ m1 1 8 9 = m 1 8 9 ∧ m1 1 8 11 = m 1 8 11 ∧ m1 1 8 13 = m 1 8 13 ∧ m1 1 23 3 = m 1 23 3 ∧ m1 1 19 3 = m 1 19 3 ∧ m1 1 19 4 = m 1 19 4 ∧ m1 1 19 5 = m 1 19 5 ∧ m1 1 39 0 = m 1 39 0 ∧ m1 1 39 1 = m 1 39 1 ∧ m1 1 39 2 = m 1 39 2 ∧ m1 1 39 4 = m 1 39 4 ∧ m1 0 8 9 = m 1 8 9 ∧ m1 0 8 11 = m 1 8 11 ∧ m1 0 8 13 = m 1 8 13 ∧ m1 0 23 3 = m 1 23 3 ∧ m1 0 19 3 = m 1 19 3 ∧ m1 0 19 4 = m 1 19 4 ∧ m1 0 19 5 = m 1 19 5 ∧ m1 0 39 0 = m 1 39 0 ∧ m1 0 39 1 = m 1 39 1 ∧ m1 0 39 2 = m 1 39 2 ∧ m1 0 39 4 = m 1 39 4) ∨ (a = 0 ∧ m 4 40 4 = 0 ∧ v = 0 ∧ m1 4 40 4 = 0 ∧ m1 0 8 9 = m 0 8 9 ∧ m1 0 8 11 = m 0 8 11 ∧ m1 0 8 13 = m 0 8 13 ∧ m1 0 23 3 = m 0 23 3 ∧ m1 0 19 3 = m 0 19 3 ∧ m1 0 19 4 = m 0 19 4 ∧ m1 0 19 5 = m 0 19 5 ∧ m1 0 39 0 = m 0 39 0 ∧ m1 0 39 1 = m 0 39 1 ∧ m1 0 39 2 = m 0 39 2 ∧ m1 0 39 4 = m 0 39 4 ∧ m1 1 8 9 = m 1 8 9 ∧ m1 1 8 11 = m 1 8 11 ∧ m1 1 8 13 = m 1 8 13 ∧ m1 1 23 3 = m 1 23 3 ∧ m1 1 19 3 = m 1 19 3 ∧ m1 1 19 4 = m 1 19 4 ∧ m1 1 19 5 = m 1 19 5 ∧ m1 1 39 0 = m 1 39 0 ∧ m1 1 39 1 = m 1 39 1 ∧ m1 1 39 2 = m 1 39 2 ∧ m1 1 39 4 = m 1 39 4)) (h2 : J (zfr [(4, 45, 0), (4, 45, 1), (4, 45, 2), (4, 45, 3), (4, 45, 11), (4, 45, 13), (4, 45, 18), (4, 45, 1614), (4, 45, 1615), (4, 45, 1616), (4, 45, 1617), (4, 47, 0), (4, 47, 1), (4, 47, 2), (4, 47, 3), (4, 47, 11), (4, 47, 13), (4, 47, 18), (4, 47, 1614), (4, 47, 1615), (4, 47, 1616), (4, 47, 1617), (4, 44, 3)] zZ) m1 B2 m2) (p2a : (a = 1 ∧ w = 1 ∧ m2 4 44 3 = 1 ∧ m2 4 45 0 = m1 4 45 0 ∧ m2 4 45 1 = m1 4 45 1 ∧ m2 4 45 2 = m1 4 45 2 ∧ m2 4 45 3 = m1 4 45 3 ∧ m2 4 45 11 = m1 4 45 11 ∧ m2 4 45 13 = m1 4 45 13 ∧ m2 4 45 18 = m1 4 45 18 ∧ m2 4 45 1614 = m1 4 45 1614 ∧ m2 4 45 1615 = m1 4 45 1615 ∧ m2 4 45 1616 = m1 4 45 1616 ∧ m2 4 45 1617 = m1 4 45 1617 ∧ m2 4 47 0 = m1 4 45 0 ∧ m2 4 47 1 = m1 4 45 1 ∧ m2 4 47 2 = m1 4 45 2 ∧ m2 4 47 3 = m1 4 45 3 ∧ m2 4 47 11 = m1 4 45 11 ∧ m2 4 47 13 = m1 4 45 13 ∧ m2 4 47 18 = m1 4 45 18 ∧ m2 4 47 1614 = m1 4 45 1614 ∧ m2 4 47 1615 = m1 4 45 1615 ∧ m2 4 47 1616 = m1 4 45 1616 ∧ m2 4 47 1617 = m1 4 45 1617) ∨ (a = 0 ∧ m1 4 44 3 = 1 ∧ w = 1 ∧ m2 4 44 3 = 1 ∧ m2 4 47 0 = m1 4 47 0 ∧ m2 4 47 1 = m1 4 47 1 ∧ m2 4 47 2 = m1 4 47 2 ∧ m2 4 47 3 = m1 4 47 3 ∧ m2 4 47 11 = m1 4 47 11 ∧ m2 4 47 13 = m1 4 47 13 ∧ m2 4 47 18 = m1 4 47 18 ∧ m2 4 47 1614 = m1 4 47 1614 ∧ m2 4 47 1615 = m1 4 47 1615 ∧ m2 4 47 1616 = m1 4 47 1616 ∧ m2 4 47 1617 = m1 4 47 1617 ∧ m2 4 45 0 = m1 4 47 0 ∧ m2 4 45 1 = m1 4 47 1 ∧ m2 4 45 2 = m1 4 47 2 ∧ m2 4 45 3 = m1 4 47 3 ∧ m2 4 45 11 = m1 4 47 11 ∧ m2 4 45 13 = m1 4 47 13 ∧ m2 4 45 18 = m1 4 47 18 ∧ m2 4 45 1614 = m1 4 47 1614 ∧ m2 4 45 1615 = m1 4 47 1615 ∧ m2 4 45 1616 = m1 4 47 1616 ∧ m2 4 45 1617 = m1 4 47 1617) ∨ (a = 0 ∧ m1 4 44 3 = 0 ∧ w = 0 ∧ m2 4 44 3 = 0 ∧ m2 4 45 0 = m1 4 45 0 ∧ m2 4 45 1 = m1 4 45 1 ∧ m2 4 45 2 = m1 4 45 2 ∧ m2 4 45 3 = m1 4 45 3 ∧ m2 4 45 11 = m1 4 45 11 ∧ m2 4 45 13 = m1 4 45 13 ∧ m2 4 45 18 = m1 4 45 18 ∧ m2 4 45 1614 = m1 4 45 1614 ∧ m2 4 45 1615 = m1 4 45 1615 ∧ m2 4 45 1616 = m1 4 45 1616 ∧ m2 4 45 1617 = m1 4 45 1617 ∧ m2 4 47 0 = m1 4 47 0 ∧ m2 4 47 1 = m1 4 47 1 ∧ m2 4 47 2 = m1 4 47 2 ∧ m2 4 47 3 = m1 4 47 3 ∧ m2 4 47 11 = m1 4 47 11 ∧ m2 4 47 13 = m1 4 47 13 ∧ m2 4 47 18 = m1 4 47 18 ∧ m2 4 47 1614 = m1 4 47 1614 ∧ m2 4 47 1615 = m1 4 47 1615 ∧ m2 4 47 1616 = m1 4 47 1616 ∧ m2 4 47 1617 = m1 4 47 1617)) : v = w ∧ Rel B' m2 := by
  obtain ⟨⟨r0, r1, r2, r3, r4, r5, r6, r7, r8⟩, rb, ri, rk⟩ := hR
  have e9 : m1 4 45 0 = m 4 45 0 := h1.eq rfl rfl
  have e10 : m1 4 45 13 = m 4 45 13 := h1.eq rfl rfl
  have e11 : m1 4 45 1 = m 4 45 1 := h1.eq rfl rfl
  have e12 : m1 4 45 2 = m 4 45 2 := h1.eq rfl rfl
  have e13 : m1 4 45 3 = m 4 45 3 := h1.eq rfl rfl
  have e14 : m1 4 45 1614 = m 4 45 1614 := h1.eq rfl rfl
  have e15 : m1 4 45 1615 = m 4 45 1615 := h1.eq rfl rfl
  have e16 : m1 4 45 1616 = m 4 45 1616 := h1.eq rfl rfl
  have e17 : m1 4 45 1617 = m 4 45 1617 := h1.eq rfl rfl
  have e19 : m1 4 44 3 = m 4 44 3 := h1.eq rfl rfl
  have e29 : m1 4 47 0 = m 4 47 0 := h1.eq rfl rfl
  have e30 : m1 4 47 13 = m 4 47 13 := h1.eq rfl rfl
  have e31 : m1 4 47 1 = m 4 47 1 := h1.eq rfl rfl
  have e32 : m1 4 47 2 = m 4 47 2 := h1.eq rfl rfl
  have e33 : m1 4 47 3 = m 4 47 3 := h1.eq rfl rfl
  have e34 : m1 4 47 1614 = m 4 47 1614 := h1.eq rfl rfl
  have e35 : m1 4 47 1615 = m 4 47 1615 := h1.eq rfl rfl
  have e36 : m1 4 47 1616 = m 4 47 1616 := h1.eq rfl rfl
  have e37 : m1 4 47 1617 = m 4 47 1617 := h1.eq rfl rfl
  have f0 : m2 0 8 9 = m1 0 8 9 := h2.eq rfl rfl
  have f1 : m2 0 8 13 = m1 0 8 13 := h2.eq rfl rfl
  have f2 : m2 0 19 3 = m1 0 19 3 := h2.eq rfl rfl
  have f3 : m2 0 19 4 = m1 0 19 4 := h2.eq rfl rfl
  have f4 : m2 0 19 5 = m1 0 19 5 := h2.eq rfl rfl
  have f5 : m2 0 39 0 = m1 0 39 0 := h2.eq rfl rfl
  have f6 : m2 0 39 1 = m1 0 39 1 := h2.eq rfl rfl
  have f7 : m2 0 39 2 = m1 0 39 2 := h2.eq rfl rfl
  have f8 : m2 0 39 4 = m1 0 39 4 := h2.eq rfl rfl
  have f18 : m2 4 40 4 = m1 4 40 4 := h2.eq rfl rfl
  have f20 : m2 1 8 9 = m1 1 8 9 := h2.eq rfl rfl
  have f21 : m2 1 8 13 = m1 1 8 13 := h2.eq rfl rfl
  have f22 : m2 1 19 3 = m1 1 19 3 := h2.eq rfl rfl
  have f23 : m2 1 19 4 = m1 1 19 4 := h2.eq rfl rfl
  have f24 : m2 1 19 5 = m1 1 19 5 := h2.eq rfl rfl
  have f25 : m2 1 39 0 = m1 1 39 0 := h2.eq rfl rfl
  have f26 : m2 1 39 1 = m1 1 39 1 := h2.eq rfl rfl
  have f27 : m2 1 39 2 = m1 1 39 2 := h2.eq rfl rfl
  have f28 : m2 1 39 4 = m1 1 39 4 := h2.eq rfl rfl
  try simp only [e9, e10, e11, e12, e13, e14, e15, e16, e17, e19, e29, e30, e31, e32, e33, e34, e35, e36, e37] at p2a
  unfold Rel
  try simp only [f0, f1, f2, f3, f4, f5, f6, f7, f8, f18, f20, f21, f22, f23, f24, f25, f26, f27, f28]
  try simp only [e9, e10, e11, e12, e13, e14, e15, e16, e17, e19, e29, e30, e31, e32, e33, e34, e35, e36, e37]
  clear h1 h2 e9 e10 e11 e12 e13 e14 e15 e16 e17 e19 e29 e30 e31 e32 e33 e34 e35 e36 e37 f0 f1 f2 f3 f4 f5 f6 f7 f8 f18 f20 f21 f22 f23 f24 f25 f26 f27 f28
  rcases p1a with p1a | p1a | p1a <;> rcases p2a with p2a | p2a | p2a
  all_goals first
    | (exfalso; omega)
    | (refine ⟨by omega, ⟨⟨by omega, by omega, by omega, by omega, by omega, by omega, by omega, by omega, by omega⟩, by omega, by omega, fun hi => ⟨⟨by omega, by omega, by omega, by omega, by omega, by omega, by omega, by omega, by omega⟩, by omega⟩⟩⟩)
    | (refine ⟨by omega, ⟨⟨by first | assumption | omega, by first | assumption | omega, by first | assumption | omega, by first | assumption | omega, by first | assumption | omega, by first | assumption | omega, by first | assumption | omega, by first | assumption | omega, by first | assumption | omega⟩, by omega, by omega, fun hi => by
        obtain ⟨⟨k0, k1, k2, k3, k4, k5, k6, k7, k8⟩, kb⟩ := rk (by omega)
        exact ⟨⟨by first | assumption | omega, by first | assumption | omega, by first | assumption | omega, by first | assumption | omega, by first | assumption | omega, by first | assumption | omega, by first | assumption | omega, by first | assumption | omega, by first | assumption | omega⟩, by omega⟩⟩⟩)
theorem ans_season {m m1 : zM} {B B1 v w a b : Int} (hR : Rel B m) (h : J (zfr [] zZ) m B1 m1) (p : (v = 1 ∧ m 0 39 0 = 0 ∧ 0 ≤ a ∧ a ≤ 3 ∧ -1 ≤ b ∧ b ≤ 364 ∧ ¬ (a = 0 ∧ b = -1)) ∨ (v = 0 ∧ ¬ (m 0 39 0 = 0 ∧ 0 ≤ a ∧ a ≤ 3 ∧ -1 ≤ b ∧ b ≤ 364 ∧ ¬ (a = 0 ∧ b = -1)))) (p' : (w = 1 ∧ m1 4 45 1614 = 0 ∧ 0 ≤ a ∧ a ≤ 3 ∧ -1 ≤ b ∧ b ≤ 364 ∧ ¬ (a = 0 ∧ b = -1)) ∨ (w = 0 ∧ ¬ (m1 4 45 1614 = 0 ∧ 0 ≤ a ∧ a ≤ 3 ∧ -1 ≤ b ∧ b ≤ 364 ∧ ¬ (a = 0 ∧ b = -1)))) : v = w := by
  obtain ⟨⟨r0, r1, r2, r3, r4, r5, r6, r7, r8⟩, -, -, -⟩ := hR
  have e1 : m1 4 45 1614 = m 4 45 1614 := h.eq rfl rfl
  have e2 : m1 4 45 13 = m 4 45 13 := h.eq rfl rfl
  omega
theorem ans_week {m m1 : zM} {B B1 v w a b c : Int} (hR : Rel B m) (h : J (zfr [] zZ) m B1 m1) (p : (v = 1 ∧ m 0 39 0 = 0 ∧ 0 ≤ a ∧ a ≤ 3 ∧ 0 ≤ b ∧ b ≤ 6 ∧ 0 ≤ c ∧ c ≤ 7) ∨ (v = 0 ∧ ¬ (m 0 39 0 = 0 ∧ 0 ≤ a ∧ a ≤ 3 ∧ 0 ≤ b ∧ b ≤ 6 ∧ 0 ≤ c ∧ c ≤ 7))) (p' : (w = 1 ∧ m1 4 45 1614 = 0 ∧ 0 ≤ a ∧ a ≤ 3 ∧ 0 ≤ b ∧ b ≤ 6 ∧ 0 ≤ c ∧ c ≤ 7) ∨ (w = 0 ∧ ¬ (m1 4 45 1614 = 0 ∧ 0 ≤ a ∧ a ≤ 3 ∧ 0 ≤ b ∧ b ≤ 6 ∧ 0 ≤ c ∧ c ≤ 7))) : v = w := by
  obtain ⟨⟨r0, r1, r2, r3, r4, r5, r6, r7, r8⟩, -, -, -⟩ := hR
  have e1 : m1 4 45 1614 = m 4 45 1614 := h.eq rfl rfl
  have e2 : m1 4 45 13 = m 4 45 13 := h.eq rfl rfl
  omega
theorem ans_set {m m1 : zM} {B B1 v w a b : Int} (hR : Rel B m) (h : J (zfr [] zZ) m B1 m1) (p : v = 1 ↔ (m 0 39 0 = 0 ∧ cBi a b = 1 ∧ ¬ (a = 1 ∧ 0 < m 0 8 13))) (p' : w = 1 ↔ (m1 4 45 1614 = 0 ∧ cBi a b = 1 ∧ ¬ (a = 1 ∧ 0 < m1 4 45 13))) (hv : 0 ≤ v ∧ v ≤ 1) (hw : 0 ≤ w ∧ w ≤ 1) : v = w := by
  obtain ⟨⟨r0, r1, r2, r3, r4, r5, r6, r7, r8⟩, -, -, -⟩ := hR
  have e1 : m1 4 45 1614 = m 4 45 1614 := h.eq rfl rfl
  have e2 : m1 4 45 13 = m 4 45 13 := h.eq rfl rfl
  omega
