/-! What each call does to the whole. -/
theorem op3_phases {c r : zM} {B a b : Int} (ha : I32 a) (hb9 : I32 b) (hc : OM (B + 110000) c) (hr : OM (B + 110000) r) (hB : B + 220000 ≤ 700000000) (h2 : Rel2 B c r) (h : MY B (c 0) (r 4 45)) : MY (B + 220000) ((f16_1 a b c).2 0) ((f202_1 a b r).2 4 45) := by
  obtain ⟨-, k2, -⟩ := q16_1 a b hc.1 hc.2 (by omega) ha hb9
  obtain ⟨-, k4, -⟩ := q202_1 a b hr.1 hr.2 (by omega) ha hb9
  have h2' := op_phases ha hb9 hc hr (by omega) (h2.up (show B ≤ B + 110000 by omega))
  replace h2' := h2'.2
  obtain ⟨hg, hw, hi, x15, x10, hx⟩ := id h
  obtain ⟨h1, hv, -, hb, hs, hp⟩ := id hg
  have hT := phases_G ha hb9 hc hr (by omega) (h2.1.2.2.1.up (show B ≤ B + 110000 by omega)) h.1 hw
  exact ⟨(hT.1.up (by omega) (by omega)), hT.2, (hi.fe (FE.j k2 0 5 rfl) (FW.j k4 4 5 rfl)), (by rw [(FE.j k2 0 13 rfl).p8_13 15 (by omega) (by omega)]; omega), (by rw [(FE.j k2 0 12 rfl).p8_10 10 (by omega) (by omega)]; omega), hx.fe (FE.j k2 0 5 rfl) (FE.j k2 0 7 rfl) (FE.j k2 0 8 rfl) (FE.j k2 0 10 rfl)⟩
theorem op3_sample {c r : zM} {B a b : Int} (ha : I32 a) (hb9 : I32 b) (hc : OM (B + 110000) c) (hr : OM (B + 110000) r) (hB : B + 220000 ≤ 700000000) (h2 : Rel2 B c r) (h : MY B (c 0) (r 4 45)) : MY (B + 220000) ((f19_1 a b c).2 0) ((f205_1 a b r).2 4 45) := by
  obtain ⟨-, k2, -⟩ := q19_1 a b hc.1 hc.2 (by omega) ha hb9
  obtain ⟨-, k4, -⟩ := q205_1 a b hr.1 hr.2 (by omega) ha hb9
  have h2' := op_sample ha hb9 hc hr (by omega) (h2.up (show B ≤ B + 110000 by omega))
  replace h2' := h2'.2
  obtain ⟨hg, hw, hi, x15, x10, hx⟩ := id h
  obtain ⟨h1, hv, -, hb, hs, hp⟩ := id hg
  have hT := sample_G (a := a) (b := b) hc hr (by omega) (by omega) (by omega) h.1 hw h2.1.2.1.2.2
  exact ⟨(hT.1.up (by omega) (by omega)), hT.2.1, (hi.fe (FE.j k2 0 5 rfl) (FW.j k4 4 5 rfl)), (by rw [hT.2.2.2.1]; omega), (by have := hT.2.2.2.2.1; omega), hT.2.2.2.2.2 hx⟩
theorem op3_again {c r : zM} {B a : Int} (ha : I32 a) (hc : OM (B + 110000) c) (hr : OM (B + 110000) r) (hB : B + 220000 ≤ 700000000) (h2 : Rel2 B c r) (h : MY B (c 0) (r 4 45)) : (f69_1 a c).1 = (f279_1 a r).1 ∧ MY (B + 220000) ((f69_1 a c).2 0) ((f279_1 a r).2 4 45) := by
  obtain ⟨-, k2, -⟩ := q69_1 a hc.1 hc.2 (by omega) ha
  obtain ⟨-, k4, -⟩ := q279_1 a hr.1 hr.2 (by omega) ha
  have h2' := op_again ha hc hr (by omega) (h2.up (show B ≤ B + 110000 by omega))
  obtain ⟨hg, hw, hi, x15, x10, hx⟩ := id h
  obtain ⟨h1, hv, -, hb, hs, hp⟩ := id hg
  have hT := again_G (a := a) h.1 hc hr (by omega) (by omega) (by omega)
  exact ⟨hT.1, (hT.2.1.up (by omega) (by omega)), (hw.fe hv.2.2.2.2 (FE.j k2 0 2 rfl) (FW.j k4 4 2 rfl)), (hi.fe (FE.j k2 0 5 rfl) (FW.j k4 4 5 rfl)), (by rw [hT.2.2.2.1]; omega), (by have := hT.2.2.2.2.1; omega), hT.2.2.2.2.2 hx⟩
theorem op3_set {c r : zM} {B a b : Int} (ha : I32 a) (hb9 : I32 b) (hc : OM (B + 110000) c) (hr : OM (B + 110000) r) (hB : B + 220000 ≤ 700000000) (h2 : Rel2 B c r) (h : MY B (c 0) (r 4 45)) : (f73_1 a b c).1 = (f280_1 a b r).1 ∧ MY (B + 220000) ((f73_1 a b c).2 0) ((f280_1 a b r).2 4 45) := by
  obtain ⟨-, k2, -⟩ := q73_1 a b hc.1 hc.2 (by omega) ha hb9
  obtain ⟨-, k4, -⟩ := q280_1 a b hr.1 hr.2 (by omega) ha hb9
  have h2' := op_set ha hb9 hc hr (by omega) (h2.up (show B ≤ B + 110000 by omega))
  obtain ⟨hg, hw, hi, x15, x10, hx⟩ := id h
  obtain ⟨h1, hv, -, hb, hs, hp⟩ := id hg
  have hT := set_P (a := a) (b := b) hc hr (by omega) (h2.1.2.2.1.up (show B ≤ B + 110000 by omega)) h.1 (by omega)
  exact ⟨hT.1, (MG.of h2'.1.1.symm (h1.n.fe (FE.j k2 0 13 rfl) (FW.j k4 4 13 rfl)) (h1.o.fe (FE.j k2 0 12 rfl) (FW.j k4 4 12 rfl)) (h1.r.fe (FE.j k2 0 10 rfl) (FW.j k4 4 10 rfl)) (h1.k.fe (FE.j k2 0 9 rfl) (FW.j k4 4 9 rfl)) (h1.l.fe (FE.j k2 0 6 rfl) (FW.j k4 4 6 rfl)) hT.2.2.2.2.1 hT.2.2.1 hT.2.2.2.1 (hv.st (FE.j k2 0 2 rfl) (FW.j k4 4 2 rfl) hT.2.1) h2'.1.2.2.2 ((hb.z7 (FE.j k2 0 9 rfl) (FE.j k2 0 10 rfl) (FE.j k2 0 12 rfl) (FE.j k2 0 13 rfl) hT.2.2.2.2.2).up (by omega) (by omega)) (by rw [(FE.j k2 0 12 rfl).p8_10 12 (by omega) (by omega), (FE.j k2 0 12 rfl).p8_10 11 (by omega) (by omega), (FE.j k2 0 12 rfl).p8_10 10 (by omega) (by omega)]; exact hs) (by rw [(FE.j k2 0 12 rfl).p8_10 11 (by omega) (by omega)]; exact hp)), (hw.fe hv.2.2.2.2 (FE.j k2 0 2 rfl) (FW.j k4 4 2 rfl)), (hi.fe (FE.j k2 0 5 rfl) (FW.j k4 4 5 rfl)), (by rw [(FE.j k2 0 13 rfl).p8_13 15 (by omega) (by omega)]; omega), (by rw [(FE.j k2 0 12 rfl).p8_10 10 (by omega) (by omega)]; omega), set_X (a := a) (b := b) hb (by omega) hx⟩
theorem op3_table {c r : zM} {B a b d : Int} (ha : I32 a) (hb9 : I32 b) (hd : I32 d) (hc : OM (B + 110000) c) (hr : OM (B + 110000) r) (hB : B + 220000 ≤ 700000000) (h2 : Rel2 B c r) (h : MY B (c 0) (r 4 45)) : MY (B + 220000) ((f78_1 a b d c).2 0) ((f240_1 a b d r).2 4 45) := by
  obtain ⟨-, k2, -⟩ := q78_1 a b d hc.1 hc.2 (by omega) ha hb9 hd
  obtain ⟨-, k4, -⟩ := q240_1 a b d hr.1 hr.2 (by omega) ha hb9 hd
  have h2' := op_table ha hb9 hd hc hr (by omega) (h2.up (show B ≤ B + 110000 by omega))
  replace h2' := h2'.2
  obtain ⟨hg, hw, hi, x15, x10, hx⟩ := id h
  obtain ⟨h1, hv, -, hb, hs, hp⟩ := id hg
  exact ⟨(MG.of h2'.1.1.symm (h1.n.fe (FE.j k2 0 13 rfl) (FW.j k4 4 13 rfl)) (h1.o.fe (FE.j k2 0 12 rfl) (FW.j k4 4 12 rfl)) (h1.r.fe (FE.j k2 0 10 rfl) (FW.j k4 4 10 rfl)) (h1.k.fe (FE.j k2 0 9 rfl) (FW.j k4 4 9 rfl)) (h1.l.fe (FE.j k2 0 6 rfl) (FW.j k4 4 6 rfl)) (h1.d.fe (FE.j k2 0 8 rfl) (FW.j k4 4 8 rfl)) (h1.ld.fe (FE.j k2 0 7 rfl) (FW.j k4 4 7 rfl)) (h1.od.fe (FE.j k2 0 7 rfl) ((FW.j k4 4 3 rfl) 8 (by omega) (by omega) (ja45_4 (by omega))) (FW.j k4 4 7 rfl)) (hv.fe (FE.j k2 0 2 rfl) (FE.j k2 0 3 rfl) (FW.j k4 4 2 rfl) (FW.j k4 4 3 rfl)) h2'.1.2.2.2 ((hb.fe (FE.j k2 0 7 rfl) (FE.j k2 0 9 rfl) (FE.j k2 0 10 rfl) (FE.j k2 0 12 rfl) (FE.j k2 0 13 rfl)).up (by omega) (by omega)) (by rw [(FE.j k2 0 12 rfl).p8_10 12 (by omega) (by omega), (FE.j k2 0 12 rfl).p8_10 11 (by omega) (by omega), (FE.j k2 0 12 rfl).p8_10 10 (by omega) (by omega)]; exact hs) (by rw [(FE.j k2 0 12 rfl).p8_10 11 (by omega) (by omega)]; exact hp)), (hw.fe hv.2.2.2.2 (FE.j k2 0 2 rfl) (FW.j k4 4 2 rfl)), (hi.fe (FE.j k2 0 5 rfl) (FW.j k4 4 5 rfl)), (by rw [(FE.j k2 0 13 rfl).p8_13 15 (by omega) (by omega)]; omega), (by rw [(FE.j k2 0 12 rfl).p8_10 10 (by omega) (by omega)]; omega), hx.fe (FE.j k2 0 5 rfl) (FE.j k2 0 7 rfl) (FE.j k2 0 8 rfl) (FE.j k2 0 10 rfl)⟩
theorem op3_wipe {c r : zM} {B a : Int} (ha : I32 a) (hc : OM (B + 110000) c) (hr : OM (B + 110000) r) (hB : B + 220000 ≤ 700000000) (h2 : Rel2 B c r) (h : MY B (c 0) (r 4 45)) : MY (B + 220000) ((f83_1 a c).2 0) ((f244_1 a r).2 4 45) := by
  obtain ⟨-, k2, -⟩ := q83_1 a hc.1 hc.2 (by omega) ha
  obtain ⟨-, k4, -⟩ := q244_1 a hr.1 hr.2 (by omega) ha
  have h2' := op_wipe ha hc hr (by omega) (h2.up (show B ≤ B + 110000 by omega))
  replace h2' := h2'.2
  obtain ⟨hg, hw, hi, x15, x10, hx⟩ := id h
  obtain ⟨h1, hv, -, hb, hs, hp⟩ := id hg
  exact ⟨(MG.of h2'.1.1.symm (h1.n.fe (FE.j k2 0 13 rfl) (FW.j k4 4 13 rfl)) (h1.o.fe (FE.j k2 0 12 rfl) (FW.j k4 4 12 rfl)) (h1.r.fe (FE.j k2 0 10 rfl) (FW.j k4 4 10 rfl)) (h1.k.fe (FE.j k2 0 9 rfl) (FW.j k4 4 9 rfl)) (h1.l.fe (FE.j k2 0 6 rfl) (FW.j k4 4 6 rfl)) (h1.d.fe (FE.j k2 0 8 rfl) (FW.j k4 4 8 rfl)) (h1.ld.fe (FE.j k2 0 7 rfl) (FW.j k4 4 7 rfl)) (h1.od.fe (FE.j k2 0 7 rfl) ((FW.j k4 4 3 rfl) 8 (by omega) (by omega) (ja45_4 (by omega))) (FW.j k4 4 7 rfl)) (hv.fe (FE.j k2 0 2 rfl) (FE.j k2 0 3 rfl) (FW.j k4 4 2 rfl) (FW.j k4 4 3 rfl)) h2'.1.2.2.2 ((hb.fe (FE.j k2 0 7 rfl) (FE.j k2 0 9 rfl) (FE.j k2 0 10 rfl) (FE.j k2 0 12 rfl) (FE.j k2 0 13 rfl)).up (by omega) (by omega)) (by rw [(FE.j k2 0 12 rfl).p8_10 12 (by omega) (by omega), (FE.j k2 0 12 rfl).p8_10 11 (by omega) (by omega), (FE.j k2 0 12 rfl).p8_10 10 (by omega) (by omega)]; exact hs) (by rw [(FE.j k2 0 12 rfl).p8_10 11 (by omega) (by omega)]; exact hp)), (hw.fe hv.2.2.2.2 (FE.j k2 0 2 rfl) (FW.j k4 4 2 rfl)), (hi.fe (FE.j k2 0 5 rfl) (FW.j k4 4 5 rfl)), (by rw [(FE.j k2 0 13 rfl).p8_13 15 (by omega) (by omega)]; omega), (by rw [(FE.j k2 0 12 rfl).p8_10 10 (by omega) (by omega)]; omega), hx.fe (FE.j k2 0 5 rfl) (FE.j k2 0 7 rfl) (FE.j k2 0 8 rfl) (FE.j k2 0 10 rfl)⟩
theorem op3_season {c r : zM} {B a b : Int} (ha : I32 a) (hb9 : I32 b) (hc : OM (B + 110000) c) (hr : OM (B + 110000) r) (hB : B + 220000 ≤ 700000000) (h2 : Rel2 B c r) (h : MY B (c 0) (r 4 45)) : MY (B + 220000) ((f122_1 a b c).2 0) ((f245_1 a b r).2 4 45) := by
  obtain ⟨-, k2, -⟩ := q122_1 a b hc.1 hc.2 (by omega) ha hb9
  obtain ⟨-, k4, -⟩ := q245_1 a b hr.1 hr.2 (by omega) ha hb9
  have h2' := op_season ha hb9 hc hr (by omega) (h2.up (show B ≤ B + 110000 by omega))
  replace h2' := h2'.2
  obtain ⟨hg, hw, hi, x15, x10, hx⟩ := id h
  obtain ⟨h1, hv, -, hb, hs, hp⟩ := id hg
  exact ⟨(MG.of h2'.1.1.symm (h1.n.fe (FE.j k2 0 13 rfl) (FW.j k4 4 13 rfl)) (h1.o.fe (FE.j k2 0 12 rfl) (FW.j k4 4 12 rfl)) (h1.r.fe (FE.j k2 0 10 rfl) (FW.j k4 4 10 rfl)) (h1.k.fe (FE.j k2 0 9 rfl) (FW.j k4 4 9 rfl)) (h1.l.fe (FE.j k2 0 6 rfl) (FW.j k4 4 6 rfl)) (h1.d.fe (FE.j k2 0 8 rfl) (FW.j k4 4 8 rfl)) (h1.ld.fe (FE.j k2 0 7 rfl) (FW.j k4 4 7 rfl)) (h1.od.fe (FE.j k2 0 7 rfl) ((FW.j k4 4 3 rfl) 8 (by omega) (by omega) (ja45_4 (by omega))) (FW.j k4 4 7 rfl)) (hv.fe (FE.j k2 0 2 rfl) (FE.j k2 0 3 rfl) (FW.j k4 4 2 rfl) (FW.j k4 4 3 rfl)) h2'.1.2.2.2 ((hb.fe (FE.j k2 0 7 rfl) (FE.j k2 0 9 rfl) (FE.j k2 0 10 rfl) (FE.j k2 0 12 rfl) (FE.j k2 0 13 rfl)).up (by omega) (by omega)) (by rw [(FE.j k2 0 12 rfl).p8_10 12 (by omega) (by omega), (FE.j k2 0 12 rfl).p8_10 11 (by omega) (by omega), (FE.j k2 0 12 rfl).p8_10 10 (by omega) (by omega)]; exact hs) (by rw [(FE.j k2 0 12 rfl).p8_10 11 (by omega) (by omega)]; exact hp)), (hw.fe hv.2.2.2.2 (FE.j k2 0 2 rfl) (FW.j k4 4 2 rfl)), (hi.fe (FE.j k2 0 5 rfl) (FW.j k4 4 5 rfl)), (by rw [(FE.j k2 0 13 rfl).p8_13 15 (by omega) (by omega)]; omega), (by rw [(FE.j k2 0 12 rfl).p8_10 10 (by omega) (by omega)]; omega), hx.fe (FE.j k2 0 5 rfl) (FE.j k2 0 7 rfl) (FE.j k2 0 8 rfl) (FE.j k2 0 10 rfl)⟩
theorem op3_week {c r : zM} {B a b d : Int} (ha : I32 a) (hb9 : I32 b) (hd : I32 d) (hc : OM (B + 110000) c) (hr : OM (B + 110000) r) (hB : B + 220000 ≤ 700000000) (h2 : Rel2 B c r) (h : MY B (c 0) (r 4 45)) : MY (B + 220000) ((f124_1 a b d c).2 0) ((f247_1 a b d r).2 4 45) := by
  obtain ⟨-, k2, -⟩ := q124_1 a b d hc.1 hc.2 (by omega) ha hb9 hd
  obtain ⟨-, k4, -⟩ := q247_1 a b d hr.1 hr.2 (by omega) ha hb9 hd
  have h2' := op_week ha hb9 hd hc hr (by omega) (h2.up (show B ≤ B + 110000 by omega))
  replace h2' := h2'.2
  obtain ⟨hg, hw, hi, x15, x10, hx⟩ := id h
  obtain ⟨h1, hv, -, hb, hs, hp⟩ := id hg
  exact ⟨(MG.of h2'.1.1.symm (h1.n.fe (FE.j k2 0 13 rfl) (FW.j k4 4 13 rfl)) (h1.o.fe (FE.j k2 0 12 rfl) (FW.j k4 4 12 rfl)) (h1.r.fe (FE.j k2 0 10 rfl) (FW.j k4 4 10 rfl)) (h1.k.fe (FE.j k2 0 9 rfl) (FW.j k4 4 9 rfl)) (h1.l.fe (FE.j k2 0 6 rfl) (FW.j k4 4 6 rfl)) (h1.d.fe (FE.j k2 0 8 rfl) (FW.j k4 4 8 rfl)) (h1.ld.fe (FE.j k2 0 7 rfl) (FW.j k4 4 7 rfl)) (h1.od.fe (FE.j k2 0 7 rfl) ((FW.j k4 4 3 rfl) 8 (by omega) (by omega) (ja45_4 (by omega))) (FW.j k4 4 7 rfl)) (hv.fe (FE.j k2 0 2 rfl) (FE.j k2 0 3 rfl) (FW.j k4 4 2 rfl) (FW.j k4 4 3 rfl)) h2'.1.2.2.2 ((hb.fe (FE.j k2 0 7 rfl) (FE.j k2 0 9 rfl) (FE.j k2 0 10 rfl) (FE.j k2 0 12 rfl) (FE.j k2 0 13 rfl)).up (by omega) (by omega)) (by rw [(FE.j k2 0 12 rfl).p8_10 12 (by omega) (by omega), (FE.j k2 0 12 rfl).p8_10 11 (by omega) (by omega), (FE.j k2 0 12 rfl).p8_10 10 (by omega) (by omega)]; exact hs) (by rw [(FE.j k2 0 12 rfl).p8_10 11 (by omega) (by omega)]; exact hp)), (hw.fe hv.2.2.2.2 (FE.j k2 0 2 rfl) (FW.j k4 4 2 rfl)), (hi.fe (FE.j k2 0 5 rfl) (FW.j k4 4 5 rfl)), (by rw [(FE.j k2 0 13 rfl).p8_13 15 (by omega) (by omega)]; omega), (by rw [(FE.j k2 0 12 rfl).p8_10 10 (by omega) (by omega)]; omega), hx.fe (FE.j k2 0 5 rfl) (FE.j k2 0 7 rfl) (FE.j k2 0 8 rfl) (FE.j k2 0 10 rfl)⟩
theorem op3_special {c r : zM} {B a b : Int} (ha : I32 a) (hb9 : I32 b) (hc : OM (B + 110000) c) (hr : OM (B + 110000) r) (hB : B + 220000 ≤ 700000000) (h2 : Rel2 B c r) (h : MY B (c 0) (r 4 45)) : MY (B + 220000) ((f125_1 a b c).2 0) ((f248_1 a b r).2 4 45) := by
  obtain ⟨-, k2, -⟩ := q125_1 a b hc.1 hc.2 (by omega) ha hb9
  obtain ⟨-, k4, -⟩ := q248_1 a b hr.1 hr.2 (by omega) ha hb9
  have h2' := op_special ha hb9 hc hr (by omega) (h2.up (show B ≤ B + 110000 by omega))
  replace h2' := h2'.2
  obtain ⟨hg, hw, hi, x15, x10, hx⟩ := id h
  obtain ⟨h1, hv, -, hb, hs, hp⟩ := id hg
  exact ⟨(MG.of h2'.1.1.symm (h1.n.fe (FE.j k2 0 13 rfl) (FW.j k4 4 13 rfl)) (h1.o.fe (FE.j k2 0 12 rfl) (FW.j k4 4 12 rfl)) (h1.r.fe (FE.j k2 0 10 rfl) (FW.j k4 4 10 rfl)) (h1.k.fe (FE.j k2 0 9 rfl) (FW.j k4 4 9 rfl)) (h1.l.fe (FE.j k2 0 6 rfl) (FW.j k4 4 6 rfl)) (h1.d.fe (FE.j k2 0 8 rfl) (FW.j k4 4 8 rfl)) (h1.ld.fe (FE.j k2 0 7 rfl) (FW.j k4 4 7 rfl)) (h1.od.fe (FE.j k2 0 7 rfl) ((FW.j k4 4 3 rfl) 8 (by omega) (by omega) (ja45_4 (by omega))) (FW.j k4 4 7 rfl)) (hv.fe (FE.j k2 0 2 rfl) (FE.j k2 0 3 rfl) (FW.j k4 4 2 rfl) (FW.j k4 4 3 rfl)) h2'.1.2.2.2 ((hb.fe (FE.j k2 0 7 rfl) (FE.j k2 0 9 rfl) (FE.j k2 0 10 rfl) (FE.j k2 0 12 rfl) (FE.j k2 0 13 rfl)).up (by omega) (by omega)) (by rw [(FE.j k2 0 12 rfl).p8_10 12 (by omega) (by omega), (FE.j k2 0 12 rfl).p8_10 11 (by omega) (by omega), (FE.j k2 0 12 rfl).p8_10 10 (by omega) (by omega)]; exact hs) (by rw [(FE.j k2 0 12 rfl).p8_10 11 (by omega) (by omega)]; exact hp)), (hw.fe hv.2.2.2.2 (FE.j k2 0 2 rfl) (FW.j k4 4 2 rfl)), (hi.fe (FE.j k2 0 5 rfl) (FW.j k4 4 5 rfl)), (by rw [(FE.j k2 0 13 rfl).p8_13 15 (by omega) (by omega)]; omega), (by rw [(FE.j k2 0 12 rfl).p8_10 10 (by omega) (by omega)]; omega), hx.fe (FE.j k2 0 5 rfl) (FE.j k2 0 7 rfl) (FE.j k2 0 8 rfl) (FE.j k2 0 10 rfl)⟩
theorem op3_seal {c r : zM} {B a : Int} (ha : I32 a) (hc : OM (B + 110000) c) (hr : OM (B + 110000) r) (hB : B + 220000 ≤ 700000000) (h2 : Rel2 B c r) (h : MY B (c 0) (r 4 45)) : MY (B + 220000) ((f114_1 a c).2 0) ((f276_1 a r).2 4 45) := by
  obtain ⟨-, k2, -⟩ := q114_1 a hc.1 hc.2 (by omega) ha
  obtain ⟨-, k4, -⟩ := q276_1 a hr.1 hr.2 (by omega) ha
  have h2' := op_seal ha hc hr (by omega) (h2.up (show B ≤ B + 110000 by omega))
  replace h2' := h2'.2
  obtain ⟨hg, hw, hi, x15, x10, hx⟩ := id h
  obtain ⟨h1, hv, -, hb, hs, hp⟩ := id hg
  have hT := seal_L (a := a) hc h2.1.1 (h2.1.2.2.1.up (show B ≤ B + 110000 by omega)) h1.l
  exact ⟨(MG.of h2'.1.1.symm (h1.n.fe (FE.j k2 0 13 rfl) (FW.j k4 4 13 rfl)) (h1.o.fe (FE.j k2 0 12 rfl) (FW.j k4 4 12 rfl)) (h1.r.fe (FE.j k2 0 10 rfl) (FW.j k4 4 10 rfl)) (h1.k.fe (FE.j k2 0 9 rfl) (FW.j k4 4 9 rfl)) hT (h1.d.fe (FE.j k2 0 8 rfl) (FW.j k4 4 8 rfl)) (h1.ld.fe (FE.j k2 0 7 rfl) (FW.j k4 4 7 rfl)) (h1.od.fe (FE.j k2 0 7 rfl) ((FW.j k4 4 3 rfl) 8 (by omega) (by omega) (ja45_4 (by omega))) (FW.j k4 4 7 rfl)) (hv.fe (FE.j k2 0 2 rfl) (FE.j k2 0 3 rfl) (FW.j k4 4 2 rfl) (FW.j k4 4 3 rfl)) h2'.1.2.2.2 ((hb.fe (FE.j k2 0 7 rfl) (FE.j k2 0 9 rfl) (FE.j k2 0 10 rfl) (FE.j k2 0 12 rfl) (FE.j k2 0 13 rfl)).up (by omega) (by omega)) (by rw [(FE.j k2 0 12 rfl).p8_10 12 (by omega) (by omega), (FE.j k2 0 12 rfl).p8_10 11 (by omega) (by omega), (FE.j k2 0 12 rfl).p8_10 10 (by omega) (by omega)]; exact hs) (by rw [(FE.j k2 0 12 rfl).p8_10 11 (by omega) (by omega)]; exact hp)), (hw.fe hv.2.2.2.2 (FE.j k2 0 2 rfl) (FW.j k4 4 2 rfl)), (hi.fe (FE.j k2 0 5 rfl) (FW.j k4 4 5 rfl)), (by rw [(FE.j k2 0 13 rfl).p8_13 15 (by omega) (by omega)]; omega), (by rw [(FE.j k2 0 12 rfl).p8_10 10 (by omega) (by omega)]; omega), hx.fe (FE.j k2 0 5 rfl) (FE.j k2 0 7 rfl) (FE.j k2 0 8 rfl) (FE.j k2 0 10 rfl)⟩
theorem op3_open {c r : zM} {B a : Int} (ha : I32 a) (hc : OM (B + 110000) c) (hr : OM (B + 110000) r) (hB : B + 220000 ≤ 700000000) (h2 : Rel2 B c r) (h : MY B (c 0) (r 4 45)) : MY (B + 220000) ((f116_1 a c).2 0) ((f277_1 a r).2 4 45) := by
  obtain ⟨-, k2, -⟩ := q116_1 a hc.1 hc.2 (by omega) ha
  obtain ⟨-, k4, -⟩ := q277_1 a hr.1 hr.2 (by omega) ha
  have h2' := op_open ha hc hr (by omega) (h2.up (show B ≤ B + 110000 by omega))
  replace h2' := h2'.2
  obtain ⟨hg, hw, hi, x15, x10, hx⟩ := id h
  obtain ⟨h1, hv, -, hb, hs, hp⟩ := id hg
  have hT := open_L (a := a) hc h2.1.1 (h2.1.2.2.1.up (show B ≤ B + 110000 by omega)) h1.l
  exact ⟨(MG.of h2'.1.1.symm (h1.n.fe (FE.j k2 0 13 rfl) (FW.j k4 4 13 rfl)) (h1.o.fe (FE.j k2 0 12 rfl) (FW.j k4 4 12 rfl)) (h1.r.fe (FE.j k2 0 10 rfl) (FW.j k4 4 10 rfl)) (h1.k.fe (FE.j k2 0 9 rfl) (FW.j k4 4 9 rfl)) hT (h1.d.fe (FE.j k2 0 8 rfl) (FW.j k4 4 8 rfl)) (h1.ld.fe (FE.j k2 0 7 rfl) (FW.j k4 4 7 rfl)) (h1.od.fe (FE.j k2 0 7 rfl) ((FW.j k4 4 3 rfl) 8 (by omega) (by omega) (ja45_4 (by omega))) (FW.j k4 4 7 rfl)) (hv.fe (FE.j k2 0 2 rfl) (FE.j k2 0 3 rfl) (FW.j k4 4 2 rfl) (FW.j k4 4 3 rfl)) h2'.1.2.2.2 ((hb.fe (FE.j k2 0 7 rfl) (FE.j k2 0 9 rfl) (FE.j k2 0 10 rfl) (FE.j k2 0 12 rfl) (FE.j k2 0 13 rfl)).up (by omega) (by omega)) (by rw [(FE.j k2 0 12 rfl).p8_10 12 (by omega) (by omega), (FE.j k2 0 12 rfl).p8_10 11 (by omega) (by omega), (FE.j k2 0 12 rfl).p8_10 10 (by omega) (by omega)]; exact hs) (by rw [(FE.j k2 0 12 rfl).p8_10 11 (by omega) (by omega)]; exact hp)), (hw.fe hv.2.2.2.2 (FE.j k2 0 2 rfl) (FW.j k4 4 2 rfl)), (hi.fe (FE.j k2 0 5 rfl) (FW.j k4 4 5 rfl)), (by rw [(FE.j k2 0 13 rfl).p8_13 15 (by omega) (by omega)]; omega), (by rw [(FE.j k2 0 12 rfl).p8_10 10 (by omega) (by omega)]; omega), hx.fe (FE.j k2 0 5 rfl) (FE.j k2 0 7 rfl) (FE.j k2 0 8 rfl) (FE.j k2 0 10 rfl)⟩
theorem op3_move {c r : zM} {B a : Int} (ha : I32 a) (hc : OM (B + 110000) c) (hr : OM (B + 110000) r) (hB : B + 220000 ≤ 700000000) (h2 : Rel2 B c r) (h : MY B (c 0) (r 4 45)) : MY (B + 220000) ((f127_1 a c).2 0) ((f281_1 a r).2 4 45) := by
  obtain ⟨-, k2, -⟩ := q127_1 a hc.1 hc.2 (by omega) ha
  obtain ⟨-, k4, -⟩ := q281_1 a hr.1 hr.2 (by omega) ha
  have h2' := op_move ha hc hr (by omega) (h2.up (show B ≤ B + 110000 by omega))
  replace h2' := h2'.2
  obtain ⟨hg, hw, hi, x15, x10, hx⟩ := id h
  obtain ⟨h1, hv, -, hb, hs, hp⟩ := id hg
  have hT := move_S (a := a) hc hr (by omega) (h2.1.2.2.1.up (show B ≤ B + 110000 by omega)) h.1 (by omega)
  exact ⟨(MG.of h2'.1.1.symm (h1.n.fe (FE.j k2 0 13 rfl) (FW.j k4 4 13 rfl)) (h1.o.fe (FE.j k2 0 12 rfl) (FW.j k4 4 12 rfl)) (h1.r.fe (FE.j k2 0 10 rfl) (FW.j k4 4 10 rfl)) (h1.k.fe (FE.j k2 0 9 rfl) (FW.j k4 4 9 rfl)) hT.2.1 hT.2.2.2.2.1 hT.2.2.1 hT.2.2.2.1 (hv.fe (FE.j k2 0 2 rfl) (FE.j k2 0 3 rfl) (FW.j k4 4 2 rfl) (FW.j k4 4 3 rfl)) h2'.1.2.2.2 ((hb.z7 (FE.j k2 0 9 rfl) (FE.j k2 0 10 rfl) (FE.j k2 0 12 rfl) (FE.j k2 0 13 rfl) hT.2.2.2.2.2).up (by omega) (by omega)) (by rw [(FE.j k2 0 12 rfl).p8_10 12 (by omega) (by omega), (FE.j k2 0 12 rfl).p8_10 11 (by omega) (by omega), (FE.j k2 0 12 rfl).p8_10 10 (by omega) (by omega)]; exact hs) (by rw [(FE.j k2 0 12 rfl).p8_10 11 (by omega) (by omega)]; exact hp)), (hw.fe hv.2.2.2.2 (FE.j k2 0 2 rfl) (FW.j k4 4 2 rfl)), (hi.fe (FE.j k2 0 5 rfl) (FW.j k4 4 5 rfl)), (by rw [(FE.j k2 0 13 rfl).p8_13 15 (by omega) (by omega)]; omega), (by rw [(FE.j k2 0 12 rfl).p8_10 10 (by omega) (by omega)]; omega), move_X (a := a) hb (by omega) hx⟩
theorem op3_off {c r : zM} {B a : Int} (ha : I32 a) (hc : OM (B + 110000) c) (hr : OM (B + 110000) r) (hB : B + 220000 ≤ 700000000) (h2 : Rel2 B c r) (h : MY B (c 0) (r 4 45)) : MY (B + 220000) ((f130_1 a c).2 0) ((f282_1 a r).2 4 45) := by
  obtain ⟨-, k2, -⟩ := q130_1 a hc.1 hc.2 (by omega) ha
  obtain ⟨-, k4, -⟩ := q282_1 a hr.1 hr.2 (by omega) ha
  have h2' := op_off ha hc hr (by omega) (h2.up (show B ≤ B + 110000 by omega))
  replace h2' := h2'.2
  obtain ⟨hg, hw, hi, x15, x10, hx⟩ := id h
  obtain ⟨h1, hv, -, hb, hs, hp⟩ := id hg
  have hT := off_G (a := a) hc hr (by omega) h.1 (by omega) hw (by omega)
  exact ⟨(hT.1.up (by omega) (by omega)), hT.2.1, (hi.fe (FE.j k2 0 5 rfl) (FW.j k4 4 5 rfl)), (by have := hT.2.2.1; omega), (by rw [hT.2.2.2.1]; omega), hT.2.2.2.2 hx⟩
theorem op3_mark {c r : zM} {B a b : Int} (ha : I32 a) (hb0 : 0 ≤ b ∧ b ≤ 1) (hc : OM (B + 110000) c) (hr : OM (B + 110000) r) (hB : B + 220000 ≤ 700000000) (h2 : Rel2 B c r) (h : MY B (c 0) (r 4 45)) : MY (B + 220000) ((f134_1 a b c).2 0) ((f283_1 a b r).2 4 45) := by
  obtain ⟨-, k2, -⟩ := q134_1 a b hc.1 hc.2 (by omega) ha hb0
  obtain ⟨-, k4, -⟩ := q283_1 a b hr.1 hr.2 (by omega) ha hb0
  have h2' := op_mark ha hb0 hc hr (by omega) (h2.up (show B ≤ B + 110000 by omega))
  obtain ⟨hg, hw, hi, x15, x10, hx⟩ := id h
  obtain ⟨h1, hv, -, hb, hs, hp⟩ := id hg
  have hT := mark_S (a := a) (b := b) h.1 (by omega) (by omega) hb0
  exact ⟨(MG.of h2'.1.1.symm (h1.n.fe (FE.j k2 0 13 rfl) (FW.j k4 4 13 rfl)) (h1.o.fe (FE.j k2 0 12 rfl) (FW.j k4 4 12 rfl)) (h1.r.fe (FE.j k2 0 10 rfl) (FW.j k4 4 10 rfl)) hT.1 hT.2.1 (h1.d.fe (FE.j k2 0 8 rfl) (FW.j k4 4 8 rfl)) (h1.ld.fe (FE.j k2 0 7 rfl) (FW.j k4 4 7 rfl)) (h1.od.fe (FE.j k2 0 7 rfl) ((FW.j k4 4 3 rfl) 8 (by omega) (by omega) (ja45_4 (by omega))) (FW.j k4 4 7 rfl)) (hv.fe (FE.j k2 0 2 rfl) (FE.j k2 0 3 rfl) (FW.j k4 4 2 rfl) (FW.j k4 4 3 rfl)) h2'.1.2.2.2 ((hb.marks (FE.j k2 0 7 rfl) (FE.j k2 0 10 rfl) (FE.j k2 0 12 rfl) (FE.j k2 0 13 rfl) hT.2.2).up (by omega) (by omega)) (by rw [(FE.j k2 0 12 rfl).p8_10 12 (by omega) (by omega), (FE.j k2 0 12 rfl).p8_10 11 (by omega) (by omega), (FE.j k2 0 12 rfl).p8_10 10 (by omega) (by omega)]; exact hs) (by rw [(FE.j k2 0 12 rfl).p8_10 11 (by omega) (by omega)]; exact hp)), (hw.fe hv.2.2.2.2 (FE.j k2 0 2 rfl) (FW.j k4 4 2 rfl)), (hi.fe (FE.j k2 0 5 rfl) (FW.j k4 4 5 rfl)), (by rw [(FE.j k2 0 13 rfl).p8_13 15 (by omega) (by omega)]; omega), (by rw [(FE.j k2 0 12 rfl).p8_10 10 (by omega) (by omega)]; omega), hx.fe (FE.j k2 0 5 rfl) (FE.j k2 0 7 rfl) (FE.j k2 0 8 rfl) (FE.j k2 0 10 rfl)⟩
theorem op3_prepaid {c r : zM} {B a : Int} (ha : 0 ≤ a ∧ a ≤ 1) (hc : OM (B + 110000) c) (hr : OM (B + 110000) r) (hB : B + 220000 ≤ 700000000) (h2 : Rel2 B c r) (h : MY B (c 0) (r 4 45)) : MY (B + 220000) ((f135_1 a c).2 0) ((f284_1 a r).2 4 45) := by
  obtain ⟨-, k2, -⟩ := q135_1 a hc.1 hc.2 (by omega) ha
  obtain ⟨-, k4, -⟩ := q284_1 a hr.1 hr.2 (by omega) ha
  have h2' := op_prepaid ha hc hr (by omega) (h2.up (show B ≤ B + 110000 by omega))
  obtain ⟨hg, hw, hi, x15, x10, hx⟩ := id h
  obtain ⟨h1, hv, -, hb, hs, hp⟩ := id hg
  have hT := prepaid_S (a := a) ha h.1
  exact ⟨(MG.of h2'.1.1.symm (h1.n.fe (FE.j k2 0 13 rfl) (FW.j k4 4 13 rfl)) hT.1 (h1.r.fe (FE.j k2 0 10 rfl) (FW.j k4 4 10 rfl)) (h1.k.fe (FE.j k2 0 9 rfl) (FW.j k4 4 9 rfl)) hT.2.1 (h1.d.fe (FE.j k2 0 8 rfl) (FW.j k4 4 8 rfl)) (h1.ld.fe (FE.j k2 0 7 rfl) (FW.j k4 4 7 rfl)) (h1.od.fe (FE.j k2 0 7 rfl) ((FW.j k4 4 3 rfl) 8 (by omega) (by omega) (ja45_4 (by omega))) (FW.j k4 4 7 rfl)) (hv.fe (FE.j k2 0 2 rfl) (FE.j k2 0 3 rfl) (FW.j k4 4 2 rfl) (FW.j k4 4 3 rfl)) h2'.1.2.2.2 ((hb.cred (FE.j k2 0 7 rfl) (FE.j k2 0 9 rfl) (FE.j k2 0 10 rfl) (FE.j k2 0 13 rfl) (by rw [hT.2.2.2.2]; exact Int.le_refl _) (by rw [hT.2.2.2.2]; omega)).up (by omega) (by omega)) hT.2.2.1 hT.2.2.2.1), (hw.fe hv.2.2.2.2 (FE.j k2 0 2 rfl) (FW.j k4 4 2 rfl)), (hi.fe (FE.j k2 0 5 rfl) (FW.j k4 4 5 rfl)), (by rw [(FE.j k2 0 13 rfl).p8_13 15 (by omega) (by omega)]; omega), (by rw [hT.2.2.2.2]; omega), hx.fe (FE.j k2 0 5 rfl) (FE.j k2 0 7 rfl) (FE.j k2 0 8 rfl) (FE.j k2 0 10 rfl)⟩
theorem op3_pay {c r : zM} {B a : Int} (ha : I32 a) (hc : OM (B + 110000) c) (hr : OM (B + 110000) r) (hB : B + 220000 ≤ 700000000) (h2 : Rel2 B c r) (h : MY B (c 0) (r 4 45)) : (f136_1 a c).1 = (f285_1 a r).1 ∧ MY (B + 220000) ((f136_1 a c).2 0) ((f285_1 a r).2 4 45) := by
  obtain ⟨-, k2, -⟩ := q136_1 a hc.1 hc.2 (by omega) ha
  obtain ⟨-, k4, -⟩ := q285_1 a hr.1 hr.2 (by omega) ha
  have h2' := op_pay ha hc hr (by omega) (h2.up (show B ≤ B + 110000 by omega))
  obtain ⟨hg, hw, hi, x15, x10, hx⟩ := id h
  obtain ⟨h1, hv, -, hb, hs, hp⟩ := id hg
  have hT := pay_S (a := a) h.1 (by omega)
  exact ⟨hT.1, (MG.of h2'.1.1.symm (h1.n.fe (FE.j k2 0 13 rfl) (FW.j k4 4 13 rfl)) hT.2.1 (h1.r.fe (FE.j k2 0 10 rfl) (FW.j k4 4 10 rfl)) (h1.k.fe (FE.j k2 0 9 rfl) (FW.j k4 4 9 rfl)) hT.2.2.1 (h1.d.fe (FE.j k2 0 8 rfl) (FW.j k4 4 8 rfl)) (h1.ld.fe (FE.j k2 0 7 rfl) (FW.j k4 4 7 rfl)) (h1.od.fe (FE.j k2 0 7 rfl) ((FW.j k4 4 3 rfl) 8 (by omega) (by omega) (ja45_4 (by omega))) (FW.j k4 4 7 rfl)) (hv.fe (FE.j k2 0 2 rfl) (FE.j k2 0 3 rfl) (FW.j k4 4 2 rfl) (FW.j k4 4 3 rfl)) h2'.1.2.2.2 ((hb.cred (FE.j k2 0 7 rfl) (FE.j k2 0 9 rfl) (FE.j k2 0 10 rfl) (FE.j k2 0 13 rfl) hT.2.2.2.2.2.1 (by have := hT.2.2.2.2.2.2; omega)).up (by omega) (by omega)) hT.2.2.2.1 (by rw [hT.2.2.2.2.1]; exact hp)), (hw.fe hv.2.2.2.2 (FE.j k2 0 2 rfl) (FW.j k4 4 2 rfl)), (hi.fe (FE.j k2 0 5 rfl) (FW.j k4 4 5 rfl)), (by rw [(FE.j k2 0 13 rfl).p8_13 15 (by omega) (by omega)]; omega), (by have := hT.2.2.2.2.2.2; omega), hx.fe (FE.j k2 0 5 rfl) (FE.j k2 0 7 rfl) (FE.j k2 0 8 rfl) (FE.j k2 0 10 rfl)⟩
theorem op3_bill {c r : zM} {B : Int} (hc : OM (B + 110000) c) (hr : OM (B + 110000) r) (hB : B + 220000 ≤ 700000000) (h2 : Rel2 B c r) (h : MY B (c 0) (r 4 45)) : MY (B + 220000) ((f137_1 c).2 0) ((f286_1 r).2 4 45) := by
  obtain ⟨-, k2, -⟩ := q137_1 hc.1 hc.2 (by omega)
  obtain ⟨-, k4, -⟩ := q286_1 hr.1 hr.2 (by omega)
  have h2' := op_bill hc hr (by omega) (h2.up (show B ≤ B + 110000 by omega))
  obtain ⟨hg, hw, hi, x15, x10, hx⟩ := id h
  obtain ⟨h1, hv, -, hb, hs, hp⟩ := id hg
  have hT := bill_G h.1 (by omega) hi
  exact ⟨(MG.of h2'.1.1.symm (h1.n.fe (FE.j k2 0 13 rfl) (FW.j k4 4 13 rfl)) (h1.o.fe (FE.j k2 0 12 rfl) (FW.j k4 4 12 rfl)) (h1.r.fe (FE.j k2 0 10 rfl) (FW.j k4 4 10 rfl)) (h1.k.fe (FE.j k2 0 9 rfl) (FW.j k4 4 9 rfl)) hT.2.2 hT.2.1 (h1.ld.fe (FE.j k2 0 7 rfl) (FW.j k4 4 7 rfl)) (h1.od.fe (FE.j k2 0 7 rfl) ((FW.j k4 4 3 rfl) 8 (by omega) (by omega) (ja45_4 (by omega))) (FW.j k4 4 7 rfl)) (hv.fe (FE.j k2 0 2 rfl) (FE.j k2 0 3 rfl) (FW.j k4 4 2 rfl) (FW.j k4 4 3 rfl)) h2'.1.2.2.2 ((hb.fe (FE.j k2 0 7 rfl) (FE.j k2 0 9 rfl) (FE.j k2 0 10 rfl) (FE.j k2 0 12 rfl) (FE.j k2 0 13 rfl)).up (by omega) (by omega)) (by rw [(FE.j k2 0 12 rfl).p8_10 12 (by omega) (by omega), (FE.j k2 0 12 rfl).p8_10 11 (by omega) (by omega), (FE.j k2 0 12 rfl).p8_10 10 (by omega) (by omega)]; exact hs) (by rw [(FE.j k2 0 12 rfl).p8_10 11 (by omega) (by omega)]; exact hp)), (hw.fe hv.2.2.2.2 (FE.j k2 0 2 rfl) (FW.j k4 4 2 rfl)), hT.1, (by rw [(FE.j k2 0 13 rfl).p8_13 15 (by omega) (by omega)]; omega), (by rw [(FE.j k2 0 12 rfl).p8_10 10 (by omega) (by omega)]; omega), bill_X hc hb (by omega) hx⟩
theorem op3_feed {c r : zM} {B a b d e f : Int} (ha : I32 a) (hb9 : I32 b) (hd : I32 d) (he : I32 e) (hf : I32 f) (hc : OM (B + 110000) c) (hr : OM (B + 110000) r) (hB : B + 220000 ≤ 700000000) (h2 : Rel2 B c r) (h : MY B (c 0) (r 4 45)) : MY (B + 220000) ((f85_1 a b d e f c).2 0) ((f256_1 a b d e f r).2 4 45) := by
  obtain ⟨-, k2, -⟩ := q85_1 a b d e f hc.1 hc.2 (by omega) ha hb9 hd he hf
  obtain ⟨-, k4, -⟩ := q256_1 a b d e f hr.1 hr.2 (by omega) ha hb9 hd he hf
  have h2' := op_feed ha hb9 hd he hf hc hr (by omega) (h2.up (show B ≤ B + 110000 by omega))
  replace h2' := h2'.2
  obtain ⟨hg, hw, hi, x15, x10, hx⟩ := id h
  obtain ⟨h1, hv, -, hb, hs, hp⟩ := id hg
  exact ⟨(MG.of h2'.1.1.symm (h1.n.fe (FE.j k2 0 13 rfl) (FW.j k4 4 13 rfl)) (h1.o.fe (FE.j k2 0 12 rfl) (FW.j k4 4 12 rfl)) (h1.r.fe (FE.j k2 0 10 rfl) (FW.j k4 4 10 rfl)) (h1.k.fe (FE.j k2 0 9 rfl) (FW.j k4 4 9 rfl)) (h1.l.fe (FE.j k2 0 6 rfl) (FW.j k4 4 6 rfl)) (h1.d.fe (FE.j k2 0 8 rfl) (FW.j k4 4 8 rfl)) (h1.ld.fe (FE.j k2 0 7 rfl) (FW.j k4 4 7 rfl)) (h1.od.fe (FE.j k2 0 7 rfl) ((FW.j k4 4 3 rfl) 8 (by omega) (by omega) (ja45_4 (by omega))) (FW.j k4 4 7 rfl)) (hv.fe (FE.j k2 0 2 rfl) (FE.j k2 0 3 rfl) (FW.j k4 4 2 rfl) (FW.j k4 4 3 rfl)) h2'.1.2.2.2 ((hb.fe (FE.j k2 0 7 rfl) (FE.j k2 0 9 rfl) (FE.j k2 0 10 rfl) (FE.j k2 0 12 rfl) (FE.j k2 0 13 rfl)).up (by omega) (by omega)) (by rw [(FE.j k2 0 12 rfl).p8_10 12 (by omega) (by omega), (FE.j k2 0 12 rfl).p8_10 11 (by omega) (by omega), (FE.j k2 0 12 rfl).p8_10 10 (by omega) (by omega)]; exact hs) (by rw [(FE.j k2 0 12 rfl).p8_10 11 (by omega) (by omega)]; exact hp)), (hw.fe hv.2.2.2.2 (FE.j k2 0 2 rfl) (FW.j k4 4 2 rfl)), (hi.fe (FE.j k2 0 5 rfl) (FW.j k4 4 5 rfl)), (by rw [(FE.j k2 0 13 rfl).p8_13 15 (by omega) (by omega)]; omega), (by rw [(FE.j k2 0 12 rfl).p8_10 10 (by omega) (by omega)]; omega), hx.fe (FE.j k2 0 5 rfl) (FE.j k2 0 7 rfl) (FE.j k2 0 8 rfl) (FE.j k2 0 10 rfl)⟩
theorem op3_end {c r : zM} {B a : Int} (ha : I32 a) (hc : OM (B + 110000) c) (hr : OM (B + 110000) r) (hB : B + 220000 ≤ 700000000) (h2 : Rel2 B c r) (h : MY B (c 0) (r 4 45)) : MY (B + 220000) ((f88_1 a c).2 0) ((f258_1 a r).2 4 45) := by
  obtain ⟨-, k2, -⟩ := q88_1 a hc.1 hc.2 (by omega) ha
  obtain ⟨-, k4, -⟩ := q258_1 a hr.1 hr.2 (by omega) ha
  have h2' := op_end ha hc hr (by omega) (h2.up (show B ≤ B + 110000 by omega))
  replace h2' := h2'.2
  obtain ⟨hg, hw, hi, x15, x10, hx⟩ := id h
  obtain ⟨h1, hv, -, hb, hs, hp⟩ := id hg
  exact ⟨(MG.of h2'.1.1.symm (h1.n.fe (FE.j k2 0 13 rfl) (FW.j k4 4 13 rfl)) (h1.o.fe (FE.j k2 0 12 rfl) (FW.j k4 4 12 rfl)) (h1.r.fe (FE.j k2 0 10 rfl) (FW.j k4 4 10 rfl)) (h1.k.fe (FE.j k2 0 9 rfl) (FW.j k4 4 9 rfl)) (h1.l.fe (FE.j k2 0 6 rfl) (FW.j k4 4 6 rfl)) (h1.d.fe (FE.j k2 0 8 rfl) (FW.j k4 4 8 rfl)) (h1.ld.fe (FE.j k2 0 7 rfl) (FW.j k4 4 7 rfl)) (h1.od.fe (FE.j k2 0 7 rfl) ((FW.j k4 4 3 rfl) 8 (by omega) (by omega) (ja45_4 (by omega))) (FW.j k4 4 7 rfl)) (hv.fe (FE.j k2 0 2 rfl) (FE.j k2 0 3 rfl) (FW.j k4 4 2 rfl) (FW.j k4 4 3 rfl)) h2'.1.2.2.2 ((hb.fe (FE.j k2 0 7 rfl) (FE.j k2 0 9 rfl) (FE.j k2 0 10 rfl) (FE.j k2 0 12 rfl) (FE.j k2 0 13 rfl)).up (by omega) (by omega)) (by rw [(FE.j k2 0 12 rfl).p8_10 12 (by omega) (by omega), (FE.j k2 0 12 rfl).p8_10 11 (by omega) (by omega), (FE.j k2 0 12 rfl).p8_10 10 (by omega) (by omega)]; exact hs) (by rw [(FE.j k2 0 12 rfl).p8_10 11 (by omega) (by omega)]; exact hp)), (hw.fe hv.2.2.2.2 (FE.j k2 0 2 rfl) (FW.j k4 4 2 rfl)), (hi.fe (FE.j k2 0 5 rfl) (FW.j k4 4 5 rfl)), (by rw [(FE.j k2 0 13 rfl).p8_13 15 (by omega) (by omega)]; omega), (by rw [(FE.j k2 0 12 rfl).p8_10 10 (by omega) (by omega)]; omega), hx.fe (FE.j k2 0 5 rfl) (FE.j k2 0 7 rfl) (FE.j k2 0 8 rfl) (FE.j k2 0 10 rfl)⟩
theorem op3_calendar {c r : zM} {B : Int} (hc : OM (B + 110000) c) (hr : OM (B + 110000) r) (hB : B + 220000 ≤ 700000000) (h2 : Rel2 B c r) (h : MY B (c 0) (r 4 45)) : MY (B + 220000) ((f90_1 c).2 0) ((f260_1 r).2 4 45) := by
  obtain ⟨-, k2, -⟩ := q90_1 hc.1 hc.2 (by omega)
  obtain ⟨-, k4, -⟩ := q260_1 hr.1 hr.2 (by omega)
  have h2' := op_calendar hc hr (by omega) (h2.up (show B ≤ B + 110000 by omega))
  replace h2' := h2'.2
  obtain ⟨hg, hw, hi, x15, x10, hx⟩ := id h
  obtain ⟨h1, hv, -, hb, hs, hp⟩ := id hg
  have hT := calendar_G hc hr (by omega) (h2.1.2.2.1.up (show B ≤ B + 110000 by omega)) h2.2.2.2.1 h.1 hw hi
  exact ⟨(hT.1.up (by omega) (by omega)), hT.2.1, hT.2.2, (by rw [(FE.j k2 0 13 rfl).p8_13 15 (by omega) (by omega)]; omega), (by rw [(FE.j k2 0 12 rfl).p8_10 10 (by omega) (by omega)]; omega), hx.fe (FE.j k2 0 5 rfl) (FE.j k2 0 7 rfl) (FE.j k2 0 8 rfl) (FE.j k2 0 10 rfl)⟩
theorem st3_phases {m m1 m2 : zM} {B a b v w : Int} (ha : -2147483648 ≤ a ∧ a ≤ 2147483647) (hb : -2147483648 ≤ b ∧ b ≤ 2147483647) (hk : z_mok lL m) (hJ : JB B m) (hB : B + 220000 ≤ 700000000) (h : Rel3 B m m) (e1 : f16_1 a b m = (v, m1)) (e2 : f202_1 a b m1 = (w, m2)) : v = w ∧ Rel3 (B + 220000) m2 m2 := by
  obtain ⟨k1, k2, -⟩ := q16_1 a b hk hJ (by omega) ha hb
  rw [e1] at k1 k2
  try dsimp only at k1 k2
  have o0 : OM (B + 110000) m := ⟨hk, hJ.up (by omega)⟩
  have o1 : OM (B + 110000) m1 := ⟨k1, k2.jb.up (by omega)⟩
  obtain ⟨-, k4, -⟩ := q202_1 a b o1.1 o1.2 (by omega) ha hb
  rw [e2] at k4
  try dsimp only at k4
  have g2 := st_phases ha hb hk hJ (by omega) h.1 e1 e2
  have h2 : Rel2 B m m1 := h.1.rj k2 rfl rfl
  have e45 : m1 4 45 = m 4 45 := k2.row 45 rfl rfl 4
  have g := op3_phases ha hb o0 o1 hB h2 (by rw [e45]; exact h.2.1)
  rw [e1, e2] at g
  try dsimp only at g
  exact ⟨g2.1, ⟨g2.2, by rw [jy k4 (g := 0) rfl]; exact g, h.img k2 k4 (by omega) rfl rfl rfl rfl rfl rfl rfl⟩⟩
theorem st3_sample {m m1 m2 : zM} {B a b v w : Int} (ha : -2147483648 ≤ a ∧ a ≤ 2147483647) (hb : -2147483648 ≤ b ∧ b ≤ 2147483647) (hk : z_mok lL m) (hJ : JB B m) (hB : B + 220000 ≤ 700000000) (h : Rel3 B m m) (e1 : f19_1 a b m = (v, m1)) (e2 : f205_1 a b m1 = (w, m2)) : v = w ∧ Rel3 (B + 220000) m2 m2 := by
  obtain ⟨k1, k2, -⟩ := q19_1 a b hk hJ (by omega) ha hb
  rw [e1] at k1 k2
  try dsimp only at k1 k2
  have o0 : OM (B + 110000) m := ⟨hk, hJ.up (by omega)⟩
  have o1 : OM (B + 110000) m1 := ⟨k1, k2.jb.up (by omega)⟩
  obtain ⟨-, k4, -⟩ := q205_1 a b o1.1 o1.2 (by omega) ha hb
  rw [e2] at k4
  try dsimp only at k4
  have g2 := st_sample ha hb hk hJ (by omega) h.1 e1 e2
  have h2 : Rel2 B m m1 := h.1.rj k2 rfl rfl
  have e45 : m1 4 45 = m 4 45 := k2.row 45 rfl rfl 4
  have g := op3_sample ha hb o0 o1 hB h2 (by rw [e45]; exact h.2.1)
  rw [e1, e2] at g
  try dsimp only at g
  exact ⟨g2.1, ⟨g2.2, by rw [jy k4 (g := 0) rfl]; exact g, h.img k2 k4 (by omega) rfl rfl rfl rfl rfl rfl rfl⟩⟩
theorem st3_again {m m1 m2 : zM} {B a v w : Int} (ha : -2147483648 ≤ a ∧ a ≤ 2147483647) (hk : z_mok lL m) (hJ : JB B m) (hB : B + 220000 ≤ 700000000) (h : Rel3 B m m) (e1 : f69_1 a m = (v, m1)) (e2 : f279_1 a m1 = (w, m2)) : v = w ∧ Rel3 (B + 220000) m2 m2 := by
  obtain ⟨k1, k2, -⟩ := q69_1 a hk hJ (by omega) ha
  rw [e1] at k1 k2
  try dsimp only at k1 k2
  have o0 : OM (B + 110000) m := ⟨hk, hJ.up (by omega)⟩
  have o1 : OM (B + 110000) m1 := ⟨k1, k2.jb.up (by omega)⟩
  obtain ⟨-, k4, -⟩ := q279_1 a o1.1 o1.2 (by omega) ha
  rw [e2] at k4
  try dsimp only at k4
  have g2 := st_again ha hk hJ (by omega) h.1 e1 e2
  have h2 : Rel2 B m m1 := h.1.rj k2 rfl rfl
  have e45 : m1 4 45 = m 4 45 := k2.row 45 rfl rfl 4
  have g := op3_again ha o0 o1 hB h2 (by rw [e45]; exact h.2.1)
  rw [e1, e2] at g
  try dsimp only at g
  exact ⟨g.1, ⟨g2, by rw [jy k4 (g := 0) rfl]; exact g.2, h.img k2 k4 (by omega) rfl rfl rfl rfl rfl rfl rfl⟩⟩
theorem st3_set {m m1 m2 : zM} {B a b v w : Int} (ha : -2147483648 ≤ a ∧ a ≤ 2147483647) (hb : -2147483648 ≤ b ∧ b ≤ 2147483647) (hk : z_mok lL m) (hJ : JB B m) (hB : B + 220000 ≤ 700000000) (h : Rel3 B m m) (e1 : f73_1 a b m = (v, m1)) (e2 : f280_1 a b m1 = (w, m2)) : v = w ∧ Rel3 (B + 220000) m2 m2 := by
  obtain ⟨k1, k2, -⟩ := q73_1 a b hk hJ (by omega) ha hb
  rw [e1] at k1 k2
  try dsimp only at k1 k2
  have o0 : OM (B + 110000) m := ⟨hk, hJ.up (by omega)⟩
  have o1 : OM (B + 110000) m1 := ⟨k1, k2.jb.up (by omega)⟩
  obtain ⟨-, k4, -⟩ := q280_1 a b o1.1 o1.2 (by omega) ha hb
  rw [e2] at k4
  try dsimp only at k4
  have g2 := st_set ha hb hk hJ (by omega) h.1 e1 e2
  have h2 : Rel2 B m m1 := h.1.rj k2 rfl rfl
  have e45 : m1 4 45 = m 4 45 := k2.row 45 rfl rfl 4
  have g := op3_set ha hb o0 o1 hB h2 (by rw [e45]; exact h.2.1)
  rw [e1, e2] at g
  try dsimp only at g
  exact ⟨g.1, ⟨g2, by rw [jy k4 (g := 0) rfl]; exact g.2, h.img k2 k4 (by omega) rfl rfl rfl rfl rfl rfl rfl⟩⟩
theorem st3_table {m m1 m2 : zM} {B a b d v w : Int} (ha : -2147483648 ≤ a ∧ a ≤ 2147483647) (hb : -2147483648 ≤ b ∧ b ≤ 2147483647) (hd : -2147483648 ≤ d ∧ d ≤ 2147483647) (hk : z_mok lL m) (hJ : JB B m) (hB : B + 220000 ≤ 700000000) (h : Rel3 B m m) (e1 : f78_1 a b d m = (v, m1)) (e2 : f240_1 a b d m1 = (w, m2)) : v = w ∧ Rel3 (B + 220000) m2 m2 := by
  obtain ⟨k1, k2, -⟩ := q78_1 a b d hk hJ (by omega) ha hb hd
  rw [e1] at k1 k2
  try dsimp only at k1 k2
  have o0 : OM (B + 110000) m := ⟨hk, hJ.up (by omega)⟩
  have o1 : OM (B + 110000) m1 := ⟨k1, k2.jb.up (by omega)⟩
  obtain ⟨-, k4, -⟩ := q240_1 a b d o1.1 o1.2 (by omega) ha hb hd
  rw [e2] at k4
  try dsimp only at k4
  have g2 := st_table ha hb hd hk hJ (by omega) h.1 e1 e2
  have h2 : Rel2 B m m1 := h.1.rj k2 rfl rfl
  have e45 : m1 4 45 = m 4 45 := k2.row 45 rfl rfl 4
  have g := op3_table ha hb hd o0 o1 hB h2 (by rw [e45]; exact h.2.1)
  rw [e1, e2] at g
  try dsimp only at g
  exact ⟨g2.1, ⟨g2.2, by rw [jy k4 (g := 0) rfl]; exact g, h.img k2 k4 (by omega) rfl rfl rfl rfl rfl rfl rfl⟩⟩
theorem st3_wipe {m m1 m2 : zM} {B a v w : Int} (ha : -2147483648 ≤ a ∧ a ≤ 2147483647) (hk : z_mok lL m) (hJ : JB B m) (hB : B + 220000 ≤ 700000000) (h : Rel3 B m m) (e1 : f83_1 a m = (v, m1)) (e2 : f244_1 a m1 = (w, m2)) : v = w ∧ Rel3 (B + 220000) m2 m2 := by
  obtain ⟨k1, k2, -⟩ := q83_1 a hk hJ (by omega) ha
  rw [e1] at k1 k2
  try dsimp only at k1 k2
  have o0 : OM (B + 110000) m := ⟨hk, hJ.up (by omega)⟩
  have o1 : OM (B + 110000) m1 := ⟨k1, k2.jb.up (by omega)⟩
  obtain ⟨-, k4, -⟩ := q244_1 a o1.1 o1.2 (by omega) ha
  rw [e2] at k4
  try dsimp only at k4
  have g2 := st_wipe ha hk hJ (by omega) h.1 e1 e2
  have h2 : Rel2 B m m1 := h.1.rj k2 rfl rfl
  have e45 : m1 4 45 = m 4 45 := k2.row 45 rfl rfl 4
  have g := op3_wipe ha o0 o1 hB h2 (by rw [e45]; exact h.2.1)
  rw [e1, e2] at g
  try dsimp only at g
  exact ⟨g2.1, ⟨g2.2, by rw [jy k4 (g := 0) rfl]; exact g, h.img k2 k4 (by omega) rfl rfl rfl rfl rfl rfl rfl⟩⟩
theorem st3_season {m m1 m2 : zM} {B a b v w : Int} (ha : -2147483648 ≤ a ∧ a ≤ 2147483647) (hb : -2147483648 ≤ b ∧ b ≤ 2147483647) (hk : z_mok lL m) (hJ : JB B m) (hB : B + 220000 ≤ 700000000) (h : Rel3 B m m) (e1 : f122_1 a b m = (v, m1)) (e2 : f245_1 a b m1 = (w, m2)) : v = w ∧ Rel3 (B + 220000) m2 m2 := by
  obtain ⟨k1, k2, -⟩ := q122_1 a b hk hJ (by omega) ha hb
  rw [e1] at k1 k2
  try dsimp only at k1 k2
  have o0 : OM (B + 110000) m := ⟨hk, hJ.up (by omega)⟩
  have o1 : OM (B + 110000) m1 := ⟨k1, k2.jb.up (by omega)⟩
  obtain ⟨-, k4, -⟩ := q245_1 a b o1.1 o1.2 (by omega) ha hb
  rw [e2] at k4
  try dsimp only at k4
  have g2 := st_season ha hb hk hJ (by omega) h.1 e1 e2
  have h2 : Rel2 B m m1 := h.1.rj k2 rfl rfl
  have e45 : m1 4 45 = m 4 45 := k2.row 45 rfl rfl 4
  have g := op3_season ha hb o0 o1 hB h2 (by rw [e45]; exact h.2.1)
  rw [e1, e2] at g
  try dsimp only at g
  exact ⟨g2.1, ⟨g2.2, by rw [jy k4 (g := 0) rfl]; exact g, h.img k2 k4 (by omega) rfl rfl rfl rfl rfl rfl rfl⟩⟩
theorem st3_week {m m1 m2 : zM} {B a b d v w : Int} (ha : -2147483648 ≤ a ∧ a ≤ 2147483647) (hb : -2147483648 ≤ b ∧ b ≤ 2147483647) (hd : -2147483648 ≤ d ∧ d ≤ 2147483647) (hk : z_mok lL m) (hJ : JB B m) (hB : B + 220000 ≤ 700000000) (h : Rel3 B m m) (e1 : f124_1 a b d m = (v, m1)) (e2 : f247_1 a b d m1 = (w, m2)) : v = w ∧ Rel3 (B + 220000) m2 m2 := by
  obtain ⟨k1, k2, -⟩ := q124_1 a b d hk hJ (by omega) ha hb hd
  rw [e1] at k1 k2
  try dsimp only at k1 k2
  have o0 : OM (B + 110000) m := ⟨hk, hJ.up (by omega)⟩
  have o1 : OM (B + 110000) m1 := ⟨k1, k2.jb.up (by omega)⟩
  obtain ⟨-, k4, -⟩ := q247_1 a b d o1.1 o1.2 (by omega) ha hb hd
  rw [e2] at k4
  try dsimp only at k4
  have g2 := st_week ha hb hd hk hJ (by omega) h.1 e1 e2
  have h2 : Rel2 B m m1 := h.1.rj k2 rfl rfl
  have e45 : m1 4 45 = m 4 45 := k2.row 45 rfl rfl 4
  have g := op3_week ha hb hd o0 o1 hB h2 (by rw [e45]; exact h.2.1)
  rw [e1, e2] at g
  try dsimp only at g
  exact ⟨g2.1, ⟨g2.2, by rw [jy k4 (g := 0) rfl]; exact g, h.img k2 k4 (by omega) rfl rfl rfl rfl rfl rfl rfl⟩⟩
theorem st3_special {m m1 m2 : zM} {B a b v w : Int} (ha : -2147483648 ≤ a ∧ a ≤ 2147483647) (hb : -2147483648 ≤ b ∧ b ≤ 2147483647) (hk : z_mok lL m) (hJ : JB B m) (hB : B + 220000 ≤ 700000000) (h : Rel3 B m m) (e1 : f125_1 a b m = (v, m1)) (e2 : f248_1 a b m1 = (w, m2)) : v = w ∧ Rel3 (B + 220000) m2 m2 := by
  obtain ⟨k1, k2, -⟩ := q125_1 a b hk hJ (by omega) ha hb
  rw [e1] at k1 k2
  try dsimp only at k1 k2
  have o0 : OM (B + 110000) m := ⟨hk, hJ.up (by omega)⟩
  have o1 : OM (B + 110000) m1 := ⟨k1, k2.jb.up (by omega)⟩
  obtain ⟨-, k4, -⟩ := q248_1 a b o1.1 o1.2 (by omega) ha hb
  rw [e2] at k4
  try dsimp only at k4
  have g2 := st_special ha hb hk hJ (by omega) h.1 e1 e2
  have h2 : Rel2 B m m1 := h.1.rj k2 rfl rfl
  have e45 : m1 4 45 = m 4 45 := k2.row 45 rfl rfl 4
  have g := op3_special ha hb o0 o1 hB h2 (by rw [e45]; exact h.2.1)
  rw [e1, e2] at g
  try dsimp only at g
  exact ⟨g2.1, ⟨g2.2, by rw [jy k4 (g := 0) rfl]; exact g, h.img k2 k4 (by omega) rfl rfl rfl rfl rfl rfl rfl⟩⟩
theorem st3_seal {m m1 m2 : zM} {B a v w : Int} (ha : -2147483648 ≤ a ∧ a ≤ 2147483647) (hk : z_mok lL m) (hJ : JB B m) (hB : B + 220000 ≤ 700000000) (h : Rel3 B m m) (e1 : f114_1 a m = (v, m1)) (e2 : f276_1 a m1 = (w, m2)) : v = w ∧ Rel3 (B + 220000) m2 m2 := by
  obtain ⟨k1, k2, -⟩ := q114_1 a hk hJ (by omega) ha
  rw [e1] at k1 k2
  try dsimp only at k1 k2
  have o0 : OM (B + 110000) m := ⟨hk, hJ.up (by omega)⟩
  have o1 : OM (B + 110000) m1 := ⟨k1, k2.jb.up (by omega)⟩
  obtain ⟨-, k4, -⟩ := q276_1 a o1.1 o1.2 (by omega) ha
  rw [e2] at k4
  try dsimp only at k4
  have g2 := st_seal ha hk hJ (by omega) h.1 e1 e2
  have h2 : Rel2 B m m1 := h.1.rj k2 rfl rfl
  have e45 : m1 4 45 = m 4 45 := k2.row 45 rfl rfl 4
  have g := op3_seal ha o0 o1 hB h2 (by rw [e45]; exact h.2.1)
  rw [e1, e2] at g
  try dsimp only at g
  exact ⟨g2.1, ⟨g2.2, by rw [jy k4 (g := 0) rfl]; exact g, h.img k2 k4 (by omega) rfl rfl rfl rfl rfl rfl rfl⟩⟩
theorem st3_open {m m1 m2 : zM} {B a v w : Int} (ha : -2147483648 ≤ a ∧ a ≤ 2147483647) (hk : z_mok lL m) (hJ : JB B m) (hB : B + 220000 ≤ 700000000) (h : Rel3 B m m) (e1 : f116_1 a m = (v, m1)) (e2 : f277_1 a m1 = (w, m2)) : v = w ∧ Rel3 (B + 220000) m2 m2 := by
  obtain ⟨k1, k2, -⟩ := q116_1 a hk hJ (by omega) ha
  rw [e1] at k1 k2
  try dsimp only at k1 k2
  have o0 : OM (B + 110000) m := ⟨hk, hJ.up (by omega)⟩
  have o1 : OM (B + 110000) m1 := ⟨k1, k2.jb.up (by omega)⟩
  obtain ⟨-, k4, -⟩ := q277_1 a o1.1 o1.2 (by omega) ha
  rw [e2] at k4
  try dsimp only at k4
  have g2 := st_open ha hk hJ (by omega) h.1 e1 e2
  have h2 : Rel2 B m m1 := h.1.rj k2 rfl rfl
  have e45 : m1 4 45 = m 4 45 := k2.row 45 rfl rfl 4
  have g := op3_open ha o0 o1 hB h2 (by rw [e45]; exact h.2.1)
  rw [e1, e2] at g
  try dsimp only at g
  exact ⟨g2.1, ⟨g2.2, by rw [jy k4 (g := 0) rfl]; exact g, h.img k2 k4 (by omega) rfl rfl rfl rfl rfl rfl rfl⟩⟩
theorem st3_move {m m1 m2 : zM} {B a v w : Int} (ha : -2147483648 ≤ a ∧ a ≤ 2147483647) (hk : z_mok lL m) (hJ : JB B m) (hB : B + 220000 ≤ 700000000) (h : Rel3 B m m) (e1 : f127_1 a m = (v, m1)) (e2 : f281_1 a m1 = (w, m2)) : v = w ∧ Rel3 (B + 220000) m2 m2 := by
  obtain ⟨k1, k2, -⟩ := q127_1 a hk hJ (by omega) ha
  rw [e1] at k1 k2
  try dsimp only at k1 k2
  have o0 : OM (B + 110000) m := ⟨hk, hJ.up (by omega)⟩
  have o1 : OM (B + 110000) m1 := ⟨k1, k2.jb.up (by omega)⟩
  obtain ⟨-, k4, -⟩ := q281_1 a o1.1 o1.2 (by omega) ha
  rw [e2] at k4
  try dsimp only at k4
  have g2 := st_move ha hk hJ (by omega) h.1 e1 e2
  have h2 : Rel2 B m m1 := h.1.rj k2 rfl rfl
  have e45 : m1 4 45 = m 4 45 := k2.row 45 rfl rfl 4
  have g := op3_move ha o0 o1 hB h2 (by rw [e45]; exact h.2.1)
  rw [e1, e2] at g
  try dsimp only at g
  exact ⟨g2.1, ⟨g2.2, by rw [jy k4 (g := 0) rfl]; exact g, h.img k2 k4 (by omega) rfl rfl rfl rfl rfl rfl rfl⟩⟩
theorem st3_off {m m1 m2 : zM} {B a v w : Int} (ha : -2147483648 ≤ a ∧ a ≤ 2147483647) (hk : z_mok lL m) (hJ : JB B m) (hB : B + 220000 ≤ 700000000) (h : Rel3 B m m) (e1 : f130_1 a m = (v, m1)) (e2 : f282_1 a m1 = (w, m2)) : v = w ∧ Rel3 (B + 220000) m2 m2 := by
  obtain ⟨k1, k2, -⟩ := q130_1 a hk hJ (by omega) ha
  rw [e1] at k1 k2
  try dsimp only at k1 k2
  have o0 : OM (B + 110000) m := ⟨hk, hJ.up (by omega)⟩
  have o1 : OM (B + 110000) m1 := ⟨k1, k2.jb.up (by omega)⟩
  obtain ⟨-, k4, -⟩ := q282_1 a o1.1 o1.2 (by omega) ha
  rw [e2] at k4
  try dsimp only at k4
  have g2 := st_off ha hk hJ (by omega) h.1 e1 e2
  have h2 : Rel2 B m m1 := h.1.rj k2 rfl rfl
  have e45 : m1 4 45 = m 4 45 := k2.row 45 rfl rfl 4
  have g := op3_off ha o0 o1 hB h2 (by rw [e45]; exact h.2.1)
  rw [e1, e2] at g
  try dsimp only at g
  exact ⟨g2.1, ⟨g2.2, by rw [jy k4 (g := 0) rfl]; exact g, h.img k2 k4 (by omega) rfl rfl rfl rfl rfl rfl rfl⟩⟩
theorem st3_mark {m m1 m2 : zM} {B a b v w : Int} (ha : -2147483648 ≤ a ∧ a ≤ 2147483647) (hb : 0 ≤ b ∧ b ≤ 1) (hk : z_mok lL m) (hJ : JB B m) (hB : B + 220000 ≤ 700000000) (h : Rel3 B m m) (e1 : f134_1 a b m = (v, m1)) (e2 : f283_1 a b m1 = (w, m2)) : Rel3 (B + 220000) m2 m2 := by
  obtain ⟨k1, k2, -⟩ := q134_1 a b hk hJ (by omega) ha hb
  rw [e1] at k1 k2
  try dsimp only at k1 k2
  have o0 : OM (B + 110000) m := ⟨hk, hJ.up (by omega)⟩
  have o1 : OM (B + 110000) m1 := ⟨k1, k2.jb.up (by omega)⟩
  obtain ⟨-, k4, -⟩ := q283_1 a b o1.1 o1.2 (by omega) ha hb
  rw [e2] at k4
  try dsimp only at k4
  have g2 := st_mark ha hb hk hJ (by omega) h.1 e1 e2
  have h2 : Rel2 B m m1 := h.1.rj k2 rfl rfl
  have e45 : m1 4 45 = m 4 45 := k2.row 45 rfl rfl 4
  have g := op3_mark ha hb o0 o1 hB h2 (by rw [e45]; exact h.2.1)
  rw [e1, e2] at g
  try dsimp only at g
  exact ⟨g2, by rw [jy k4 (g := 0) rfl]; exact g, h.img k2 k4 (by omega) rfl rfl rfl rfl rfl rfl rfl⟩
theorem st3_prepaid {m m1 m2 : zM} {B a v w : Int} (ha : 0 ≤ a ∧ a ≤ 1) (hk : z_mok lL m) (hJ : JB B m) (hB : B + 220000 ≤ 700000000) (h : Rel3 B m m) (e1 : f135_1 a m = (v, m1)) (e2 : f284_1 a m1 = (w, m2)) : Rel3 (B + 220000) m2 m2 := by
  obtain ⟨k1, k2, -⟩ := q135_1 a hk hJ (by omega) ha
  rw [e1] at k1 k2
  try dsimp only at k1 k2
  have o0 : OM (B + 110000) m := ⟨hk, hJ.up (by omega)⟩
  have o1 : OM (B + 110000) m1 := ⟨k1, k2.jb.up (by omega)⟩
  obtain ⟨-, k4, -⟩ := q284_1 a o1.1 o1.2 (by omega) ha
  rw [e2] at k4
  try dsimp only at k4
  have g2 := st_prepaid ha hk hJ (by omega) h.1 e1 e2
  have h2 : Rel2 B m m1 := h.1.rj k2 rfl rfl
  have e45 : m1 4 45 = m 4 45 := k2.row 45 rfl rfl 4
  have g := op3_prepaid ha o0 o1 hB h2 (by rw [e45]; exact h.2.1)
  rw [e1, e2] at g
  try dsimp only at g
  exact ⟨g2, by rw [jy k4 (g := 0) rfl]; exact g, h.img k2 k4 (by omega) rfl rfl rfl rfl rfl rfl rfl⟩
theorem st3_pay {m m1 m2 : zM} {B a v w : Int} (ha : -2147483648 ≤ a ∧ a ≤ 2147483647) (hk : z_mok lL m) (hJ : JB B m) (hB : B + 220000 ≤ 700000000) (h : Rel3 B m m) (e1 : f136_1 a m = (v, m1)) (e2 : f285_1 a m1 = (w, m2)) : v = w ∧ Rel3 (B + 220000) m2 m2 := by
  obtain ⟨k1, k2, -⟩ := q136_1 a hk hJ (by omega) ha
  rw [e1] at k1 k2
  try dsimp only at k1 k2
  have o0 : OM (B + 110000) m := ⟨hk, hJ.up (by omega)⟩
  have o1 : OM (B + 110000) m1 := ⟨k1, k2.jb.up (by omega)⟩
  obtain ⟨-, k4, -⟩ := q285_1 a o1.1 o1.2 (by omega) ha
  rw [e2] at k4
  try dsimp only at k4
  have g2 := st_pay ha hk hJ (by omega) h.1 e1 e2
  have h2 : Rel2 B m m1 := h.1.rj k2 rfl rfl
  have e45 : m1 4 45 = m 4 45 := k2.row 45 rfl rfl 4
  have g := op3_pay ha o0 o1 hB h2 (by rw [e45]; exact h.2.1)
  rw [e1, e2] at g
  try dsimp only at g
  exact ⟨g.1, ⟨g2, by rw [jy k4 (g := 0) rfl]; exact g.2, h.img k2 k4 (by omega) rfl rfl rfl rfl rfl rfl rfl⟩⟩
theorem st3_bill {m m1 m2 : zM} {B v w : Int} (hk : z_mok lL m) (hJ : JB B m) (hB : B + 220000 ≤ 700000000) (h : Rel3 B m m) (e1 : f137_1 m = (v, m1)) (e2 : f286_1 m1 = (w, m2)) : Rel3 (B + 220000) m2 m2 := by
  obtain ⟨k1, k2, -⟩ := q137_1 hk hJ (by omega)
  rw [e1] at k1 k2
  try dsimp only at k1 k2
  have o0 : OM (B + 110000) m := ⟨hk, hJ.up (by omega)⟩
  have o1 : OM (B + 110000) m1 := ⟨k1, k2.jb.up (by omega)⟩
  obtain ⟨-, k4, -⟩ := q286_1 o1.1 o1.2 (by omega)
  rw [e2] at k4
  try dsimp only at k4
  have g2 := st_bill hk hJ (by omega) h.1 e1 e2
  have h2 : Rel2 B m m1 := h.1.rj k2 rfl rfl
  have e45 : m1 4 45 = m 4 45 := k2.row 45 rfl rfl 4
  have g := op3_bill o0 o1 hB h2 (by rw [e45]; exact h.2.1)
  rw [e1, e2] at g
  try dsimp only at g
  exact ⟨g2, by rw [jy k4 (g := 0) rfl]; exact g, h.img k2 k4 (by omega) rfl rfl rfl rfl rfl rfl rfl⟩
theorem st3_feed {m m1 m2 : zM} {B a b d e f v w : Int} (ha : -2147483648 ≤ a ∧ a ≤ 2147483647) (hb : -2147483648 ≤ b ∧ b ≤ 2147483647) (hd : -2147483648 ≤ d ∧ d ≤ 2147483647) (he : -2147483648 ≤ e ∧ e ≤ 2147483647) (hf : -2147483648 ≤ f ∧ f ≤ 2147483647) (hk : z_mok lL m) (hJ : JB B m) (hB : B + 220000 ≤ 700000000) (h : Rel3 B m m) (e1 : f85_1 a b d e f m = (v, m1)) (e2 : f256_1 a b d e f m1 = (w, m2)) : v = w ∧ Rel3 (B + 220000) m2 m2 := by
  obtain ⟨k1, k2, -⟩ := q85_1 a b d e f hk hJ (by omega) ha hb hd he hf
  rw [e1] at k1 k2
  try dsimp only at k1 k2
  have o0 : OM (B + 110000) m := ⟨hk, hJ.up (by omega)⟩
  have o1 : OM (B + 110000) m1 := ⟨k1, k2.jb.up (by omega)⟩
  obtain ⟨-, k4, -⟩ := q256_1 a b d e f o1.1 o1.2 (by omega) ha hb hd he hf
  rw [e2] at k4
  try dsimp only at k4
  have g2 := st_feed ha hb hd he hf hk hJ (by omega) h.1 e1 e2
  have h2 : Rel2 B m m1 := h.1.rj k2 rfl rfl
  have e45 : m1 4 45 = m 4 45 := k2.row 45 rfl rfl 4
  have g := op3_feed ha hb hd he hf o0 o1 hB h2 (by rw [e45]; exact h.2.1)
  rw [e1, e2] at g
  try dsimp only at g
  exact ⟨g2.1, ⟨g2.2, by rw [jy k4 (g := 0) rfl]; exact g, h.img k2 k4 (by omega) rfl rfl rfl rfl rfl rfl rfl⟩⟩
theorem st3_end {m m1 m2 : zM} {B a v w : Int} (ha : -2147483648 ≤ a ∧ a ≤ 2147483647) (hk : z_mok lL m) (hJ : JB B m) (hB : B + 220000 ≤ 700000000) (h : Rel3 B m m) (e1 : f88_1 a m = (v, m1)) (e2 : f258_1 a m1 = (w, m2)) : v = w ∧ Rel3 (B + 220000) m2 m2 := by
  obtain ⟨k1, k2, -⟩ := q88_1 a hk hJ (by omega) ha
  rw [e1] at k1 k2
  try dsimp only at k1 k2
  have o0 : OM (B + 110000) m := ⟨hk, hJ.up (by omega)⟩
  have o1 : OM (B + 110000) m1 := ⟨k1, k2.jb.up (by omega)⟩
  obtain ⟨-, k4, -⟩ := q258_1 a o1.1 o1.2 (by omega) ha
  rw [e2] at k4
  try dsimp only at k4
  have g2 := st_end ha hk hJ (by omega) h.1 e1 e2
  have h2 : Rel2 B m m1 := h.1.rj k2 rfl rfl
  have e45 : m1 4 45 = m 4 45 := k2.row 45 rfl rfl 4
  have g := op3_end ha o0 o1 hB h2 (by rw [e45]; exact h.2.1)
  rw [e1, e2] at g
  try dsimp only at g
  exact ⟨g2.1, ⟨g2.2, by rw [jy k4 (g := 0) rfl]; exact g, h.img k2 k4 (by omega) rfl rfl rfl rfl rfl rfl rfl⟩⟩
theorem st3_calendar {m m1 m2 : zM} {B v w : Int} (hk : z_mok lL m) (hJ : JB B m) (hB : B + 220000 ≤ 700000000) (h : Rel3 B m m) (e1 : f90_1 m = (v, m1)) (e2 : f260_1 m1 = (w, m2)) : v = w ∧ Rel3 (B + 220000) m2 m2 := by
  obtain ⟨k1, k2, -⟩ := q90_1 hk hJ (by omega)
  rw [e1] at k1 k2
  try dsimp only at k1 k2
  have o0 : OM (B + 110000) m := ⟨hk, hJ.up (by omega)⟩
  have o1 : OM (B + 110000) m1 := ⟨k1, k2.jb.up (by omega)⟩
  obtain ⟨-, k4, -⟩ := q260_1 o1.1 o1.2 (by omega)
  rw [e2] at k4
  try dsimp only at k4
  have g2 := st_calendar hk hJ (by omega) h.1 e1 e2
  have h2 : Rel2 B m m1 := h.1.rj k2 rfl rfl
  have e45 : m1 4 45 = m 4 45 := k2.row 45 rfl rfl 4
  have g := op3_calendar o0 o1 hB h2 (by rw [e45]; exact h.2.1)
  rw [e1, e2] at g
  try dsimp only at g
  exact ⟨g2.1, ⟨g2.2, by rw [jy k4 (g := 0) rfl]; exact g, h.img k2 k4 (by omega) rfl rfl rfl rfl rfl rfl rfl⟩⟩
theorem st3_would {m m1 m2 : zM} {B a b v w : Int} (ha : -2147483648 ≤ a ∧ a ≤ 2147483647) (hb : -2147483648 ≤ b ∧ b ≤ 2147483647) (hk : z_mok lL m) (hJ : JB B m) (hB : B + 220000 ≤ 700000000) (h : Rel3 B m m) (e1 : f170_1 a b m = (v, m1)) (e2 : f302_1 a b m1 = (w, m2)) : v = w ∧ Rel3 (B + 220000) m2 m2 := by
  obtain ⟨k1, k2, -⟩ := q170_1 a b hk hJ (by omega) ha hb
  rw [e1] at k1 k2
  try dsimp only at k1 k2
  have o0 : OM (B + 110000) m := ⟨hk, hJ.up (by omega)⟩
  have o1 : OM (B + 110000) m1 := ⟨k1, k2.jb.up (by omega)⟩
  obtain ⟨-, k4, -⟩ := q302_1 a b o1.1 o1.2 (by omega) ha hb
  rw [e2] at k4
  try dsimp only at k4
  have g2 := st_would ha hb hk hJ (by omega) h.1 e1 e2
  have e45 : m1 4 45 = m 4 45 := k2.row 45 rfl rfl 4
  have ga := would_A (A := B / 244) (Z := B / 2) (a := a) (b := b) o0 o1 (by omega) (by omega) (by omega) (by rw [e45]; exact h.2.1.1)
  have gw := would_w (a := a) (b := b) o1 (by omega)
  rw [e1, e2] at ga
  rw [e2] at gw
  try dsimp only at ga gw
  refine ⟨ga, g2, ?_, h.img k2 k4 (by omega) rfl rfl rfl rfl rfl rfl rfl⟩
  rw [jy k4 (g := 0) rfl, jy k2 (g := 0) rfl]
  exact (h.2.1.all (CB.of hJ 0) (fun n => FE.rf n _) (fun i i0 i1 => by rw [gw i i0 i1, e45])).up (by omega)
theorem st3_lasts {m m1 m2 : zM} {B v w : Int} (hk : z_mok lL m) (hJ : JB B m) (hB : B + 220000 ≤ 700000000) (h : Rel3 B m m) (e1 : f184_1 m = (v, m1)) (e2 : f309_1 m1 = (w, m2)) : v = w ∧ Rel3 (B + 220000) m2 m2 := by
  obtain ⟨k1, k2, -⟩ := q184_1 hk hJ (by omega)
  rw [e1] at k1 k2
  try dsimp only at k1 k2
  have o0 : OM (B + 110000) m := ⟨hk, hJ.up (by omega)⟩
  have o1 : OM (B + 110000) m1 := ⟨k1, k2.jb.up (by omega)⟩
  obtain ⟨-, k4, -⟩ := q309_1 o1.1 o1.2 (by omega)
  rw [e2] at k4
  try dsimp only at k4
  have g2 := st_lasts hk hJ (by omega) h.1 e1 e2
  have e45 : m1 4 45 = m 4 45 := k2.row 45 rfl rfl 4
  have ga := lasts_A (A := B / 244) (Z := B / 2) o0 o1 (by omega) (by omega) (by omega) (by rw [e45]; exact h.2.1.1)
  have gw := lasts_w o1 (by omega)
  rw [e1, e2] at ga
  rw [e2] at gw
  try dsimp only at ga gw
  refine ⟨ga, g2, ?_, h.img k2 k4 (by omega) rfl rfl rfl rfl rfl rfl rfl⟩
  rw [jy k4 (g := 0) rfl, jy k2 (g := 0) rfl]
  exact (h.2.1.all (CB.of hJ 0) (fun n => FE.rf n _) (fun i i0 i1 => by rw [gw i i0 i1, e45])).up (by omega)
