section
/-! What each call does to what hangs together. -/
theorem Rel2.mk3 {L L' G : List Nat} {B Bc Br B1 : Int} {c c' r r' : zM} (h : Rel2 B c r) (k : J (zQ L G) c Bc c') (k' : J (zQ L' [4]) r Br r') (hb : B ≤ B1) (hm : MR B1 (c' 0) (r' 4 45)) (ha : TA c' r') (hf : FT c' r') (o1 : G.contains 1 = false) (o2 : L.contains 14 = false) (o5 : L'.contains 34 = false) (o9 : ((jp 47).all fun x => !L'.contains x.2.2.1.toNat) = true) (o8 : L'.contains 0 = false) : Rel2 B1 c' r' := by
  have e3 : r' 4 44 3 = r 4 44 3 := jx k' 34 ja44_3 o5
  refine ⟨hm, ?_, fun e => ?_, ha, hf⟩
  · rw [e3, jx k 14 (ja40_0 (by omega)) o2]
    exact h.2.1
  · rw [jy k o1, k'.row 47 o9 o8]
    exact (h.2.2.1 (by rw [← e3]; exact e)).up hb
theorem op_phases {c r : zM} {B a b : Int} (ha : I32 a) (hb : I32 b) (hc : OM B c) (hr : OM B r) (hB : B + 110000 ≤ 1000000000) (h : Rel2 B c r) : (f16_1 a b c).1 = (f202_1 a b r).1 ∧ Rel2 (B + 110000) (f16_1 a b c).2 (f202_1 a b r).2 := by
  obtain ⟨-, k2, -⟩ := q16_1 a b hc.1 hc.2 (by omega) ha hb
  obtain ⟨-, k4, -⟩ := q202_1 a b hr.1 hr.2 (by omega) ha hb
  have hT := phases_T (a := a) (b := b) hc hr (by omega) h.1.2.1 h.1.2.2.1 h.1.2.2.2
  exact ⟨hT.1, h.mk hc k2 k4 (by omega) ⟨(time_fe h.1.1 (FE.j k2 0 11 rfl) (FW.j k4 4 11 rfl)), hT.2.1, (hT.2.2.up (by omega)), (h.1.2.2.2.fe (CB.of hc.2 0) (FE.j k2 0 1 rfl) (FW.j k4 4 1 rfl))⟩ rfl⟩
theorem op_sample {c r : zM} {B a b : Int} (ha : I32 a) (hb : I32 b) (hc : OM B c) (hr : OM B r) (hB : B + 110000 ≤ 1000000000) (h : Rel2 B c r) : (f19_1 a b c).1 = (f205_1 a b r).1 ∧ Rel2 (B + 110000) (f19_1 a b c).2 (f205_1 a b r).2 := by
  obtain ⟨-, k2, -⟩ := q19_1 a b hc.1 hc.2 (by omega) ha hb
  obtain ⟨-, k4, -⟩ := q205_1 a b hr.1 hr.2 (by omega) ha hb
  have hT := sample_T (a := a) (b := b) hc hr (by omega) h.1.1 h.1.2.1
  exact ⟨hT.1, h.mk hc k2 k4 (by omega) ⟨hT.2.1, hT.2.2, ((h.1.2.2.1.fe (FE.j k2 0 4 rfl) (FW.j k4 4 4 rfl)).up (by omega)), (h.1.2.2.2.fe (CB.of hc.2 0) (FE.j k2 0 1 rfl) (FW.j k4 4 1 rfl))⟩ rfl⟩
theorem op_again {c r : zM} {B a : Int} (ha : I32 a) (hc : OM B c) (hr : OM B r) (hB : B + 110000 ≤ 1000000000) (h : Rel2 B c r) : Rel2 (B + 110000) (f69_1 a c).2 (f279_1 a r).2 := by
  obtain ⟨-, k2, -⟩ := q69_1 a hc.1 hc.2 (by omega) ha
  obtain ⟨-, k4, -⟩ := q279_1 a hr.1 hr.2 (by omega) ha
  have hT := again_T (a := a) hc hr (by omega) h.1.1
  exact h.mk hc k2 k4 (by omega) ⟨hT, (h.1.2.1.fe (FE.j k2 0 2 rfl) (FW.j k4 4 2 rfl)), ((h.1.2.2.1.fe (FE.j k2 0 4 rfl) (FW.j k4 4 4 rfl)).up (by omega)), (h.1.2.2.2.fe (CB.of hc.2 0) (FE.j k2 0 1 rfl) (FW.j k4 4 1 rfl))⟩ rfl
theorem op_set {c r : zM} {B a b : Int} (ha : I32 a) (hb : I32 b) (hc : OM B c) (hr : OM B r) (hB : B + 110000 ≤ 1000000000) (h : Rel2 B c r) : Rel2 (B + 110000) (f73_1 a b c).2 (f280_1 a b r).2 := by
  obtain ⟨-, k2, -⟩ := q73_1 a b hc.1 hc.2 (by omega) ha hb
  obtain ⟨-, k4, -⟩ := q280_1 a b hr.1 hr.2 (by omega) ha hb
  have hT := set_S ha hb hc hr (by omega) h.1.2.2.1 h.1.2.2.2
  exact h.mk hc k2 k4 (by omega) ⟨(time_fe h.1.1 (FE.j k2 0 11 rfl) (FW.j k4 4 11 rfl)), (h.1.2.1.fe (FE.j k2 0 2 rfl) (FW.j k4 4 2 rfl)), (hT.up (by omega)), (h.1.2.2.2.fe (CB.of hc.2 0) (FE.j k2 0 1 rfl) (FW.j k4 4 1 rfl))⟩ rfl
theorem op_table {c r : zM} {B a b d : Int} (ha : I32 a) (hb : I32 b) (hd : I32 d) (hc : OM B c) (hr : OM B r) (hB : B + 110000 ≤ 1000000000) (h : Rel2 B c r) : (f78_1 a b d c).1 = (f240_1 a b d r).1 ∧ Rel2 (B + 110000) (f78_1 a b d c).2 (f240_1 a b d r).2 := by
  obtain ⟨-, k2, -⟩ := q78_1 a b d hc.1 hc.2 (by omega) ha hb hd
  obtain ⟨-, k4, -⟩ := q240_1 a b d hr.1 hr.2 (by omega) ha hb hd
  have hT := table_T (a := a) (b := b) (d := d) hc hr (by omega) h.1.2.2.1 h.1.2.2.2
  exact ⟨hT.1, h.mk hc k2 k4 (by omega) ⟨(time_fe h.1.1 (FE.j k2 0 11 rfl) (FW.j k4 4 11 rfl)), (h.1.2.1.fe (FE.j k2 0 2 rfl) (FW.j k4 4 2 rfl)), (hT.2.1.up (by omega)), hT.2.2⟩ rfl⟩
theorem op_wipe {c r : zM} {B a : Int} (ha : I32 a) (hc : OM B c) (hr : OM B r) (hB : B + 110000 ≤ 1000000000) (h : Rel2 B c r) : (f83_1 a c).1 = (f244_1 a r).1 ∧ Rel2 (B + 110000) (f83_1 a c).2 (f244_1 a r).2 := by
  obtain ⟨-, k2, -⟩ := q83_1 a hc.1 hc.2 (by omega) ha
  obtain ⟨-, k4, -⟩ := q244_1 a hr.1 hr.2 (by omega) ha
  have hT := wipe_T (a := a) hc hr (by omega) h.1.2.2.1 h.1.2.2.2
  exact ⟨hT.1, h.mk hc k2 k4 (by omega) ⟨(time_fe h.1.1 (FE.j k2 0 11 rfl) (FW.j k4 4 11 rfl)), (h.1.2.1.fe (FE.j k2 0 2 rfl) (FW.j k4 4 2 rfl)), (hT.2.1.up (by omega)), hT.2.2⟩ rfl⟩
theorem op_seal {c r : zM} {B a : Int} (ha : I32 a) (hc : OM B c) (hr : OM B r) (hB : B + 110000 ≤ 1000000000) (h : Rel2 B c r) : (f114_1 a c).1 = (f276_1 a r).1 ∧ Rel2 (B + 110000) (f114_1 a c).2 (f276_1 a r).2 := by
  obtain ⟨-, k2, -⟩ := q114_1 a hc.1 hc.2 (by omega) ha
  obtain ⟨-, k4, -⟩ := q276_1 a hr.1 hr.2 (by omega) ha
  have hT := seal_T (a := a) hc hr (by omega) h.1.2.2.1
  exact ⟨hT.1, h.mk hc k2 k4 (by omega) ⟨(time_fe h.1.1 (FE.j k2 0 11 rfl) (FW.j k4 4 11 rfl)), (h.1.2.1.fe (FE.j k2 0 2 rfl) (FW.j k4 4 2 rfl)), (hT.2.up (by omega)), (h.1.2.2.2.fe (CB.of hc.2 0) (FE.j k2 0 1 rfl) (FW.j k4 4 1 rfl))⟩ rfl⟩
theorem op_open {c r : zM} {B a : Int} (ha : I32 a) (hc : OM B c) (hr : OM B r) (hB : B + 110000 ≤ 1000000000) (h : Rel2 B c r) : (f116_1 a c).1 = (f277_1 a r).1 ∧ Rel2 (B + 110000) (f116_1 a c).2 (f277_1 a r).2 := by
  obtain ⟨-, k2, -⟩ := q116_1 a hc.1 hc.2 (by omega) ha
  obtain ⟨-, k4, -⟩ := q277_1 a hr.1 hr.2 (by omega) ha
  have hT := open_T (a := a) hc hr (by omega) h.1.1 h.1.2.2.1
  exact ⟨hT.1, h.mk hc k2 k4 (by omega) ⟨(time_fe h.1.1 (FE.j k2 0 11 rfl) (FW.j k4 4 11 rfl)), (h.1.2.1.fe (FE.j k2 0 2 rfl) (FW.j k4 4 2 rfl)), (hT.2.up (by omega)), (h.1.2.2.2.fe (CB.of hc.2 0) (FE.j k2 0 1 rfl) (FW.j k4 4 1 rfl))⟩ rfl⟩
theorem op_season {c r : zM} {B a b : Int} (ha : I32 a) (hb : I32 b) (hc : OM B c) (hr : OM B r) (hB : B + 110000 ≤ 1000000000) (h : Rel2 B c r) : (f122_1 a b c).1 = (f245_1 a b r).1 ∧ Rel2 (B + 110000) (f122_1 a b c).2 (f245_1 a b r).2 := by
  obtain ⟨-, k2, -⟩ := q122_1 a b hc.1 hc.2 (by omega) ha hb
  obtain ⟨-, k4, -⟩ := q245_1 a b hr.1 hr.2 (by omega) ha hb
  have hT := season_T (a := a) (b := b) hc hr (by omega) h.1.2.2.1 h.1.2.2.2
  exact ⟨hT.1, h.mk hc k2 k4 (by omega) ⟨(time_fe h.1.1 (FE.j k2 0 11 rfl) (FW.j k4 4 11 rfl)), (h.1.2.1.fe (FE.j k2 0 2 rfl) (FW.j k4 4 2 rfl)), (hT.2.1.up (by omega)), hT.2.2⟩ rfl⟩
theorem op_week {c r : zM} {B a b d : Int} (ha : I32 a) (hb : I32 b) (hd : I32 d) (hc : OM B c) (hr : OM B r) (hB : B + 110000 ≤ 1000000000) (h : Rel2 B c r) : (f124_1 a b d c).1 = (f247_1 a b d r).1 ∧ Rel2 (B + 110000) (f124_1 a b d c).2 (f247_1 a b d r).2 := by
  obtain ⟨-, k2, -⟩ := q124_1 a b d hc.1 hc.2 (by omega) ha hb hd
  obtain ⟨-, k4, -⟩ := q247_1 a b d hr.1 hr.2 (by omega) ha hb hd
  have hT := week_T (a := a) (b := b) (d := d) hc hr (by omega) h.1.2.2.1 h.1.2.2.2
  exact ⟨hT.1, h.mk hc k2 k4 (by omega) ⟨(time_fe h.1.1 (FE.j k2 0 11 rfl) (FW.j k4 4 11 rfl)), (h.1.2.1.fe (FE.j k2 0 2 rfl) (FW.j k4 4 2 rfl)), (hT.2.1.up (by omega)), hT.2.2⟩ rfl⟩
theorem op_special {c r : zM} {B a b : Int} (ha : I32 a) (hb : I32 b) (hc : OM B c) (hr : OM B r) (hB : B + 110000 ≤ 1000000000) (h : Rel2 B c r) : (f125_1 a b c).1 = (f248_1 a b r).1 ∧ Rel2 (B + 110000) (f125_1 a b c).2 (f248_1 a b r).2 := by
  obtain ⟨-, k2, -⟩ := q125_1 a b hc.1 hc.2 (by omega) ha hb
  obtain ⟨-, k4, -⟩ := q248_1 a b hr.1 hr.2 (by omega) ha hb
  have hT := special_T (a := a) (b := b) hc hr (by omega) h.1.2.2.1 h.1.2.2.2
  exact ⟨hT.1, h.mk hc k2 k4 (by omega) ⟨(time_fe h.1.1 (FE.j k2 0 11 rfl) (FW.j k4 4 11 rfl)), (h.1.2.1.fe (FE.j k2 0 2 rfl) (FW.j k4 4 2 rfl)), (hT.2.1.up (by omega)), hT.2.2⟩ rfl⟩
theorem op_move {c r : zM} {B a : Int} (ha : I32 a) (hc : OM B c) (hr : OM B r) (hB : B + 110000 ≤ 1000000000) (h : Rel2 B c r) : (f127_1 a c).1 = (f281_1 a r).1 ∧ Rel2 (B + 110000) (f127_1 a c).2 (f281_1 a r).2 := by
  obtain ⟨-, k2, -⟩ := q127_1 a hc.1 hc.2 (by omega) ha
  obtain ⟨-, k4, -⟩ := q281_1 a hr.1 hr.2 (by omega) ha
  have hT := move_T (a := a) hc hr (by omega) h.1.1 h.1.2.2.1 h.1.2.2.2
  exact ⟨hT.1, h.mk hc k2 k4 (by omega) ⟨hT.2.1, (h.1.2.1.fe (FE.j k2 0 2 rfl) (FW.j k4 4 2 rfl)), (hT.2.2.up (by omega)), (h.1.2.2.2.fe (CB.of hc.2 0) (FE.j k2 0 1 rfl) (FW.j k4 4 1 rfl))⟩ rfl⟩
theorem op_off {c r : zM} {B a : Int} (ha : I32 a) (hc : OM B c) (hr : OM B r) (hB : B + 110000 ≤ 1000000000) (h : Rel2 B c r) : (f130_1 a c).1 = (f282_1 a r).1 ∧ Rel2 (B + 110000) (f130_1 a c).2 (f282_1 a r).2 := by
  obtain ⟨-, k2, -⟩ := q130_1 a hc.1 hc.2 (by omega) ha
  obtain ⟨-, k4, -⟩ := q282_1 a hr.1 hr.2 (by omega) ha
  have hT := off_T (a := a) hc hr (by omega) h.1.1 h.1.2.1
  exact ⟨hT.1, h.mk hc k2 k4 (by omega) ⟨hT.2.1, hT.2.2, ((h.1.2.2.1.fe (FE.j k2 0 4 rfl) (FW.j k4 4 4 rfl)).up (by omega)), (h.1.2.2.2.fe (CB.of hc.2 0) (FE.j k2 0 1 rfl) (FW.j k4 4 1 rfl))⟩ rfl⟩
theorem op_mark {c r : zM} {B a b : Int} (ha : I32 a) (hb : 0 ≤ b ∧ b ≤ 1) (hc : OM B c) (hr : OM B r) (hB : B + 110000 ≤ 1000000000) (h : Rel2 B c r) : Rel2 (B + 110000) (f134_1 a b c).2 (f283_1 a b r).2 := by
  obtain ⟨-, k2, -⟩ := q134_1 a b hc.1 hc.2 (by omega) ha hb
  obtain ⟨-, k4, -⟩ := q283_1 a b hr.1 hr.2 (by omega) ha hb
  exact h.mk hc k2 k4 (by omega) ⟨(time_fe h.1.1 (FE.j k2 0 11 rfl) (FW.j k4 4 11 rfl)), (h.1.2.1.fe (FE.j k2 0 2 rfl) (FW.j k4 4 2 rfl)), ((h.1.2.2.1.fe (FE.j k2 0 4 rfl) (FW.j k4 4 4 rfl)).up (by omega)), (h.1.2.2.2.fe (CB.of hc.2 0) (FE.j k2 0 1 rfl) (FW.j k4 4 1 rfl))⟩ rfl
theorem op_prepaid {c r : zM} {B a : Int} (ha : 0 ≤ a ∧ a ≤ 1) (hc : OM B c) (hr : OM B r) (hB : B + 110000 ≤ 1000000000) (h : Rel2 B c r) : Rel2 (B + 110000) (f135_1 a c).2 (f284_1 a r).2 := by
  obtain ⟨-, k2, -⟩ := q135_1 a hc.1 hc.2 (by omega) ha
  obtain ⟨-, k4, -⟩ := q284_1 a hr.1 hr.2 (by omega) ha
  exact h.mk hc k2 k4 (by omega) ⟨(time_fe h.1.1 (FE.j k2 0 11 rfl) (FW.j k4 4 11 rfl)), (h.1.2.1.fe (FE.j k2 0 2 rfl) (FW.j k4 4 2 rfl)), ((h.1.2.2.1.fe (FE.j k2 0 4 rfl) (FW.j k4 4 4 rfl)).up (by omega)), (h.1.2.2.2.fe (CB.of hc.2 0) (FE.j k2 0 1 rfl) (FW.j k4 4 1 rfl))⟩ rfl
theorem op_pay {c r : zM} {B a : Int} (ha : I32 a) (hc : OM B c) (hr : OM B r) (hB : B + 110000 ≤ 1000000000) (h : Rel2 B c r) : Rel2 (B + 110000) (f136_1 a c).2 (f285_1 a r).2 := by
  obtain ⟨-, k2, -⟩ := q136_1 a hc.1 hc.2 (by omega) ha
  obtain ⟨-, k4, -⟩ := q285_1 a hr.1 hr.2 (by omega) ha
  exact h.mk hc k2 k4 (by omega) ⟨(time_fe h.1.1 (FE.j k2 0 11 rfl) (FW.j k4 4 11 rfl)), (h.1.2.1.fe (FE.j k2 0 2 rfl) (FW.j k4 4 2 rfl)), ((h.1.2.2.1.fe (FE.j k2 0 4 rfl) (FW.j k4 4 4 rfl)).up (by omega)), (h.1.2.2.2.fe (CB.of hc.2 0) (FE.j k2 0 1 rfl) (FW.j k4 4 1 rfl))⟩ rfl
theorem op_bill {c r : zM} {B : Int} (hc : OM B c) (hr : OM B r) (hB : B + 110000 ≤ 1000000000) (h : Rel2 B c r) : Rel2 (B + 110000) (f137_1 c).2 (f286_1 r).2 := by
  obtain ⟨-, k2, -⟩ := q137_1 hc.1 hc.2 (by omega)
  obtain ⟨-, k4, -⟩ := q286_1 hr.1 hr.2 (by omega)
  exact h.mk hc k2 k4 (by omega) ⟨(time_fe h.1.1 (FE.j k2 0 11 rfl) (FW.j k4 4 11 rfl)), (h.1.2.1.fe (FE.j k2 0 2 rfl) (FW.j k4 4 2 rfl)), ((h.1.2.2.1.fe (FE.j k2 0 4 rfl) (FW.j k4 4 4 rfl)).up (by omega)), (h.1.2.2.2.fe (CB.of hc.2 0) (FE.j k2 0 1 rfl) (FW.j k4 4 1 rfl))⟩ rfl
theorem op_feed {c r : zM} {B a b d e f : Int} (ha : I32 a) (hb : I32 b) (hd : I32 d) (he : I32 e) (hf : I32 f) (hc : OM B c) (hr : OM B r) (hB : B + 110000 ≤ 1000000000) (h : Rel2 B c r) : (f85_1 a b d e f c).1 = (f256_1 a b d e f r).1 ∧ Rel2 (B + 110000) (f85_1 a b d e f c).2 (f256_1 a b d e f r).2 := by
  obtain ⟨-, k2, -⟩ := q85_1 a b d e f hc.1 hc.2 (by omega) ha hb hd he hf
  obtain ⟨-, k4, -⟩ := q256_1 a b d e f hr.1 hr.2 (by omega) ha hb hd he hf
  have hT := feed_T (a := a) (b := b) (d := d) (e := e) (f := f) hc h.2.2.2.1
  exact ⟨hT.1, h.mk3 k2 k4 (by omega) ⟨(time_fe h.1.1 (FE.j k2 0 11 rfl) (FW.j k4 4 11 rfl)), (h.1.2.1.fe (FE.j k2 0 2 rfl) (FW.j k4 4 2 rfl)), ((h.1.2.2.1.fe (FE.j k2 0 4 rfl) (FW.j k4 4 4 rfl)).up (by omega)), (h.1.2.2.2.fe (CB.of hc.2 0) (FE.j k2 0 1 rfl) (FW.j k4 4 1 rfl))⟩ hT.2 (h.2.2.2.2.fe k2 k4 rfl rfl) rfl rfl rfl rfl rfl⟩
theorem op_end {c r : zM} {B a : Int} (ha : I32 a) (hc : OM B c) (hr : OM B r) (hB : B + 110000 ≤ 1000000000) (h : Rel2 B c r) : (f88_1 a c).1 = (f258_1 a r).1 ∧ Rel2 (B + 110000) (f88_1 a c).2 (f258_1 a r).2 := by
  obtain ⟨-, k2, -⟩ := q88_1 a hc.1 hc.2 (by omega) ha
  obtain ⟨-, k4, -⟩ := q258_1 a hr.1 hr.2 (by omega) ha
  have hT := end_T (a := a) h.2.2.2.1
  exact ⟨hT.1, h.mk3 k2 k4 (by omega) ⟨(time_fe h.1.1 (FE.j k2 0 11 rfl) (FW.j k4 4 11 rfl)), (h.1.2.1.fe (FE.j k2 0 2 rfl) (FW.j k4 4 2 rfl)), ((h.1.2.2.1.fe (FE.j k2 0 4 rfl) (FW.j k4 4 4 rfl)).up (by omega)), (h.1.2.2.2.fe (CB.of hc.2 0) (FE.j k2 0 1 rfl) (FW.j k4 4 1 rfl))⟩ hT.2 (h.2.2.2.2.fe k2 k4 rfl rfl) rfl rfl rfl rfl rfl⟩
theorem op_calendar {c r : zM} {B : Int} (hc : OM B c) (hr : OM B r) (hB : B + 110000 ≤ 1000000000) (h : Rel2 B c r) : (f90_1 c).1 = (f260_1 r).1 ∧ Rel2 (B + 110000) (f90_1 c).2 (f260_1 r).2 := by
  obtain ⟨-, k2, -⟩ := q90_1 hc.1 hc.2 (by omega)
  obtain ⟨-, k4, -⟩ := q260_1 hr.1 hr.2 (by omega)
  obtain ⟨g1, g2, g3, g4, g5, -, g7, -, g9⟩ := calendar_T hc hr (by omega) h.1.2.2.1 h.1.2.2.2 h.2.2.2.1
  refine ⟨g1, h.mk3 k2 k4 (by omega) ⟨?_, ?_, g2.up (by omega), g3⟩ g4 g5 rfl rfl rfl rfl rfl⟩
  · rw [g7 8 9 (by omega) (by omega), g9 0 (by omega) (by omega) (by omega) (by omega)]
    exact h.1.1
  · unfold R2
    rw [g7 19 3 (by omega) (by omega), g7 19 4 (by omega) (by omega), g7 19 5 (by omega) (by omega), g9 1 (by omega) (by omega) (by omega) (by omega), g9 2 (by omega) (by omega) (by omega) (by omega), g9 3 (by omega) (by omega) (by omega) (by omega)]
    exact h.1.2.1
theorem op_would {c r : zM} {B a b : Int} (ha : I32 a) (hb : I32 b) (hc : OM B c) (hr : OM B r) (hB : B + 110000 ≤ 1000000000) (h : Rel2 B c r) : Rel2 (B + 110000) (f170_1 a b c).2 (f302_1 a b r).2 := by
  obtain ⟨-, k2, -⟩ := q170_1 a b hc.1 hc.2 (by omega) ha hb
  obtain ⟨-, k4, -⟩ := q302_1 a b hr.1 hr.2 (by omega) ha hb
  exact h.mk hc k2 k4 (by omega) ((h.1.all (CB.of hc.2 0) (fun n => FE.g k2 0 n rfl) (would_w (a := a) (b := b) hr (by omega))).up (by omega)) rfl
theorem op_lasts {c r : zM} {B : Int} (hc : OM B c) (hr : OM B r) (hB : B + 110000 ≤ 1000000000) (h : Rel2 B c r) : Rel2 (B + 110000) (f184_1 c).2 (f309_1 r).2 := by
  obtain ⟨-, k2, -⟩ := q184_1 hc.1 hc.2 (by omega)
  obtain ⟨-, k4, -⟩ := q309_1 hr.1 hr.2 (by omega)
  exact h.mk hc k2 k4 (by omega) ((h.1.all (CB.of hc.2 0) (fun n => FE.g k2 0 n rfl) (lasts_w hr (by omega))).up (by omega)) rfl
theorem op_image {c r : zM} {B a : Int} (ha : 0 ≤ a ∧ a ≤ 1) (hc : OM B c) (hr : OM B r) (hB : B + 110000 ≤ 1000000000) (h : Rel2 B c r) : (f195_1 a c).1 = (f314_1 a r).1 ∧ Rel2 (B + 110000) (f195_1 a c).2 (f314_1 a r).2 := by
  have hf : 0 ≤ c 4 40 4 ∧ c 4 40 4 ≤ 1 := r40_4 hc.2.o 4
  obtain ⟨h1, h2, h3, h4, h5⟩ := id h
  unfold f195_1 f314_1
  simp only [zs_a]
  by_cases h0 : a = 0
  · rw [if_pos h0, if_pos h0]
    by_cases h6 : c 4 40 4 = 0
    · rw [if_pos h6, if_pos (by omega)]
      exact ⟨h6, h.up (by omega)⟩
    · rw [if_neg h6, if_neg (by omega)]
      have hq := f171_1_c (show 0 ≠ 1 by decide) c
      have e4 : f171_1 0 1 c 4 = c 4 := hq.1 4 (by decide)
      have e1 : f171_1 0 1 c 1 = c 1 := hq.1 1 (by decide)
      have w3 : z_upd (z_cpy r 4 45 4 47 0 0 1619) 4 44 3 1 4 44 3 = 1 := by rw [zu_row, fu_s]
      have w47 : z_upd (z_cpy r 4 45 4 47 0 0 1619) 4 44 3 1 4 47 = r 4 47 := by rw [zu_k _ _ _ (by decide), cpy_k _ (.inr (by decide))]
      have w48 : z_upd (z_cpy r 4 45 4 47 0 0 1619) 4 44 3 1 4 48 = r 4 48 := by rw [zu_k _ _ _ (by decide), cpy_k _ (.inr (by decide))]
      have w44 : ∀ i, i ≠ 3 → z_upd (z_cpy r 4 45 4 47 0 0 1619) 4 44 3 1 4 44 i = r 4 44 i := fun i hi => by rw [zu_row, fu_i _ _ hi, cpy_k _ (.inr (by decide))]
      refine ⟨?_, ?_, ?_, fun _ => ?_, ?_, ?_⟩
      · try dsimp only
        rw [e4]
        omega
      · refine ((h3 (by omega)).all (CB.of hc.2 1) (fun n => copy_FE (show 0 ≠ 1 by decide) c n) (fun i i0 i1 => ?_)).up (by omega)
        try dsimp only
        rw [zu_k _ _ _ (by decide), cpy_in _ (by omega), show i - 0 + 0 = i by omega]
      · try dsimp only
        rw [e4, w3]
        omega
      · try dsimp only
        rw [e1, w47]
        exact (h3 (by omega)).up (by omega)
      · unfold TA
        try dsimp only
        rw [e4, w48, w44 5 (by decide)]
        exact h4
      · unfold FT
        try dsimp only
        rw [e4, w44 6 (by decide), w44 7 (by decide)]
        exact h5
  · rw [if_neg h0, if_neg h0]
    have hq := f171_1_c (show 1 ≠ 0 by decide) c
    have e4 : f171_1 1 0 c 4 = c 4 := hq.1 4 (by decide)
    have e0 : f171_1 1 0 c 0 = c 0 := hq.1 0 (by decide)
    have x4 : ∀ k i, k ≠ 40 → z_upd (f171_1 1 0 c) 4 40 4 1 4 k i = c 4 k i := fun k i hk => by rw [zu_k _ _ _ hk, e4]
    have xg : ∀ g, g ≠ 4 → z_upd (f171_1 1 0 c) 4 40 4 1 g = f171_1 1 0 c g := fun g hg => zu_g _ _ _ hg
    have w45 : z_upd (z_cpy r 4 47 4 45 0 0 1619) 4 44 3 1 4 45 = r 4 45 := by rw [zu_k _ _ _ (by decide), cpy_k _ (.inr (by decide))]
    have w48 : z_upd (z_cpy r 4 47 4 45 0 0 1619) 4 44 3 1 4 48 = r 4 48 := by rw [zu_k _ _ _ (by decide), cpy_k _ (.inr (by decide))]
    have w44 : ∀ i, i ≠ 3 → z_upd (z_cpy r 4 47 4 45 0 0 1619) 4 44 3 1 4 44 i = r 4 44 i := fun i hi => by rw [zu_row, fu_i _ _ hi, cpy_k _ (.inr (by decide))]
    refine ⟨?_, ?_, ?_, fun _ => ?_, ?_, ?_⟩
    · try dsimp only
      rw [zu_row, fu_s]
    · try dsimp only
      rw [xg 0 (by decide), e0, w45]
      exact h1.up (by omega)
    · try dsimp only
      rw [zu_row, fu_s, zu_row, fu_s]
    · try dsimp only
      rw [xg 1 (by decide)]
      refine (h1.all (CB.of hc.2 0) (fun n => copy_FE (show 1 ≠ 0 by decide) c n) (fun i i0 i1 => ?_)).up (by omega)
      rw [zu_k _ _ _ (by decide), cpy_in _ (by omega), show i - 0 + 0 = i by omega]
    · unfold TA
      try dsimp only
      rw [x4 41 3 (by decide), w48, w44 5 (by decide)]
      refine ⟨h4.1, fun i i0 i1 => ?_⟩
      rw [x4 42 i (by decide)]
      exact h4.2 i i0 i1
    · unfold FT
      try dsimp only
      rw [x4 41 4 (by decide), x4 41 5 (by decide), w44 6 (by decide), w44 7 (by decide)]
      exact h5
theorem an_fault {c r : zM} {B a : Int} (_hc : OM B c) (_hB : B ≤ 1000000000) (h : Rel2 B c r) : f113_1 a c = f259_1 a r := fault_T h.2.2.2.2
theorem an_tariffAt {c r : zM} {B a : Int} (hc : OM B c) (_hB : B ≤ 1000000000) (h : Rel2 B c r) : f148_1 a c = f250_1 a r := by
  unfold f148_1 f250_1
  by_cases h0 : a < 0
  · rw [if_pos h0, if_pos h0]
  rw [if_neg h0, if_neg h0]
  by_cases h1 : 2000000000 < a
  · rw [if_pos h1, if_neg (by omega)]
  · rw [if_neg h1, if_pos (by omega), zn_a, zn_a]
    exact tf_eq h.1.2.2.2 (CB.of hc.2 0) (by omega)
theorem an_tableOf {c r : zM} {B a : Int} (hc : OM B c) (_hB : B ≤ 1000000000) (h : Rel2 B c r) : f149_1 a c = f251_1 a r := by
  unfold f149_1 f251_1
  by_cases h0 : a < 0
  · rw [if_pos h0, if_pos h0]
  rw [if_neg h0, if_neg h0]
  by_cases h1 : 23148 < a
  · rw [if_pos h1, if_neg (by omega)]
  · rw [if_neg h1, if_pos (by omega), zn_a, zn_a]
    exact (tb_eq h.1.2.2.2 (CB.of hc.2 0) (by omega)).1
theorem an_switching {c r : zM} {B a b d : Int} (hc : OM B c) (_hB : B ≤ 1000000000) (h : Rel2 B c r) : f151_1 a b d c = f252_1 a b d r := by
  unfold f151_1 f252_1
  obtain ⟨t1, t2, -⟩ := h.1.2.2.2.1
  by_cases h0 : a < 0
  · rw [if_pos h0, if_pos h0]
  rw [if_neg h0, if_neg h0]
  by_cases h1 : 8 ≤ a
  · rw [if_pos h1, if_neg (show ¬ a ≤ 7 by omega)]
  rw [if_neg h1, if_pos (show a ≤ 7 by omega), ← t1 a (by omega) (by omega)]
  by_cases h2 : b = -1
  · rw [if_pos h2, if_pos h2]
  rw [if_neg h2, if_neg h2]
  by_cases h3 : b < 0
  · rw [if_pos h3, if_pos h3]
  rw [if_neg h3, if_neg h3]
  by_cases h4 : c 0 12 a ≤ b
  · rw [if_pos h4, if_neg (show ¬ b ≤ c 0 12 a - 1 by omega)]
  rw [if_neg h4, if_pos (show b ≤ c 0 12 a - 1 by omega)]
  by_cases h5 : d < 0
  · rw [if_pos h5, if_pos h5]
  rw [if_neg h5, if_neg h5]
  by_cases h6 : d ≤ 1
  case neg => rw [if_neg h6, if_neg h6]
  rw [if_pos h6, if_pos h6, zn_a]
  obtain ⟨u1, u2⟩ := t2 a b (by omega) (by omega) (by omega) (by omega)
  by_cases h7 : d = 0
  · rw [if_pos h7, if_pos h7, u1]
  · rw [if_neg h7, if_neg h7, u2]
theorem an_next {c r : zM} {B a : Int} (hc : OM B c) (hB : B ≤ 1000000000) (h : Rel2 B c r) : f152_1 a c = f254_1 a r := by
  have tc := hc.t 0
  have e := next_eq h.1.2.2.2 (CB.of hc.2 0) tc.1 tc.2 h.1.1.symm
  have hv := q153_1 0 (c 0 8 9) hc.1 hc.2 (by omega) (by omega) tc
  unfold f152_1 f254_1
  simp only [zn_a]
  rw [← e]
  generalize f153_1 0 (c 0 8 9) c = v at hv ⊢
  by_cases h0 : v = -1
  · rw [if_pos h0, if_pos h0]
    repeat' split
    all_goals first | rfl | omega
  · rw [if_neg h0, if_neg h0, tf_eq h.1.2.2.2 (CB.of hc.2 0) (by omega)]
    repeat' split
    all_goals first | rfl | omega
theorem an_holds {c r : zM} {B a b : Int} (hc : OM B c) (_hB : B ≤ 1000000000) (h : Rel2 B c r) : f193_1 a b c = f253_1 a b r := by
  unfold f193_1 f253_1
  by_cases h0 : a < 0
  · rw [if_pos h0, if_pos h0]
  rw [if_neg h0, if_neg h0]
  by_cases h1 : 23148 < a
  · rw [if_pos h1, if_neg (show ¬ a ≤ 23148 by omega)]
  rw [if_neg h1, if_pos (show a ≤ 23148 by omega)]
  by_cases h2 : b < 0
  · rw [if_pos h2, if_pos h2]
  rw [if_neg h2, if_neg h2]
  by_cases h3 : 4 ≤ b
  · rw [if_pos h3, if_neg (show ¬ b ≤ 3 by omega)]
  rw [if_neg h3, if_pos (show b ≤ 3 by omega)]
  simp only [zn_a]
  obtain ⟨e1, e2, e3⟩ := tb_eq h.1.2.2.2 (CB.of hc.2 0) (d := a) (by omega)
  rw [e1]
  exact held_eq h.1.2.2.2 (CB.of hc.2 0) e2 e3
theorem st_phases {m m1 m2 : zM} {B a b v w : Int} (ha : -2147483648 ≤ a ∧ a ≤ 2147483647) (hb : -2147483648 ≤ b ∧ b ≤ 2147483647) (hk : z_mok lL m) (hJ : JB B m) (hB : B + 220000 ≤ 1000000000) (h : Rel2 B m m) (e1 : f16_1 a b m = (v, m1)) (e2 : f202_1 a b m1 = (w, m2)) : v = w ∧ Rel2 (B + 220000) m2 m2 := by
  obtain ⟨k1, k2, -⟩ := q16_1 a b hk hJ (by omega) ha hb
  rw [e1] at k1 k2
  try dsimp only at k1 k2
  have o0 : OM (B + 110000) m := ⟨hk, hJ.up (by omega)⟩
  have o1 : OM (B + 110000) m1 := ⟨k1, k2.jb.up (by omega)⟩
  obtain ⟨-, k4, -⟩ := q202_1 a b o1.1 o1.2 (by omega) ha hb
  rw [e2] at k4
  try dsimp only at k4
  have g := op_phases ha hb o0 o1 (by omega) ((h.rj k2 rfl rfl).up (show B ≤ B + 110000 by omega))
  rw [e1, e2] at g
  try dsimp only at g
  exact ⟨g.1, (g.2.cj k4 rfl rfl).up (by omega)⟩
theorem st_sample {m m1 m2 : zM} {B a b v w : Int} (ha : -2147483648 ≤ a ∧ a ≤ 2147483647) (hb : -2147483648 ≤ b ∧ b ≤ 2147483647) (hk : z_mok lL m) (hJ : JB B m) (hB : B + 220000 ≤ 1000000000) (h : Rel2 B m m) (e1 : f19_1 a b m = (v, m1)) (e2 : f205_1 a b m1 = (w, m2)) : v = w ∧ Rel2 (B + 220000) m2 m2 := by
  obtain ⟨k1, k2, -⟩ := q19_1 a b hk hJ (by omega) ha hb
  rw [e1] at k1 k2
  try dsimp only at k1 k2
  have o0 : OM (B + 110000) m := ⟨hk, hJ.up (by omega)⟩
  have o1 : OM (B + 110000) m1 := ⟨k1, k2.jb.up (by omega)⟩
  obtain ⟨-, k4, -⟩ := q205_1 a b o1.1 o1.2 (by omega) ha hb
  rw [e2] at k4
  try dsimp only at k4
  have g := op_sample ha hb o0 o1 (by omega) ((h.rj k2 rfl rfl).up (show B ≤ B + 110000 by omega))
  rw [e1, e2] at g
  try dsimp only at g
  exact ⟨g.1, (g.2.cj k4 rfl rfl).up (by omega)⟩
theorem st_again {m m1 m2 : zM} {B a v w : Int} (ha : -2147483648 ≤ a ∧ a ≤ 2147483647) (hk : z_mok lL m) (hJ : JB B m) (hB : B + 220000 ≤ 1000000000) (h : Rel2 B m m) (e1 : f69_1 a m = (v, m1)) (e2 : f279_1 a m1 = (w, m2)) : Rel2 (B + 220000) m2 m2 := by
  obtain ⟨k1, k2, -⟩ := q69_1 a hk hJ (by omega) ha
  rw [e1] at k1 k2
  try dsimp only at k1 k2
  have o0 : OM (B + 110000) m := ⟨hk, hJ.up (by omega)⟩
  have o1 : OM (B + 110000) m1 := ⟨k1, k2.jb.up (by omega)⟩
  obtain ⟨-, k4, -⟩ := q279_1 a o1.1 o1.2 (by omega) ha
  rw [e2] at k4
  try dsimp only at k4
  have g := op_again ha o0 o1 (by omega) ((h.rj k2 rfl rfl).up (show B ≤ B + 110000 by omega))
  rw [e1, e2] at g
  try dsimp only at g
  exact (g.cj k4 rfl rfl).up (by omega)
theorem st_set {m m1 m2 : zM} {B a b v w : Int} (ha : -2147483648 ≤ a ∧ a ≤ 2147483647) (hb : -2147483648 ≤ b ∧ b ≤ 2147483647) (hk : z_mok lL m) (hJ : JB B m) (hB : B + 220000 ≤ 1000000000) (h : Rel2 B m m) (e1 : f73_1 a b m = (v, m1)) (e2 : f280_1 a b m1 = (w, m2)) : Rel2 (B + 220000) m2 m2 := by
  obtain ⟨k1, k2, -⟩ := q73_1 a b hk hJ (by omega) ha hb
  rw [e1] at k1 k2
  try dsimp only at k1 k2
  have o0 : OM (B + 110000) m := ⟨hk, hJ.up (by omega)⟩
  have o1 : OM (B + 110000) m1 := ⟨k1, k2.jb.up (by omega)⟩
  obtain ⟨-, k4, -⟩ := q280_1 a b o1.1 o1.2 (by omega) ha hb
  rw [e2] at k4
  try dsimp only at k4
  have g := op_set ha hb o0 o1 (by omega) ((h.rj k2 rfl rfl).up (show B ≤ B + 110000 by omega))
  rw [e1, e2] at g
  try dsimp only at g
  exact (g.cj k4 rfl rfl).up (by omega)
theorem st_table {m m1 m2 : zM} {B a b d v w : Int} (ha : -2147483648 ≤ a ∧ a ≤ 2147483647) (hb : -2147483648 ≤ b ∧ b ≤ 2147483647) (hd : -2147483648 ≤ d ∧ d ≤ 2147483647) (hk : z_mok lL m) (hJ : JB B m) (hB : B + 220000 ≤ 1000000000) (h : Rel2 B m m) (e1 : f78_1 a b d m = (v, m1)) (e2 : f240_1 a b d m1 = (w, m2)) : v = w ∧ Rel2 (B + 220000) m2 m2 := by
  obtain ⟨k1, k2, -⟩ := q78_1 a b d hk hJ (by omega) ha hb hd
  rw [e1] at k1 k2
  try dsimp only at k1 k2
  have o0 : OM (B + 110000) m := ⟨hk, hJ.up (by omega)⟩
  have o1 : OM (B + 110000) m1 := ⟨k1, k2.jb.up (by omega)⟩
  obtain ⟨-, k4, -⟩ := q240_1 a b d o1.1 o1.2 (by omega) ha hb hd
  rw [e2] at k4
  try dsimp only at k4
  have g := op_table ha hb hd o0 o1 (by omega) ((h.rj k2 rfl rfl).up (show B ≤ B + 110000 by omega))
  rw [e1, e2] at g
  try dsimp only at g
  exact ⟨g.1, (g.2.cj k4 rfl rfl).up (by omega)⟩
theorem st_wipe {m m1 m2 : zM} {B a v w : Int} (ha : -2147483648 ≤ a ∧ a ≤ 2147483647) (hk : z_mok lL m) (hJ : JB B m) (hB : B + 220000 ≤ 1000000000) (h : Rel2 B m m) (e1 : f83_1 a m = (v, m1)) (e2 : f244_1 a m1 = (w, m2)) : v = w ∧ Rel2 (B + 220000) m2 m2 := by
  obtain ⟨k1, k2, -⟩ := q83_1 a hk hJ (by omega) ha
  rw [e1] at k1 k2
  try dsimp only at k1 k2
  have o0 : OM (B + 110000) m := ⟨hk, hJ.up (by omega)⟩
  have o1 : OM (B + 110000) m1 := ⟨k1, k2.jb.up (by omega)⟩
  obtain ⟨-, k4, -⟩ := q244_1 a o1.1 o1.2 (by omega) ha
  rw [e2] at k4
  try dsimp only at k4
  have g := op_wipe ha o0 o1 (by omega) ((h.rj k2 rfl rfl).up (show B ≤ B + 110000 by omega))
  rw [e1, e2] at g
  try dsimp only at g
  exact ⟨g.1, (g.2.cj k4 rfl rfl).up (by omega)⟩
theorem st_seal {m m1 m2 : zM} {B a v w : Int} (ha : -2147483648 ≤ a ∧ a ≤ 2147483647) (hk : z_mok lL m) (hJ : JB B m) (hB : B + 220000 ≤ 1000000000) (h : Rel2 B m m) (e1 : f114_1 a m = (v, m1)) (e2 : f276_1 a m1 = (w, m2)) : v = w ∧ Rel2 (B + 220000) m2 m2 := by
  obtain ⟨k1, k2, -⟩ := q114_1 a hk hJ (by omega) ha
  rw [e1] at k1 k2
  try dsimp only at k1 k2
  have o0 : OM (B + 110000) m := ⟨hk, hJ.up (by omega)⟩
  have o1 : OM (B + 110000) m1 := ⟨k1, k2.jb.up (by omega)⟩
  obtain ⟨-, k4, -⟩ := q276_1 a o1.1 o1.2 (by omega) ha
  rw [e2] at k4
  try dsimp only at k4
  have g := op_seal ha o0 o1 (by omega) ((h.rj k2 rfl rfl).up (show B ≤ B + 110000 by omega))
  rw [e1, e2] at g
  try dsimp only at g
  exact ⟨g.1, (g.2.cj k4 rfl rfl).up (by omega)⟩
theorem st_open {m m1 m2 : zM} {B a v w : Int} (ha : -2147483648 ≤ a ∧ a ≤ 2147483647) (hk : z_mok lL m) (hJ : JB B m) (hB : B + 220000 ≤ 1000000000) (h : Rel2 B m m) (e1 : f116_1 a m = (v, m1)) (e2 : f277_1 a m1 = (w, m2)) : v = w ∧ Rel2 (B + 220000) m2 m2 := by
  obtain ⟨k1, k2, -⟩ := q116_1 a hk hJ (by omega) ha
  rw [e1] at k1 k2
  try dsimp only at k1 k2
  have o0 : OM (B + 110000) m := ⟨hk, hJ.up (by omega)⟩
  have o1 : OM (B + 110000) m1 := ⟨k1, k2.jb.up (by omega)⟩
  obtain ⟨-, k4, -⟩ := q277_1 a o1.1 o1.2 (by omega) ha
  rw [e2] at k4
  try dsimp only at k4
  have g := op_open ha o0 o1 (by omega) ((h.rj k2 rfl rfl).up (show B ≤ B + 110000 by omega))
  rw [e1, e2] at g
  try dsimp only at g
  exact ⟨g.1, (g.2.cj k4 rfl rfl).up (by omega)⟩
theorem st_season {m m1 m2 : zM} {B a b v w : Int} (ha : -2147483648 ≤ a ∧ a ≤ 2147483647) (hb : -2147483648 ≤ b ∧ b ≤ 2147483647) (hk : z_mok lL m) (hJ : JB B m) (hB : B + 220000 ≤ 1000000000) (h : Rel2 B m m) (e1 : f122_1 a b m = (v, m1)) (e2 : f245_1 a b m1 = (w, m2)) : v = w ∧ Rel2 (B + 220000) m2 m2 := by
  obtain ⟨k1, k2, -⟩ := q122_1 a b hk hJ (by omega) ha hb
  rw [e1] at k1 k2
  try dsimp only at k1 k2
  have o0 : OM (B + 110000) m := ⟨hk, hJ.up (by omega)⟩
  have o1 : OM (B + 110000) m1 := ⟨k1, k2.jb.up (by omega)⟩
  obtain ⟨-, k4, -⟩ := q245_1 a b o1.1 o1.2 (by omega) ha hb
  rw [e2] at k4
  try dsimp only at k4
  have g := op_season ha hb o0 o1 (by omega) ((h.rj k2 rfl rfl).up (show B ≤ B + 110000 by omega))
  rw [e1, e2] at g
  try dsimp only at g
  exact ⟨g.1, (g.2.cj k4 rfl rfl).up (by omega)⟩
theorem st_week {m m1 m2 : zM} {B a b d v w : Int} (ha : -2147483648 ≤ a ∧ a ≤ 2147483647) (hb : -2147483648 ≤ b ∧ b ≤ 2147483647) (hd : -2147483648 ≤ d ∧ d ≤ 2147483647) (hk : z_mok lL m) (hJ : JB B m) (hB : B + 220000 ≤ 1000000000) (h : Rel2 B m m) (e1 : f124_1 a b d m = (v, m1)) (e2 : f247_1 a b d m1 = (w, m2)) : v = w ∧ Rel2 (B + 220000) m2 m2 := by
  obtain ⟨k1, k2, -⟩ := q124_1 a b d hk hJ (by omega) ha hb hd
  rw [e1] at k1 k2
  try dsimp only at k1 k2
  have o0 : OM (B + 110000) m := ⟨hk, hJ.up (by omega)⟩
  have o1 : OM (B + 110000) m1 := ⟨k1, k2.jb.up (by omega)⟩
  obtain ⟨-, k4, -⟩ := q247_1 a b d o1.1 o1.2 (by omega) ha hb hd
  rw [e2] at k4
  try dsimp only at k4
  have g := op_week ha hb hd o0 o1 (by omega) ((h.rj k2 rfl rfl).up (show B ≤ B + 110000 by omega))
  rw [e1, e2] at g
  try dsimp only at g
  exact ⟨g.1, (g.2.cj k4 rfl rfl).up (by omega)⟩
theorem st_special {m m1 m2 : zM} {B a b v w : Int} (ha : -2147483648 ≤ a ∧ a ≤ 2147483647) (hb : -2147483648 ≤ b ∧ b ≤ 2147483647) (hk : z_mok lL m) (hJ : JB B m) (hB : B + 220000 ≤ 1000000000) (h : Rel2 B m m) (e1 : f125_1 a b m = (v, m1)) (e2 : f248_1 a b m1 = (w, m2)) : v = w ∧ Rel2 (B + 220000) m2 m2 := by
  obtain ⟨k1, k2, -⟩ := q125_1 a b hk hJ (by omega) ha hb
  rw [e1] at k1 k2
  try dsimp only at k1 k2
  have o0 : OM (B + 110000) m := ⟨hk, hJ.up (by omega)⟩
  have o1 : OM (B + 110000) m1 := ⟨k1, k2.jb.up (by omega)⟩
  obtain ⟨-, k4, -⟩ := q248_1 a b o1.1 o1.2 (by omega) ha hb
  rw [e2] at k4
  try dsimp only at k4
  have g := op_special ha hb o0 o1 (by omega) ((h.rj k2 rfl rfl).up (show B ≤ B + 110000 by omega))
  rw [e1, e2] at g
  try dsimp only at g
  exact ⟨g.1, (g.2.cj k4 rfl rfl).up (by omega)⟩
theorem st_move {m m1 m2 : zM} {B a v w : Int} (ha : -2147483648 ≤ a ∧ a ≤ 2147483647) (hk : z_mok lL m) (hJ : JB B m) (hB : B + 220000 ≤ 1000000000) (h : Rel2 B m m) (e1 : f127_1 a m = (v, m1)) (e2 : f281_1 a m1 = (w, m2)) : v = w ∧ Rel2 (B + 220000) m2 m2 := by
  obtain ⟨k1, k2, -⟩ := q127_1 a hk hJ (by omega) ha
  rw [e1] at k1 k2
  try dsimp only at k1 k2
  have o0 : OM (B + 110000) m := ⟨hk, hJ.up (by omega)⟩
  have o1 : OM (B + 110000) m1 := ⟨k1, k2.jb.up (by omega)⟩
  obtain ⟨-, k4, -⟩ := q281_1 a o1.1 o1.2 (by omega) ha
  rw [e2] at k4
  try dsimp only at k4
  have g := op_move ha o0 o1 (by omega) ((h.rj k2 rfl rfl).up (show B ≤ B + 110000 by omega))
  rw [e1, e2] at g
  try dsimp only at g
  exact ⟨g.1, (g.2.cj k4 rfl rfl).up (by omega)⟩
theorem st_off {m m1 m2 : zM} {B a v w : Int} (ha : -2147483648 ≤ a ∧ a ≤ 2147483647) (hk : z_mok lL m) (hJ : JB B m) (hB : B + 220000 ≤ 1000000000) (h : Rel2 B m m) (e1 : f130_1 a m = (v, m1)) (e2 : f282_1 a m1 = (w, m2)) : v = w ∧ Rel2 (B + 220000) m2 m2 := by
  obtain ⟨k1, k2, -⟩ := q130_1 a hk hJ (by omega) ha
  rw [e1] at k1 k2
  try dsimp only at k1 k2
  have o0 : OM (B + 110000) m := ⟨hk, hJ.up (by omega)⟩
  have o1 : OM (B + 110000) m1 := ⟨k1, k2.jb.up (by omega)⟩
  obtain ⟨-, k4, -⟩ := q282_1 a o1.1 o1.2 (by omega) ha
  rw [e2] at k4
  try dsimp only at k4
  have g := op_off ha o0 o1 (by omega) ((h.rj k2 rfl rfl).up (show B ≤ B + 110000 by omega))
  rw [e1, e2] at g
  try dsimp only at g
  exact ⟨g.1, (g.2.cj k4 rfl rfl).up (by omega)⟩
theorem st_mark {m m1 m2 : zM} {B a b v w : Int} (ha : -2147483648 ≤ a ∧ a ≤ 2147483647) (hb : 0 ≤ b ∧ b ≤ 1) (hk : z_mok lL m) (hJ : JB B m) (hB : B + 220000 ≤ 1000000000) (h : Rel2 B m m) (e1 : f134_1 a b m = (v, m1)) (e2 : f283_1 a b m1 = (w, m2)) : Rel2 (B + 220000) m2 m2 := by
  obtain ⟨k1, k2, -⟩ := q134_1 a b hk hJ (by omega) ha hb
  rw [e1] at k1 k2
  try dsimp only at k1 k2
  have o0 : OM (B + 110000) m := ⟨hk, hJ.up (by omega)⟩
  have o1 : OM (B + 110000) m1 := ⟨k1, k2.jb.up (by omega)⟩
  obtain ⟨-, k4, -⟩ := q283_1 a b o1.1 o1.2 (by omega) ha hb
  rw [e2] at k4
  try dsimp only at k4
  have g := op_mark ha hb o0 o1 (by omega) ((h.rj k2 rfl rfl).up (show B ≤ B + 110000 by omega))
  rw [e1, e2] at g
  try dsimp only at g
  exact (g.cj k4 rfl rfl).up (by omega)
theorem st_prepaid {m m1 m2 : zM} {B a v w : Int} (ha : 0 ≤ a ∧ a ≤ 1) (hk : z_mok lL m) (hJ : JB B m) (hB : B + 220000 ≤ 1000000000) (h : Rel2 B m m) (e1 : f135_1 a m = (v, m1)) (e2 : f284_1 a m1 = (w, m2)) : Rel2 (B + 220000) m2 m2 := by
  obtain ⟨k1, k2, -⟩ := q135_1 a hk hJ (by omega) ha
  rw [e1] at k1 k2
  try dsimp only at k1 k2
  have o0 : OM (B + 110000) m := ⟨hk, hJ.up (by omega)⟩
  have o1 : OM (B + 110000) m1 := ⟨k1, k2.jb.up (by omega)⟩
  obtain ⟨-, k4, -⟩ := q284_1 a o1.1 o1.2 (by omega) ha
  rw [e2] at k4
  try dsimp only at k4
  have g := op_prepaid ha o0 o1 (by omega) ((h.rj k2 rfl rfl).up (show B ≤ B + 110000 by omega))
  rw [e1, e2] at g
  try dsimp only at g
  exact (g.cj k4 rfl rfl).up (by omega)
theorem st_pay {m m1 m2 : zM} {B a v w : Int} (ha : -2147483648 ≤ a ∧ a ≤ 2147483647) (hk : z_mok lL m) (hJ : JB B m) (hB : B + 220000 ≤ 1000000000) (h : Rel2 B m m) (e1 : f136_1 a m = (v, m1)) (e2 : f285_1 a m1 = (w, m2)) : Rel2 (B + 220000) m2 m2 := by
  obtain ⟨k1, k2, -⟩ := q136_1 a hk hJ (by omega) ha
  rw [e1] at k1 k2
  try dsimp only at k1 k2
  have o0 : OM (B + 110000) m := ⟨hk, hJ.up (by omega)⟩
  have o1 : OM (B + 110000) m1 := ⟨k1, k2.jb.up (by omega)⟩
  obtain ⟨-, k4, -⟩ := q285_1 a o1.1 o1.2 (by omega) ha
  rw [e2] at k4
  try dsimp only at k4
  have g := op_pay ha o0 o1 (by omega) ((h.rj k2 rfl rfl).up (show B ≤ B + 110000 by omega))
  rw [e1, e2] at g
  try dsimp only at g
  exact (g.cj k4 rfl rfl).up (by omega)
theorem st_bill {m m1 m2 : zM} {B v w : Int} (hk : z_mok lL m) (hJ : JB B m) (hB : B + 220000 ≤ 1000000000) (h : Rel2 B m m) (e1 : f137_1 m = (v, m1)) (e2 : f286_1 m1 = (w, m2)) : Rel2 (B + 220000) m2 m2 := by
  obtain ⟨k1, k2, -⟩ := q137_1 hk hJ (by omega)
  rw [e1] at k1 k2
  try dsimp only at k1 k2
  have o0 : OM (B + 110000) m := ⟨hk, hJ.up (by omega)⟩
  have o1 : OM (B + 110000) m1 := ⟨k1, k2.jb.up (by omega)⟩
  obtain ⟨-, k4, -⟩ := q286_1 o1.1 o1.2 (by omega)
  rw [e2] at k4
  try dsimp only at k4
  have g := op_bill o0 o1 (by omega) ((h.rj k2 rfl rfl).up (show B ≤ B + 110000 by omega))
  rw [e1, e2] at g
  try dsimp only at g
  exact (g.cj k4 rfl rfl).up (by omega)
theorem st_feed {m m1 m2 : zM} {B a b d e f v w : Int} (ha : -2147483648 ≤ a ∧ a ≤ 2147483647) (hb : -2147483648 ≤ b ∧ b ≤ 2147483647) (hd : -2147483648 ≤ d ∧ d ≤ 2147483647) (he : -2147483648 ≤ e ∧ e ≤ 2147483647) (hf : -2147483648 ≤ f ∧ f ≤ 2147483647) (hk : z_mok lL m) (hJ : JB B m) (hB : B + 220000 ≤ 1000000000) (h : Rel2 B m m) (e1 : f85_1 a b d e f m = (v, m1)) (e2 : f256_1 a b d e f m1 = (w, m2)) : v = w ∧ Rel2 (B + 220000) m2 m2 := by
  obtain ⟨k1, k2, -⟩ := q85_1 a b d e f hk hJ (by omega) ha hb hd he hf
  rw [e1] at k1 k2
  try dsimp only at k1 k2
  have o0 : OM (B + 110000) m := ⟨hk, hJ.up (by omega)⟩
  have o1 : OM (B + 110000) m1 := ⟨k1, k2.jb.up (by omega)⟩
  obtain ⟨-, k4, -⟩ := q256_1 a b d e f o1.1 o1.2 (by omega) ha hb hd he hf
  rw [e2] at k4
  try dsimp only at k4
  have g := op_feed ha hb hd he hf o0 o1 (by omega) ((h.rj k2 rfl rfl).up (show B ≤ B + 110000 by omega))
  rw [e1, e2] at g
  try dsimp only at g
  exact ⟨g.1, (g.2.cj k4 rfl rfl).up (by omega)⟩
theorem st_end {m m1 m2 : zM} {B a v w : Int} (ha : -2147483648 ≤ a ∧ a ≤ 2147483647) (hk : z_mok lL m) (hJ : JB B m) (hB : B + 220000 ≤ 1000000000) (h : Rel2 B m m) (e1 : f88_1 a m = (v, m1)) (e2 : f258_1 a m1 = (w, m2)) : v = w ∧ Rel2 (B + 220000) m2 m2 := by
  obtain ⟨k1, k2, -⟩ := q88_1 a hk hJ (by omega) ha
  rw [e1] at k1 k2
  try dsimp only at k1 k2
  have o0 : OM (B + 110000) m := ⟨hk, hJ.up (by omega)⟩
  have o1 : OM (B + 110000) m1 := ⟨k1, k2.jb.up (by omega)⟩
  obtain ⟨-, k4, -⟩ := q258_1 a o1.1 o1.2 (by omega) ha
  rw [e2] at k4
  try dsimp only at k4
  have g := op_end ha o0 o1 (by omega) ((h.rj k2 rfl rfl).up (show B ≤ B + 110000 by omega))
  rw [e1, e2] at g
  try dsimp only at g
  exact ⟨g.1, (g.2.cj k4 rfl rfl).up (by omega)⟩
theorem st_calendar {m m1 m2 : zM} {B v w : Int} (hk : z_mok lL m) (hJ : JB B m) (hB : B + 220000 ≤ 1000000000) (h : Rel2 B m m) (e1 : f90_1 m = (v, m1)) (e2 : f260_1 m1 = (w, m2)) : v = w ∧ Rel2 (B + 220000) m2 m2 := by
  obtain ⟨k1, k2, -⟩ := q90_1 hk hJ (by omega)
  rw [e1] at k1 k2
  try dsimp only at k1 k2
  have o0 : OM (B + 110000) m := ⟨hk, hJ.up (by omega)⟩
  have o1 : OM (B + 110000) m1 := ⟨k1, k2.jb.up (by omega)⟩
  obtain ⟨-, k4, -⟩ := q260_1 o1.1 o1.2 (by omega)
  rw [e2] at k4
  try dsimp only at k4
  have g := op_calendar o0 o1 (by omega) ((h.rj k2 rfl rfl).up (show B ≤ B + 110000 by omega))
  rw [e1, e2] at g
  try dsimp only at g
  exact ⟨g.1, (g.2.cj k4 rfl rfl).up (by omega)⟩
theorem st_would {m m1 m2 : zM} {B a b v w : Int} (ha : -2147483648 ≤ a ∧ a ≤ 2147483647) (hb : -2147483648 ≤ b ∧ b ≤ 2147483647) (hk : z_mok lL m) (hJ : JB B m) (hB : B + 220000 ≤ 1000000000) (h : Rel2 B m m) (e1 : f170_1 a b m = (v, m1)) (e2 : f302_1 a b m1 = (w, m2)) : Rel2 (B + 220000) m2 m2 := by
  obtain ⟨k1, k2, -⟩ := q170_1 a b hk hJ (by omega) ha hb
  rw [e1] at k1 k2
  try dsimp only at k1 k2
  have o0 : OM (B + 110000) m := ⟨hk, hJ.up (by omega)⟩
  have o1 : OM (B + 110000) m1 := ⟨k1, k2.jb.up (by omega)⟩
  obtain ⟨-, k4, -⟩ := q302_1 a b o1.1 o1.2 (by omega) ha hb
  rw [e2] at k4
  try dsimp only at k4
  have g := op_would ha hb o0 o1 (by omega) ((h.rj k2 rfl rfl).up (show B ≤ B + 110000 by omega))
  rw [e1, e2] at g
  try dsimp only at g
  exact (g.cj k4 rfl rfl).up (by omega)
theorem st_lasts {m m1 m2 : zM} {B v w : Int} (hk : z_mok lL m) (hJ : JB B m) (hB : B + 220000 ≤ 1000000000) (h : Rel2 B m m) (e1 : f184_1 m = (v, m1)) (e2 : f309_1 m1 = (w, m2)) : Rel2 (B + 220000) m2 m2 := by
  obtain ⟨k1, k2, -⟩ := q184_1 hk hJ (by omega)
  rw [e1] at k1 k2
  try dsimp only at k1 k2
  have o0 : OM (B + 110000) m := ⟨hk, hJ.up (by omega)⟩
  have o1 : OM (B + 110000) m1 := ⟨k1, k2.jb.up (by omega)⟩
  obtain ⟨-, k4, -⟩ := q309_1 o1.1 o1.2 (by omega)
  rw [e2] at k4
  try dsimp only at k4
  have g := op_lasts o0 o1 (by omega) ((h.rj k2 rfl rfl).up (show B ≤ B + 110000 by omega))
  rw [e1, e2] at g
  try dsimp only at g
  exact (g.cj k4 rfl rfl).up (by omega)
theorem st_image {m m1 m2 : zM} {B a v w : Int} (ha : 0 ≤ a ∧ a ≤ 1) (hk : z_mok lL m) (hJ : JB B m) (hB : B + 220000 ≤ 1000000000) (h : Rel2 B m m) (e1 : f195_1 a m = (v, m1)) (e2 : f314_1 a m1 = (w, m2)) : v = w ∧ Rel2 (B + 220000) m2 m2 := by
  obtain ⟨k1, k2, -⟩ := q195_1 a hk hJ (by omega) ha
  rw [e1] at k1 k2
  try dsimp only at k1 k2
  have o0 : OM (B + 110000) m := ⟨hk, hJ.up (by omega)⟩
  have o1 : OM (B + 110000) m1 := ⟨k1, k2.jb.up (by omega)⟩
  obtain ⟨-, k4, -⟩ := q314_1 a o1.1 o1.2 (by omega) ha
  rw [e2] at k4
  try dsimp only at k4
  have g := op_image ha o0 o1 (by omega) ((h.rj k2 rfl rfl).up (show B ≤ B + 110000 by omega))
  rw [e1, e2] at g
  try dsimp only at g
  exact ⟨g.1, (g.2.cj k4 rfl rfl).up (by omega)⟩
end
section
/-! The reference: a second flows. -/
def RB (w : Int → Int) : Prop := (∀ i, 60 ≤ i → i ≤ 94 → 0 ≤ w i ∧ w i ≤ 1000000000000000) ∧ (1 ≤ w 5 ∧ w 5 ≤ 1000000) ∧ (∀ t, 0 ≤ t → t < 4 → 0 ≤ w (28 + t) ∧ w (28 + t) ≤ 100) ∧ (-1000000000000000000 ≤ w 10 ∧ w 10 ≤ 1000000000000000000) ∧ (0 ≤ w 22 ∧ w 22 ≤ 1000000000000000) ∧ (0 ≤ w 23 ∧ w 23 ≤ 1000000000000000) ∧ (0 ≤ w 24 ∧ w 24 ≤ 1000000000000000) ∧ (0 ≤ w 14 ∧ w 14 ≤ 1000000000)
theorem add220 {m : zM} {a t x : Int} (ha : 0 ≤ a ∧ a ≤ 6) (ht : 0 ≤ t ∧ t < 4) (hx : 0 ≤ x ∧ x ≤ 20000000) (hr : ∀ i, 60 ≤ i → i ≤ 94 → 0 ≤ m 4 45 i ∧ m 4 45 i ≤ 1001000000000000) : (∀ i, f220_1 a t x m 4 45 i = m 4 45 i + if i = 60 + 5 * a + t ∨ i = 60 + 5 * a + 4 then x else 0) ∧ ∀ g k, (g ≠ 4 ∨ k ≠ 45) → f220_1 a t x m g k = m g k := by
  unfold f220_1
  simp only [zn_a, zs_a]
  have r1 := hr (60 + 5 * a + t) (by omega) (by omega)
  have r2 := hr (60 + 5 * a + 4) (by omega) (by omega)
  have e : z_upd m 4 45 (60 + 5 * a + t) (w64 (m 4 45 (60 + 5 * a + t) + x)) 4 45 (60 + 5 * a + 4) = m 4 45 (60 + 5 * a + 4) := by rw [zu_row, fu_i _ _ (by omega)]
  rw [e, w64_id (by omega), w64_id (by omega)]
  refine ⟨fun i => ?_, fun g k h => ?_⟩
  · rw [zu_row, zu_row]
    by_cases b : i = 60 + 5 * a + 4
    · rw [b, fu_s, if_pos (.inr rfl)]
    · rw [fu_i _ _ b]
      by_cases d : i = 60 + 5 * a + t
      · rw [d, fu_s, if_pos (.inl rfl)]
      · rw [fu_i _ _ d, if_neg (by omega), Int.add_zero]
  · rcases h with h | h
    · rw [zu_g _ _ _ h, zu_g _ _ _ h]
    · rw [zu_k _ _ _ h, zu_k _ _ _ h]
theorem count_r {m : zM} {P Q S tar : Int} (hP : -12000000 ≤ P ∧ P ≤ 12000000) (hQ : -12000000 ≤ Q ∧ Q ≤ 12000000) (hS : 0 ≤ S ∧ S ≤ 17000000) (ht : 0 ≤ tar ∧ tar < 4) (htar : f217_1 (m 4 45 0) m = tar) (h : RB (m 4 45)) :
    (∀ q t, 0 ≤ q → q < 7 → 0 ≤ t → t < 4 → f216_1 P Q S m 4 45 (60 + 5 * q + t) = m 4 45 (60 + 5 * q + t) + if t = tar then dl P Q S q else 0) ∧ (∀ q, 0 ≤ q → q < 7 → f216_1 P Q S m 4 45 (60 + 5 * q + 4) = m 4 45 (60 + 5 * q + 4) + dl P Q S q) ∧
    f216_1 P Q S m 4 45 10 = m 4 45 10 - ((m 4 45 (60 + tar) + dl P Q S 0) / m 4 45 5 - m 4 45 (60 + tar) / m 4 45 5) * m 4 45 (28 + tar) ∧
    f216_1 P Q S m 4 45 22 = m 4 45 22 + dl P Q S 0 ∧ f216_1 P Q S m 4 45 23 = m 4 45 23 + dl P Q S 1 ∧ f216_1 P Q S m 4 45 24 = m 4 45 24 + dl P Q S 6 ∧
    (∀ i, i ≠ 10 → (i < 22 ∨ 24 < i) → (i < 60 ∨ 94 < i) → f216_1 P Q S m 4 45 i = m 4 45 i) ∧ ∀ g k, (g ≠ 4 ∨ k ≠ 45) → f216_1 P Q S m g k = m g k := by
  obtain ⟨hr, hu, hp, hc, h22, h23, h24, -⟩ := h
  have hqd := qd_r P Q
  obtain ⟨m1, e1⟩ : ∃ x, x = (if P ≤ 0 then m else f220_1 0 tar P m) := ⟨_, rfl⟩
  have a1 : (∀ i, m1 4 45 i = m 4 45 i + if i = 60 + tar ∨ i = 64 then max P 0 else 0) ∧ ∀ g k, (g ≠ 4 ∨ k ≠ 45) → m1 g k = m g k := by
    rw [e1]
    by_cases hp0 : P ≤ 0
    · rw [if_pos hp0]
      exact ⟨fun i => by split <;> omega, fun _ _ _ => rfl⟩
    · rw [if_neg hp0]
      obtain ⟨x1, x2⟩ := add220 (m := m) (a := 0) (t := tar) (x := P) (by omega) ht (by omega) (fun i i0 i1 => by have := hr i i0 i1; omega)
      refine ⟨fun i => ?_, x2⟩
      rw [x1 i, show max P 0 = P by omega]
      congr 1
  obtain ⟨m2, e2⟩ : ∃ x, x = (if P < 0 then f220_1 1 tar (-P) m1 else m1) := ⟨_, rfl⟩
  have b1 : ∀ i, 60 ≤ i → i ≤ 94 → 0 ≤ m1 4 45 i ∧ m1 4 45 i ≤ 1000100000000000 := fun i i0 i1 => by
    have := hr i i0 i1
    rw [a1.1 i]
    split <;> omega
  have a2 : (∀ i, m2 4 45 i = m1 4 45 i + if i = 65 + tar ∨ i = 69 then max (-P) 0 else 0) ∧ ∀ g k, (g ≠ 4 ∨ k ≠ 45) → m2 g k = m1 g k := by
    rw [e2]
    by_cases hp0 : P < 0
    · rw [if_pos hp0]
      obtain ⟨x1, x2⟩ := add220 (m := m1) (a := 1) (t := tar) (x := -P) (by omega) ht (by omega) (fun i i0 i1 => by have := b1 i i0 i1; omega)
      refine ⟨fun i => ?_, x2⟩
      rw [x1 i, show max (-P) 0 = -P by omega]
      congr 1
    · rw [if_neg hp0]
      exact ⟨fun i => by split <;> omega, fun _ _ _ => rfl⟩
  have b2 : ∀ i, 60 ≤ i → i ≤ 94 → 0 ≤ m2 4 45 i ∧ m2 4 45 i ≤ 1000200000000000 := fun i i0 i1 => by
    have := b1 i i0 i1
    rw [a2.1 i]
    split <;> omega
  obtain ⟨m3, e3⟩ : ∃ x, x = f220_1 (1 + qd P Q) tar (max Q (-Q)) m2 := ⟨_, rfl⟩
  obtain ⟨x3, y3⟩ := add220 (m := m2) (a := 1 + qd P Q) (t := tar) (x := max Q (-Q)) (by omega) ht (by omega) (fun i i0 i1 => by have := b2 i i0 i1; omega)
  rw [← e3] at x3 y3
  have b3 : ∀ i, 60 ≤ i → i ≤ 94 → 0 ≤ m3 4 45 i ∧ m3 4 45 i ≤ 1000300000000000 := fun i i0 i1 => by
    have := b2 i i0 i1
    rw [x3 i]
    split <;> omega
  obtain ⟨m4, e4⟩ : ∃ x, x = f220_1 6 tar S m3 := ⟨_, rfl⟩
  obtain ⟨x4, y4⟩ := add220 (m := m3) (a := 6) (t := tar) (x := S) (by omega) ht (by omega) (fun i i0 i1 => by have := b3 i i0 i1; omega)
  rw [← e4] at x4 y4
  have all : ∀ i, m4 4 45 i = m 4 45 i + (if i = 60 + tar ∨ i = 64 then max P 0 else 0) + (if i = 65 + tar ∨ i = 69 then max (-P) 0 else 0) + (if i = 60 + 5 * (1 + qd P Q) + tar ∨ i = 60 + 5 * (1 + qd P Q) + 4 then max Q (-Q) else 0) + (if i = 90 + tar ∨ i = 94 then S else 0) := fun i => by
    rw [x4 i, x3 i, a2.1 i, a1.1 i]
    congr 1
  have allg : ∀ g k, (g ≠ 4 ∨ k ≠ 45) → m4 g k = m g k := fun g k hk => by rw [y4 g k hk, y3 g k hk, a2.2 g k hk, a1.2 g k hk]
  have D0 : dl P Q S 0 = max P 0 := rfl
  have D1 : dl P Q S 1 = max (-P) 0 := rfl
  have D6 : dl P Q S 6 = S := rfl
  have o5 : ∀ i, (i < 60 ∨ 94 < i) → m4 4 45 i = m 4 45 i := fun i hi => by
    rw [all i, if_neg (by omega), if_neg (by omega), if_neg (by omega), if_neg (by omega)]
    omega
  have t0 : m4 4 45 (60 + tar) = m 4 45 (60 + tar) + dl P Q S 0 := by
    rw [all, if_pos (.inl rfl), if_neg (by omega), if_neg (by omega), if_neg (by omega), D0]
    omega
  have r0 := hr (60 + tar) (by omega) (by omega)
  have q0 := ediv_b (a := m 4 45 (60 + tar)) (b := m 4 45 5) r0.1 r0.2 hu.1
  have q1 := ediv_b (a := m 4 45 (60 + tar) + dl P Q S 0) (b := m 4 45 5) (A := 1001000000000000) (by omega) (by omega) hu.1
  have qm : m 4 45 (60 + tar) / m 4 45 5 ≤ (m 4 45 (60 + tar) + dl P Q S 0) / m 4 45 5 := Int.ediv_le_ediv (by omega) (by omega)
  have hpt := hp tar ht.1 ht.2
  have cm := mul_le3 (a := (m 4 45 (60 + tar) + dl P Q S 0) / m 4 45 5 - m 4 45 (60 + tar) / m 4 45 5) (b := m 4 45 (28 + tar)) (A := 1001000000000000) (B := 100) (by omega) (by omega) hpt.1 hpt.2
  obtain ⟨CR', hCR⟩ : ∃ x, x = m 4 45 10 - ((m 4 45 (60 + tar) + dl P Q S 0) / m 4 45 5 - m 4 45 (60 + tar) / m 4 45 5) * m 4 45 (28 + tar) := ⟨_, rfl⟩
  have ef : f216_1 P Q S m = z_upd (z_upd (z_upd (z_upd m4 4 45 10 CR') 4 45 22 (m 4 45 22 + dl P Q S 0)) 4 45 23 (m 4 45 23 + dl P Q S 1)) 4 45 24 (m 4 45 24 + S) := by
    unfold f216_1
    simp only [zn_a, zs_a]
    rw [htar, ← e1, ← e2]
    have eq : f221_1 P Q m2 = qd P Q := rfl
    have es : f215_1 Q m2 = max Q (-Q) := by
      show (if Q < 0 then -Q else Q) = _
      split <;> omega
    rw [eq, es, ← e3, ← e4, t0, o5 5 (by omega), o5 (28 + tar) (by omega), o5 10 (by omega), tdiv_nn (by omega), tdiv_nn r0.1, w64_id (x := m 4 45 (60 + tar) / m 4 45 5) (by omega), w64_id (x := (m 4 45 (60 + tar) + dl P Q S 0) / m 4 45 5) (by omega), w64_id (x := (m 4 45 (60 + tar) + dl P Q S 0) / m 4 45 5 - m 4 45 (60 + tar) / m 4 45 5) (by omega), w64_id (x := ((m 4 45 (60 + tar) + dl P Q S 0) / m 4 45 5 - m 4 45 (60 + tar) / m 4 45 5) * m 4 45 (28 + tar)) (by omega), w64_id (x := m 4 45 10 - ((m 4 45 (60 + tar) + dl P Q S 0) / m 4 45 5 - m 4 45 (60 + tar) / m 4 45 5) * m 4 45 (28 + tar)) (by omega), ← hCR]
    have u22 : z_upd m4 4 45 10 CR' 4 45 22 = m 4 45 22 := by rw [zu_row, fu_i _ _ (by decide), o5 22 (by omega)]
    have eI : (if P ≤ 0 then (0 : Int) else P) = dl P Q S 0 := by rw [D0]; split <;> omega
    have eE : (if P < 0 then -P else (0 : Int)) = dl P Q S 1 := by rw [D1]; split <;> omega
    rw [u22, eI, eE, w64_id (x := m 4 45 22 + _) (by omega)]
    have u23 : z_upd (z_upd m4 4 45 10 CR') 4 45 22 (m 4 45 22 + dl P Q S 0) 4 45 23 = m 4 45 23 := by rw [zu_row, fu_i _ _ (by decide), zu_row, fu_i _ _ (by decide), o5 23 (by omega)]
    rw [u23, w64_id (x := m 4 45 23 + _) (by omega)]
    have u24 : z_upd (z_upd (z_upd m4 4 45 10 CR') 4 45 22 (m 4 45 22 + dl P Q S 0)) 4 45 23 (m 4 45 23 + dl P Q S 1) 4 45 24 = m 4 45 24 := by rw [zu_row, fu_i _ _ (by decide), zu_row, fu_i _ _ (by decide), zu_row, fu_i _ _ (by decide), o5 24 (by omega)]
    rw [u24, w64_id (x := m 4 45 24 + _) (by omega)]
  have fw : ∀ i, f216_1 P Q S m 4 45 i = if i = 24 then m 4 45 24 + S else if i = 23 then m 4 45 23 + dl P Q S 1 else if i = 22 then m 4 45 22 + dl P Q S 0 else if i = 10 then CR' else m4 4 45 i := fun i => by
    rw [ef, zu_row, zu_row, zu_row, zu_row]
    rfl
  refine ⟨fun q t h0 h1 h2 h3 => ?_, fun q h0 h1 => ?_, ?_, ?_, ?_, ?_, fun i i0 i1 i2 => ?_, fun g k hk => ?_⟩
  · rw [fw, if_neg (by omega), if_neg (by omega), if_neg (by omega), if_neg (by omega), all]
    unfold dl
    by_cases e : t = tar
    · subst e
      rw [if_pos rfl]
      by_cases g0 : q = 0
      · subst g0
        rw [if_pos rfl, if_pos (by omega), if_neg (by omega), if_neg (by omega), if_neg (by omega)]
        omega
      rw [if_neg g0]
      by_cases g1 : q = 1
      · subst g1
        rw [if_pos rfl, if_neg (by omega), if_pos (by omega), if_neg (by omega), if_neg (by omega)]
        omega
      rw [if_neg g1]
      by_cases g6 : q = 6
      · subst g6
        rw [if_pos rfl, if_neg (by omega), if_neg (by omega), if_neg (by omega), if_pos (by omega)]
        omega
      rw [if_neg g6]
      by_cases g2 : q = 1 + qd P Q
      · rw [if_pos g2, if_neg (by omega), if_neg (by omega), if_pos (by omega), if_neg (by omega)]
        omega
      · rw [if_neg g2, if_neg (by omega), if_neg (by omega), if_neg (by omega), if_neg (by omega)]
        omega
    · rw [if_neg e, if_neg (by omega), if_neg (by omega), if_neg (by omega), if_neg (by omega)]
      omega
  · rw [fw, if_neg (by omega), if_neg (by omega), if_neg (by omega), if_neg (by omega), all]
    unfold dl
    by_cases g0 : q = 0
    · subst g0
      rw [if_pos rfl, if_pos (by omega), if_neg (by omega), if_neg (by omega), if_neg (by omega)]
      omega
    rw [if_neg g0]
    by_cases g1 : q = 1
    · subst g1
      rw [if_pos rfl, if_neg (by omega), if_pos (by omega), if_neg (by omega), if_neg (by omega)]
      omega
    rw [if_neg g1]
    by_cases g6 : q = 6
    · subst g6
      rw [if_pos rfl, if_neg (by omega), if_neg (by omega), if_neg (by omega), if_pos (by omega)]
      omega
    rw [if_neg g6]
    by_cases g2 : q = 1 + qd P Q
    · rw [if_pos g2, if_neg (by omega), if_neg (by omega), if_pos (by omega), if_neg (by omega)]
      omega
    · rw [if_neg g2, if_neg (by omega), if_neg (by omega), if_neg (by omega), if_neg (by omega)]
      omega
  · rw [fw, if_neg (by decide), if_neg (by decide), if_neg (by decide), if_pos rfl]
    exact hCR
  · rw [fw, if_neg (by decide), if_neg (by decide), if_pos rfl]
  · rw [fw, if_neg (by decide), if_pos rfl]
  · rw [fw, if_pos rfl, D6]
  · rw [fw, if_neg (by omega), if_neg (by omega), if_neg (by omega), if_neg i0, o5 i i2]
  · rw [ef, ← allg g k hk]
    rcases hk with hk | hk
    · rw [zu_g _ _ _ hk, zu_g _ _ _ hk, zu_g _ _ _ hk, zu_g _ _ _ hk]
    · rw [zu_k _ _ _ hk, zu_k _ _ _ hk, zu_k _ _ _ hk, zu_k _ _ _ hk]
end
section
/-! A second of the reference, as far as it flows; j seconds of one kind. -/
noncomputable def fA (m : zM) : zM := zn ((pw 0 m * pw 0 m)) fun z22 => zn ((pw 1 m * pw 1 m)) fun z23 => zn (f214_1 (z22 + z23) m) fun v26 => zs (z_upd m 4 45 13 ((m 4 45 13) + 1)) fun m28 => zn (w64 ((m28 4 45 25) + 1)) fun z30 => zs (z_upd m28 4 45 25 z30) fun m31 => zn (f215_1 (pw 0 m) m31) fun v35 => if v35 < (m31 4 45 4) then (zn (f215_1 (pw 1 m) m31) fun v44 => if v44 < (m31 4 45 4) then (zn (w64 ((m31 4 45 14) + 1)) fun z50 => zs (z_upd m31 4 45 14 z50) fun m51 => m51) else (zs (f216_1 (pw 0 m) (pw 1 m) v26 m31) fun m47 => m47)) else (zs (f216_1 (pw 0 m) (pw 1 m) v26 m31) fun m39 => m39)
theorem f208_A (m : zM) : f208_1 m = f230_1 (f224_1 (f222_1 (fA m))) := by
  rw [f208_g]
  unfold g208 fA
  simp only [zn_a, zs_a]
theorem f215_m (q : Int) (m : zM) : f215_1 q m = max q (-q) := by
  show (if q < 0 then -q else q) = _
  split <;> omega
/-- what is added, as the reference has it -/
noncomputable def DR (m : zM) (q : Int) : Int := if max (pw 0 m) (-(pw 0 m)) < m 4 45 4 ∧ max (pw 1 m) (-(pw 1 m)) < m 4 45 4 then 0 else dl (pw 0 m) (pw 1 m) (f214_1 (pw 0 m * pw 0 m + pw 1 m * pw 1 m) m) q
noncomputable def KR (m : zM) : Int := if max (pw 0 m) (-(pw 0 m)) < m 4 45 4 ∧ max (pw 1 m) (-(pw 1 m)) < m 4 45 4 then 1 else 0
theorem root_b {P Q : Int} (m : zM) (hP : -12000000 ≤ P ∧ P ≤ 12000000) (hQ : -12000000 ≤ Q ∧ Q ≤ 12000000) : isRoot (P * P + Q * Q) (f214_1 (P * P + Q * Q) m) ∧ 0 ≤ f214_1 (P * P + Q * Q) m ∧ f214_1 (P * P + Q * Q) m ≤ 17000000 := by
  have s3 : P * P ≤ 144000000000000 ∧ 0 ≤ P * P := ⟨by
    have h1 : 0 ≤ (12000000 + P) * (12000000 - P) := Int.mul_nonneg (by omega) (by omega)
    rw [Int.add_mul, Int.mul_sub, Int.mul_sub] at h1
    omega, sq_nn _⟩
  have s7 : Q * Q ≤ 144000000000000 ∧ 0 ≤ Q * Q := ⟨by
    have h1 : 0 ≤ (12000000 + Q) * (12000000 - Q) := Int.mul_nonneg (by omega) (by omega)
    rw [Int.add_mul, Int.mul_sub, Int.mul_sub] at h1
    omega, sq_nn _⟩
  have h := rt_ref (v := P * P + Q * Q) m (by omega)
  refine ⟨h, h.1, ?_⟩
  by_cases h9 : f214_1 (P * P + Q * Q) m ≤ 17000000
  · exact h9
  · exfalso
    have h8 : (17000000 : Int) * 17000000 ≤ f214_1 (P * P + Q * Q) m * f214_1 (P * P + Q * Q) m := Int.mul_le_mul (by omega) (by omega) (by omega) (by omega)
    have := h.2.1
    omega
theorem flow_r {m : zM} {B tar : Int} (ho : OM B m) (hB : B ≤ 1000000000) (h : RB (m 4 45)) (ht : 0 ≤ tar ∧ tar < 4) (htar : ∀ m' : zM, (∀ i, i = 0 ∨ (287 ≤ i ∧ i ≤ 787) → m' 4 45 i = m 4 45 i) → f217_1 (m' 4 45 0) m' = tar) (h25 : 0 ≤ m 4 45 25 ∧ m 4 45 25 ≤ 1000000000) :
    (∀ q t, 0 ≤ q → q < 7 → 0 ≤ t → t < 4 → fA m 4 45 (60 + 5 * q + t) = m 4 45 (60 + 5 * q + t) + if t = tar then DR m q else 0) ∧ (∀ q, 0 ≤ q → q < 7 → fA m 4 45 (60 + 5 * q + 4) = m 4 45 (60 + 5 * q + 4) + DR m q) ∧
    fA m 4 45 10 = m 4 45 10 - ((m 4 45 (60 + tar) + DR m 0) / m 4 45 5 - m 4 45 (60 + tar) / m 4 45 5) * m 4 45 (28 + tar) ∧ fA m 4 45 14 = m 4 45 14 + KR m ∧
    fA m 4 45 22 = m 4 45 22 + DR m 0 ∧ fA m 4 45 23 = m 4 45 23 + DR m 1 ∧ fA m 4 45 24 = m 4 45 24 + DR m 6 ∧ fA m 4 45 13 = m 4 45 13 + 1 ∧ fA m 4 45 25 = m 4 45 25 + 1 ∧
    (∀ i, i ≠ 10 → i ≠ 13 → i ≠ 14 → i ≠ 25 → (i < 22 ∨ 24 < i) → (i < 60 ∨ 94 < i) → fA m 4 45 i = m 4 45 i) ∧ ∀ g k, (g ≠ 4 ∨ k ≠ 45) → fA m g k = m g k := by
  have hp := pw_r ho hB (i := 0) (by omega)
  have hq := pw_r ho hB (i := 1) (by omega)
  obtain ⟨hroot, hs0, hs1⟩ := root_b (P := pw 0 m) (Q := pw 1 m) m hp hq
  obtain ⟨hr, hu, hpr, hcd, h22, h23, h24, h14⟩ := h
  obtain ⟨m1, e1⟩ : ∃ x, x = z_upd (z_upd m 4 45 13 (m 4 45 13 + 1)) 4 45 25 (m 4 45 25 + 1) := ⟨_, rfl⟩
  have w1 : ∀ i, m1 4 45 i = if i = 25 then m 4 45 25 + 1 else if i = 13 then m 4 45 13 + 1 else m 4 45 i := fun i => by rw [e1, zu_row, zu_row]; rfl
  have wo : ∀ i, i ≠ 25 → i ≠ 13 → m1 4 45 i = m 4 45 i := fun i h1 h2 => by rw [w1, if_neg h1, if_neg h2]
  have g1 : ∀ g k, (g ≠ 4 ∨ k ≠ 45) → m1 g k = m g k := fun g' k hk => by
    rw [e1]
    rcases hk with hk | hk
    · rw [zu_g _ _ _ hk, zu_g _ _ _ hk]
    · rw [zu_k _ _ _ hk, zu_k _ _ _ hk]
  have ef : fA m = if max (pw 0 m) (-(pw 0 m)) < m 4 45 4 then (if max (pw 1 m) (-(pw 1 m)) < m 4 45 4 then z_upd m1 4 45 14 (m 4 45 14 + 1) else f216_1 (pw 0 m) (pw 1 m) (f214_1 (pw 0 m * pw 0 m + pw 1 m * pw 1 m) m) m1) else f216_1 (pw 0 m) (pw 1 m) (f214_1 (pw 0 m * pw 0 m + pw 1 m * pw 1 m) m) m1 := by
    unfold fA
    simp only [zn_a, zs_a]
    have u25 : z_upd m 4 45 13 (m 4 45 13 + 1) 4 45 25 = m 4 45 25 := by rw [zu_row, fu_i _ _ (by decide)]
    rw [u25, w64_id (by omega), ← e1, f215_m, f215_m, wo 4 (by decide) (by decide), wo 14 (by decide) (by decide), w64_id (by omega)]
  by_cases c1 : max (pw 0 m) (-(pw 0 m)) < m 4 45 4 ∧ max (pw 1 m) (-(pw 1 m)) < m 4 45 4
  · have d0 : ∀ q, DR m q = 0 := fun q => by unfold DR; rw [if_pos c1]
    have k1 : KR m = 1 := by unfold KR; rw [if_pos c1]
    rw [ef, if_pos c1.1, if_pos c1.2]
    simp only [d0, k1, Int.add_zero]
    refine ⟨fun q t _ _ _ _ => ?_, fun q _ _ => ?_, ?_, ?_, ?_, ?_, ?_, ?_, ?_, fun i i0 i1 i2 i3 _ _ => ?_, fun g k hk => ?_⟩
    · rw [zu_row, fu_i _ _ (by omega), wo _ (by omega) (by omega)]
      split <;> omega
    · rw [zu_row, fu_i _ _ (by omega), wo _ (by omega) (by omega)]
    · rw [zu_row, fu_i _ _ (by omega), wo _ (by omega) (by omega), Int.sub_self, Int.zero_mul]
      omega
    · rw [zu_row, fu_s]
    · rw [zu_row, fu_i _ _ (by omega), wo _ (by omega) (by omega)]
    · rw [zu_row, fu_i _ _ (by omega), wo _ (by omega) (by omega)]
    · rw [zu_row, fu_i _ _ (by omega), wo _ (by omega) (by omega)]
    · rw [zu_row, fu_i _ _ (by omega), w1, if_neg (by decide), if_pos rfl]
    · rw [zu_row, fu_i _ _ (by omega), w1, if_pos rfl]
    · rw [zu_row, fu_i _ _ i2, wo _ i3 i1]
    · rw [← g1 g k hk]
      rcases hk with hk | hk
      · rw [zu_g _ _ _ hk]
      · rw [zu_k _ _ _ hk]
  · have d0 : ∀ q, DR m q = dl (pw 0 m) (pw 1 m) (f214_1 (pw 0 m * pw 0 m + pw 1 m * pw 1 m) m) q := fun q => by unfold DR; rw [if_neg c1]
    have k1 : KR m = 0 := by unfold KR; rw [if_neg c1]
    have ef2 : fA m = f216_1 (pw 0 m) (pw 1 m) (f214_1 (pw 0 m * pw 0 m + pw 1 m * pw 1 m) m) m1 := by
      rw [ef]
      by_cases c2 : max (pw 0 m) (-(pw 0 m)) < m 4 45 4
      · rw [if_pos c2, if_neg (fun c3 => c1 ⟨c2, c3⟩)]
      · rw [if_neg c2]
    have hRB : RB (m1 4 45) := by
      refine ⟨fun i i0 i1 => ?_, ?_, fun t t0 t1 => ?_, ?_, ?_, ?_, ?_, ?_⟩
      · rw [wo i (by omega) (by omega)]
        exact hr i i0 i1
      · rw [wo 5 (by omega) (by omega)]
        exact hu
      · rw [wo _ (by omega) (by omega)]
        exact hpr t t0 t1
      · rw [wo 10 (by omega) (by omega)]
        exact hcd
      · rw [wo 22 (by omega) (by omega)]
        exact h22
      · rw [wo 23 (by omega) (by omega)]
        exact h23
      · rw [wo 24 (by omega) (by omega)]
        exact h24
      · rw [wo 14 (by omega) (by omega)]
        exact h14
    obtain ⟨a1, a2, a3, a4, a5, a6, a7, a8⟩ := count_r (m := m1) (tar := tar) hp hq ⟨hs0, hs1⟩ ht (htar m1 (fun i hi => wo i (by omega) (by omega))) hRB
    rw [← ef2] at a1 a2 a3 a4 a5 a6 a7 a8
    simp only [← d0] at a1 a2 a3 a4 a5 a6
    refine ⟨fun q t h0 h1 h2 h3 => ?_, fun q h0 h1 => ?_, ?_, ?_, ?_, ?_, ?_, ?_, ?_, fun i i0 i1 i2 i3 i4 i5 => ?_, fun g k hk => ?_⟩
    · rw [a1 q t h0 h1 h2 h3, wo _ (by omega) (by omega)]
    · rw [a2 q h0 h1, wo _ (by omega) (by omega)]
    · rw [a3, wo 10 (by omega) (by omega), wo _ (by omega) (by omega), wo 5 (by omega) (by omega), wo _ (by omega) (by omega)]
    · rw [a7 14 (by omega) (by omega) (by omega), wo 14 (by omega) (by omega), k1, Int.add_zero]
    · rw [a4, wo _ (by omega) (by omega)]
    · rw [a5, wo _ (by omega) (by omega)]
    · rw [a6, wo _ (by omega) (by omega)]
    · rw [a7 13 (by omega) (by omega) (by omega), w1, if_neg (by decide), if_pos rfl]
    · rw [a7 25 (by omega) (by omega) (by omega), w1, if_pos rfl]
    · rw [a7 i i0 i4 i5, wo i i3 i1]
    · rw [a8 g k hk, g1 g k hk]
/-- j seconds of one kind lie between the class and the reference, as far as it flows -/
def FLo (D : Int → Int) (K j tar : Int) (c : Nat → Int → Int) (w : Int → Int) : Prop := (∀ q t, 0 ≤ q → q < 7 → 0 ≤ t → t < 4 → w (60 + 5 * q + t) = c 24 (q * 4 + t) + if t = tar then j * D q else 0) ∧
  (∀ q, 0 ≤ q → q < 7 → w (60 + 5 * q + 4) = w (60 + 5 * q + 0) + w (60 + 5 * q + 1) + w (60 + 5 * q + 2) + w (60 + 5 * q + 3)) ∧
  w 10 = c 8 10 - ((c 24 tar + j * D 0) / w 5 - c 24 tar / w 5) * w (28 + tar) ∧ w 14 = c 8 14 + j * K ∧ w 22 = c 27 3 + j * D 0 ∧ w 23 = c 27 4 + j * D 1 ∧ w 24 = c 27 5 + j * D 6
theorem FLo.step {D : Int → Int} {K j tar : Int} {c : Nat → Int → Int} {m : zM} {B : Int} (h : FLo D K j tar c (m 4 45)) (ho : OM B m) (hB : B ≤ 1000000000) (hb : RB (m 4 45)) (ht : 0 ≤ tar ∧ tar < 4) (htar : ∀ m' : zM, (∀ i, i = 0 ∨ (287 ≤ i ∧ i ≤ 787) → m' 4 45 i = m 4 45 i) → f217_1 (m' 4 45 0) m' = tar) (h25 : 0 ≤ m 4 45 25 ∧ m 4 45 25 ≤ 1000000000)
    (hD : ∀ q, DR m q = D q) (hK : KR m = K) : FLo D K (j + 1) tar c (fA m 4 45) := by
  obtain ⟨f1, f2, f3, f4, f5, f6, f7, -, -, f10, -⟩ := flow_r ho hB hb ht htar h25
  obtain ⟨a1, a2, a3, a4, a5, a6, a7⟩ := h
  simp only [hD, hK] at f1 f2 f3 f4 f5 f6 f7
  have e : ∀ x, (j + 1) * x = j * x + x := fun x => by rw [Int.add_mul, Int.one_mul]
  have t0 : m 4 45 (60 + tar) = c 24 tar + j * D 0 := by
    have h9 := a1 0 tar (by omega) (by omega) ht.1 ht.2
    rw [if_pos rfl, show (60 : Int) + 5 * 0 + tar = 60 + tar by omega, show (0 : Int) * 4 + tar = tar by omega] at h9
    exact h9
  refine ⟨fun q t h0 h1 h2 h3 => ?_, fun q h0 h1 => ?_, ?_, ?_, ?_, ?_, ?_⟩
  · rw [f1 q t h0 h1 h2 h3, a1 q t h0 h1 h2 h3, e]
    by_cases ht9 : t = tar
    · rw [if_pos ht9, if_pos ht9, if_pos ht9]
      omega
    · rw [if_neg ht9, if_neg ht9, if_neg ht9]
      omega
  · rw [f2 q h0 h1, f1 q 0 h0 h1 (by omega) (by omega), f1 q 1 h0 h1 (by omega) (by omega), f1 q 2 h0 h1 (by omega) (by omega), f1 q 3 h0 h1 (by omega) (by omega), a2 q h0 h1]
    rcases (show tar = 0 ∨ tar = 1 ∨ tar = 2 ∨ tar = 3 by omega) with rfl | rfl | rfl | rfl
    · rw [if_pos rfl, if_neg (by decide), if_neg (by decide), if_neg (by decide)]
      omega
    · rw [if_pos rfl, if_neg (by decide), if_neg (by decide), if_neg (by decide)]
      omega
    · rw [if_pos rfl, if_neg (by decide), if_neg (by decide), if_neg (by decide)]
      omega
    · rw [if_pos rfl, if_neg (by decide), if_neg (by decide), if_neg (by decide)]
      omega
  · rw [f10 5 (by omega) (by omega) (by omega) (by omega) (by omega) (by omega), f10 (28 + tar) (by omega) (by omega) (by omega) (by omega) (by omega) (by omega), f3, t0, a3, e]
    have x : ∀ p q r s : Int, p - (q - r) * s - (p - (q - r) * s - (p - (q - r) * s)) = p - (q - r) * s := fun p q r s => by omega
    rw [show c 24 tar + (j * D 0 + D 0) = c 24 tar + j * D 0 + D 0 by omega]
    have y : ∀ p A Bb C s : Int, p - (Bb - A) * s - (C - Bb) * s = p - (C - A) * s := fun p A Bb C s => by
      rw [Int.sub_mul, Int.sub_mul, Int.sub_mul]
      omega
    exact y _ _ _ _ _
  · rw [f4, a4, e]
    omega
  · rw [f5, a5, e]
    omega
  · rw [f6, a6, e]
    omega
  · rw [f7, a7, e]
    omega
end
section
/-! How long a stretch is: nothing turns ahead of its last second. -/
theorem turn_loop {c : zM} {g : Nat} {seen delay a : Int} {w so : Int → Int} (hb : b01 w) (ho : c g 33 3 = onV w) (hl : ∀ m, 2 ≤ m → m < 5 → 0 ≤ c g 36 m ∧ c g 36 m ≤ 1000000000) (hd : 0 ≤ delay ∧ delay ≤ 1000000)
    (hso : ∀ y, 2 ≤ y → y < 5 → (so y = 0 ∨ so y = 1) ∧ (if zand (zshr seen y) 1 = 1 then (1 : Int) else 0) = so y) : ∀ (n : Nat) (v0 y : Int), 2 ≤ y → y ≤ 5 → 5 - y < n → 1 ≤ v0 →
    ∃ v, fl39_6_1 (fun _ _ _ => 1) (fun v => v) g seen delay a c n v0 y = v ∧ v ≤ v0 ∧ 1 ≤ v ∧ (1 < v → ∀ m, y ≤ m → m < 5 → (w (40 + m) = 1 → so m = 1) ∧ (w (40 + m) = 0 → so m = 1 → c g 36 m + v ≤ delay + 1))
  | 0, v0, y, h0, h1, h2, h3 => by omega
  | n + 1, v0, y, h0, h1, h2, h3 => by
    show ∃ v, fl39_6_1_b (fl39_6_1 (fun _ _ _ => 1) (fun v => v) g seen delay a c n) (fun _ _ _ => 1) (fun v => v) g seen delay a c v0 y = v ∧ _
    unfold fl39_6_1_b
    by_cases h : 5 ≤ y
    · rw [if_pos h]
      exact ⟨v0, rfl, Int.le_refl _, h3, fun _ m m0 m1 => by omega⟩
    · rw [if_neg h]
      simp only [zn_a]
      obtain ⟨s1, s2⟩ := hso y h0 (by omega)
      have hon : f40_1 g y c = w (40 + y) := isOn_c hb ho (by omega) (by omega)
      have hbb := hb y (by omega) (by omega)
      have hly := hl y h0 (by omega)
      rw [hon, w32_id (by omega)]
      by_cases hz : zand (zshr seen y) 1 = 1
      · rw [if_pos hz] at s2 ⊢
        by_cases ho1 : w (40 + y) = 0
        · rw [if_pos ho1]
          obtain ⟨v, e1, e2, e3, e4⟩ := turn_loop hb ho hl hd hso n (min v0 (max 1 (delay + 1 - c g 36 y))) (y + 1) (by omega) (by omega) (by omega) (by omega)
          refine ⟨v, e1, by omega, e3, fun hv m m0 m1 => ?_⟩
          by_cases e : m = y
          · subst e
            exact ⟨fun h9 => by omega, fun _ _ => by omega⟩
          · exact e4 hv m (by omega) m1
        · rw [if_neg ho1]
          obtain ⟨v, e1, e2, e3, e4⟩ := turn_loop hb ho hl hd hso n v0 (y + 1) (by omega) (by omega) (by omega) h3
          refine ⟨v, e1, by omega, e3, fun hv m m0 m1 => ?_⟩
          by_cases e : m = y
          · subst e
            exact ⟨fun _ => by omega, fun h9 => absurd h9 ho1⟩
          · exact e4 hv m (by omega) m1
      · rw [if_neg hz] at s2 ⊢
        by_cases ho1 : w (40 + y) = 0
        · rw [if_pos ho1]
          obtain ⟨v, e1, e2, e3, e4⟩ := turn_loop hb ho hl hd hso n v0 (y + 1) (by omega) (by omega) (by omega) h3
          refine ⟨v, e1, by omega, e3, fun hv m m0 m1 => ?_⟩
          by_cases e : m = y
          · subst e
            exact ⟨fun h9 => by omega, fun _ h9 => by omega⟩
          · exact e4 hv m (by omega) m1
        · rw [if_neg ho1]
          exact ⟨1, rfl, h3, Int.le_refl _, fun h9 => by omega⟩
theorem turn_T {c : zM} {g : Nat} {seen delay a : Int} {w so : Int → Int} (hb : b01 w) (ho : c g 33 3 = onV w) (hl : ∀ m, 2 ≤ m → m < 5 → 0 ≤ c g 36 m ∧ c g 36 m ≤ 1000000000) (hd : 0 ≤ delay ∧ delay ≤ 1000000) (ha : 1 ≤ a)
    (hso : ∀ y, 2 ≤ y → y < 5 → (so y = 0 ∨ so y = 1) ∧ (if zand (zshr seen y) 1 = 1 then (1 : Int) else 0) = so y) :
    ∃ v, f39_1 g seen delay a c = v ∧ v ≤ a ∧ 1 ≤ v ∧ (1 < v → ∀ m, 2 ≤ m → m < 5 → (w (40 + m) = 1 → so m = 1) ∧ (w (40 + m) = 0 → so m = 1 → c g 36 m + v ≤ delay + 1)) :=
  turn_loop hb ho hl hd hso (zfu 4) a 2 (by omega) (by omega) (by rw [zfu_eq]; omega) ha
/-- credit lasts that long -/
theorem last_T {cr p u P raw R T j : Int} (hc : 0 < cr) (hp : 1 ≤ p) (hu : 1 ≤ u) (hP : 1 ≤ P) (hr : 0 ≤ raw) (hR : R = (cr + p - 1) / p) (hT : T = ((raw / u + R) * u - raw + P - 1) / P) (hj0 : 0 ≤ j) (hj : j < T) : 0 < cr - ((raw + j * P) / u - raw / u) * p := by
  -- the last whole reading that is paid
  have r1 : p * R ≤ cr + p - 1 := by rw [hR]; exact Int.mul_ediv_self_le (by omega)
  have r2 : (R - 1) * p < cr := by
    rw [Int.sub_mul, Int.one_mul, Int.mul_comm]
    omega
  have t1 : P * T ≤ (raw / u + R) * u - raw + P - 1 := by rw [hT]; exact Int.mul_ediv_self_le (by omega)
  have t2 : j * P ≤ (T - 1) * P := Int.mul_le_mul_of_nonneg_right (by omega) (by omega)
  have t3 : (T - 1) * P = P * T - P := by rw [Int.sub_mul, Int.one_mul, Int.mul_comm]
  have t4 : raw + j * P < (raw / u + R) * u := by omega
  have t5 : (raw + j * P) / u < raw / u + R := Int.ediv_lt_of_lt_mul (by omega) t4
  have t6 : ((raw + j * P) / u - raw / u) * p ≤ (R - 1) * p := Int.mul_le_mul_of_nonneg_right (by omega) (by omega)
  omega
theorem open_T2 {c : zM} {g : Nat} {tar a : Int} (h : FB g c) (ht : 0 ≤ tar ∧ tar < 4) (ha : 1 ≤ a ∧ a ≤ 3600) (hcr : c g 8 10 ≤ 5000000000000) (hpos : c g 8 11 ≠ 0 → c g 8 12 = 0 → 0 < c g 8 10) {D : Int → Int} (hD : ∀ q, D q = DL (c g 8 12) (c g 22 3) (c g 22 7) (c g 19 6) (c g 10 0) q) :
    ∃ v, f41_1 g tar a c = v ∧ v ≤ a ∧ 1 ≤ v ∧ (c g 8 11 ≠ 0 → c g 8 12 = 0 → ∀ j, 0 ≤ j → j < v → 1 < v → 0 < c g 8 10 - ((c g 24 tar + j * D 0) / c g 10 1 - c g 24 tar / c g 10 1) * c g 10 (6 + tar)) := by
  have hc := crp_c h
  obtain ⟨hP, hQ, hS, hr, hu, hp, hcd, h3, h4, h5, h14, ho⟩ := h
  have r0 := hr tar (by omega) (by omega)
  have hpt := hp tar ht.1 ht.2
  unfold f41_1
  by_cases e1 : c g 8 11 = 0
  · rw [if_pos e1]
    exact ⟨a, rfl, Int.le_refl _, ha.1, fun h9 => absurd e1 h9⟩
  rw [if_neg e1]
  by_cases e2 : c g 8 12 = 0
  case neg =>
    rw [if_neg e2]
    exact ⟨a, rfl, Int.le_refl _, ha.1, fun _ h9 => absurd h9 e2⟩
  rw [if_pos e2]
  have hcp := hpos e1 e2
  have flat : D 0 = 0 ∨ c g 10 (6 + tar) = 0 → ∀ j, 0 < c g 8 10 - ((c g 24 tar + j * D 0) / c g 10 1 - c g 24 tar / c g 10 1) * c g 10 (6 + tar) := fun hh j => by
    rcases hh with hh | hh
    · rw [hh, Int.mul_zero, Int.add_zero, Int.sub_self, Int.zero_mul]
      omega
    · rw [hh, Int.mul_zero]
      omega
  by_cases e3 : c g 22 3 ≤ 0
  · rw [if_pos e3]
    have d0 : D 0 = 0 := by
      rw [hD 0]
      unfold DL dl
      rw [if_pos rfl]
      split <;> omega
    exact ⟨a, rfl, Int.le_refl _, ha.1, fun _ _ j _ _ _ => flat (.inl d0) j⟩
  rw [if_neg e3]
  by_cases e4 : c g 10 (6 + tar) ≤ 0
  · rw [if_pos e4]
    exact ⟨a, rfl, Int.le_refl _, ha.1, fun _ _ j _ _ _ => flat (.inr (by omega)) j⟩
  rw [if_neg e4, zn_a, hc]
  by_cases e5 : crp (c g 8 12) (c g 22 3) (c g 22 7) (c g 10 0) = 0
  case neg =>
    rw [if_neg e5]
    have d0 : D 0 = 0 := by
      rw [hD 0]
      unfold DL
      rw [if_neg (fun h9 => e5 h9.1)]
    exact ⟨a, rfl, Int.le_refl _, ha.1, fun _ _ j _ _ _ => flat (.inl d0) j⟩
  rw [if_pos e5]
  have d0 : D 0 = c g 22 3 := by
    rw [hD 0]
    unfold DL dl
    rw [if_pos ⟨e5, e2⟩, if_pos rfl]
    omega
  simp only [zn_a]
  rw [Int.zero_add, show max 1 (c g 10 1) = c g 10 1 by omega]
  obtain ⟨R, hR⟩ : ∃ R, R = (c g 8 10 + c g 10 (6 + tar) - 1) / c g 10 (6 + tar) := ⟨_, rfl⟩
  have rb := ediv_b (a := c g 8 10 + c g 10 (6 + tar) - 1) (b := c g 10 (6 + tar)) (A := 5000000000100) (by omega) (by omega) (by omega)
  rw [← hR] at rb
  have q0 := ediv_b (a := c g 24 tar) (b := c g 10 1) r0.1 r0.2 hu.1
  have qu : c g 10 1 * (c g 24 tar / c g 10 1) ≤ c g 24 tar := Int.mul_ediv_self_le (by omega)
  have Ru := mul_le3 (a := R) (b := c g 10 1) (A := 5000000000100) (B := 1000000) rb.1 rb.2 (by omega) hu.2
  have em : (c g 24 tar / c g 10 1 + R) * c g 10 1 = c g 10 1 * (c g 24 tar / c g 10 1) + R * c g 10 1 := by rw [Int.add_mul, Int.mul_comm (c g 24 tar / c g 10 1)]
  have qn := mul_le3 (a := c g 10 1) (b := c g 24 tar / c g 10 1) (A := 1000000) (B := 1000000000000000) (by omega) hu.2 q0.1 q0.2
  rw [tdiv_nn r0.1, w64_id (x := c g 8 10 + c g 10 (6 + tar)) (by omega), w64_id (x := c g 8 10 + c g 10 (6 + tar) - 1) (by omega), tdiv_nn (a := c g 8 10 + c g 10 (6 + tar) - 1) (by omega), ← hR, w64_id (x := R) (by omega), w64_id (x := c g 24 tar / c g 10 1) (by omega), w64_id (x := c g 24 tar / c g 10 1 + R) (by omega), w64_id (x := (c g 24 tar / c g 10 1 + R) * c g 10 1) (by omega), w64_id (x := (c g 24 tar / c g 10 1 + R) * c g 10 1 - c g 24 tar) (by omega), w64_id (x := (c g 24 tar / c g 10 1 + R) * c g 10 1 - c g 24 tar + c g 22 3) (by omega), w64_id (x := (c g 24 tar / c g 10 1 + R) * c g 10 1 - c g 24 tar + c g 22 3 - 1) (by omega)]
  obtain ⟨X, hX⟩ : ∃ X, X = (c g 24 tar / c g 10 1 + R) * c g 10 1 - c g 24 tar + c g 22 3 - 1 := ⟨_, rfl⟩
  obtain ⟨T, hT⟩ : ∃ T, T = w64 (X.tdiv (c g 22 3)) := ⟨_, rfl⟩
  rw [← hX, ← hT]
  refine ⟨max 1 (min a T), rfl, by omega, by omega, fun _ _ j j0 j1 j2 => ?_⟩
  -- what is wanting is more than nought where the stretch is longer than a second
  by_cases hx : 0 ≤ X
  · have xb := ediv_b (a := X) (b := c g 22 3) (A := 5000200000000000000) hx (by omega) (by omega)
    rw [tdiv_nn hx, w64_id (by omega)] at hT
    rw [d0]
    exact last_T (R := R) (T := T) hcp (by omega) hu.1 (by omega) r0.1 hR (by rw [hT, hX]) j0 (by omega)
  · exfalso
    have : X.tdiv (c g 22 3) ≤ 0 := by
      have h9 := Int.tdiv_nonneg (a := -X) (b := c g 22 3) (by omega) (by omega)
      rw [Int.neg_tdiv] at h9
      omega
    have hlo : -9223372036854775808 ≤ X.tdiv (c g 22 3) := by
      have h9 : (-X).tdiv (c g 22 3) ≤ -X := by
        rw [tdiv_nn (by omega)]
        exact Int.ediv_le_self _ (by omega)
      rw [Int.neg_tdiv] at h9
      omega
    rw [w64_id (by omega)] at hT
    omega
end
section
/-! A second in which nothing turns, as the reference has it. -/
theorem secs144 {k : zM → zM} : ∀ (n : Nat) (y : Int) (m : zM), 0 ≤ y → y ≤ 5 → 5 - y < n → ∃ m', fl224_144_1 k n y m = k m' ∧ (∀ g k, (g ≠ 4 ∨ k ≠ 45) → m' g k = m g k) ∧ (∀ i, y ≤ i → i < 5 → m' 4 45 (50 + i) = w64 (m 4 45 (50 + i) + m 4 45 (40 + i))) ∧ (∀ i, (i < 50 + y ∨ 55 ≤ i) → m' 4 45 i = m 4 45 i)
  | 0, y, m, h0, h1, h2 => by omega
  | n + 1, y, m, h0, h1, h2 => by
    show ∃ m', fl224_144_1_b (fl224_144_1 k n) k y m = k m' ∧ _
    unfold fl224_144_1_b
    by_cases h : 5 ≤ y
    · rw [if_pos h]
      exact ⟨m, rfl, fun _ _ _ => rfl, fun i i0 i1 => by omega, fun _ _ => rfl⟩
    · rw [if_neg h, zn_a, zs_a]
      obtain ⟨m', e, e1, e2, e3⟩ := secs144 (k := k) n (y + 1) (z_upd m 4 45 (50 + y) (w64 (m 4 45 (50 + y) + m 4 45 (40 + y)))) (by omega) (by omega) (by omega)
      refine ⟨m', e, fun g' k' hk => ?_, fun i i0 i1 => ?_, fun i hi => ?_⟩
      · rw [e1 g' k' hk]
        rcases hk with hk | hk
        · rw [zu_g _ _ _ hk]
        · rw [zu_k _ _ _ hk]
      · by_cases e4 : i = y
        · rw [e3 _ (by omega), zu_row, e4, fu_s]
        · rw [e2 i (by omega) i1, zu_row, fu_i _ _ (by omega), fu_i _ _ (by omega)]
      · rw [e3 i (by omega), zu_row, fu_i _ _ (by omega)]
/-- the marks of a second, unrolled -/
theorem f224_u (m : zM) : ∃ m', f224_1 m = m' ∧ (∃ m1 m2 m3, m1 = rB 2 (soR 2 m) m ∧ m2 = rB 3 (soR 3 m1) m1 ∧ m3 = rB 4 (soR 4 m2) m2 ∧ (∀ g k, (g ≠ 4 ∨ k ≠ 45) → m' g k = m3 g k) ∧ (∀ i, 0 ≤ i → i < 5 → m' 4 45 (50 + i) = w64 (m3 4 45 (50 + i) + m3 4 45 (40 + i))) ∧ (∀ i, (i < 50 ∨ 55 ≤ i) → m' 4 45 i = m3 4 45 i)) := by
  refine ⟨_, rfl, _, _, _, rfl, rfl, rfl, ?_⟩
  have e : f224_1 m = fl224_144_1 (fun m505 => m505) (zfu 6) 0 (rB 4 (soR 4 (rB 3 (soR 3 (rB 2 (soR 2 m) m)) (rB 2 (soR 2 m) m))) (rB 3 (soR 3 (rB 2 (soR 2 m) m)) (rB 2 (soR 2 m) m))) := by
    unfold f224_1
    rw [zfu_eq 4]
    refine (f224_s 3 2 m (by omega)).trans ((f224_s 2 3 _ (by omega)).trans ((f224_s 1 4 _ (by omega)).trans ?_))
    show fl224_2_1_b (fl224_2_1 (fun m501 => fl224_144_1 (fun m505 => m505) (zfu 6) 0 m501) 0) (fun m501 => fl224_144_1 (fun m505 => m505) (zfu 6) 0 m501) 5 _ = _
    unfold fl224_2_1_b
    rw [if_pos (by omega)]
  rw [e]
  obtain ⟨m', e1, e2, e3, e4⟩ := secs144 (k := fun m505 => m505) (zfu 6) 0 (rB 4 (soR 4 (rB 3 (soR 3 (rB 2 (soR 2 m) m)) (rB 2 (soR 2 m) m))) (rB 3 (soR 3 (rB 2 (soR 2 m) m)) (rB 2 (soR 2 m) m))) (by omega) (by omega) (by rw [zfu_eq]; omega)
  rw [e1]
  exact ⟨e2, fun i i0 i1 => e3 i i0 i1, fun i hi => e4 i (by omega)⟩
/-- one mark, nothing turns -/
theorem rB_q {m : zM} {y s : Int} (hs : s = 0 ∨ s = 1) (hb : m 4 45 (40 + y) = 0 ∨ m 4 45 (40 + y) = 1) (h55 : 0 ≤ m 4 45 (55 + y) ∧ m 4 45 (55 + y) ≤ 1000000000) (hd : 0 ≤ m 4 45 7) (hy : 2 ≤ y ∧ y < 5) (q1 : m 4 45 (40 + y) = 1 → s = 1) (q2 : m 4 45 (40 + y) = 0 → s = 1 → m 4 45 (55 + y) + 1 ≤ m 4 45 7) :
    (∀ i, rB y s m 4 45 i = if i = 55 + y then (if s = 1 then m 4 45 (55 + y) + 1 else 0) else m 4 45 i) ∧ ∀ g k, (g ≠ 4 ∨ k ≠ 45) → rB y s m g k = m g k := by
  obtain ⟨L, hL⟩ : ∃ L, L = if s = 1 then m 4 45 (55 + y) + 1 else 0 := ⟨_, rfl⟩
  have eR : (if s = 0 then (0 : Int) else w64 (m 4 45 (55 + y) + 1)) = L := by
    rw [hL]
    rcases hs with e | e
    · rw [if_pos e, if_neg (by omega)]
    · rw [if_neg (by omega), if_pos e, w64_id (by omega)]
  obtain ⟨m1, e1⟩ : ∃ x, x = z_upd m 4 45 (55 + y) L := ⟨_, rfl⟩
  have w1 : ∀ i, m1 4 45 i = if i = 55 + y then L else m 4 45 i := fun i => by rw [e1, zu_row]; rfl
  have v7 : m1 4 45 7 = m 4 45 7 := by rw [w1, if_neg (by omega)]
  have v40 : m1 4 45 (40 + y) = m 4 45 (40 + y) := by rw [w1, if_neg (by omega)]
  have v55 : m1 4 45 (55 + y) = L := by rw [w1, if_pos rfl]
  have hL2 : m 4 45 (40 + y) = 0 → L ≤ m 4 45 7 := fun x => by
    rcases hs with es | es
    · rw [if_neg (show ¬ s = 1 by omega)] at hL
      omega
    · rw [if_pos es] at hL
      have := q2 x es
      omega
  have mid : (if (if L ≤ m 4 45 7 then (0 : Int) else 1) = 0 then m1 else if m 4 45 (40 + y) = 0 then f228_1 y m1 else m1) = m1 := by
    by_cases x : m 4 45 (40 + y) = 0
    · rw [if_pos (hL2 x), if_pos rfl]
    · by_cases z : L ≤ m 4 45 7
      · rw [if_pos z, if_pos rfl]
      · rw [if_neg z, if_neg (show ¬ (1 : Int) = 0 by decide), if_neg x]
  have e : rB y s m = m1 := by
    unfold rB
    simp only [zn_a, zs_a]
    rw [eR, ← e1, v55, v7, v40, mid]
    rcases hs with es | es
    · have e0 : m 4 45 (40 + y) = 0 := by
        rcases hb with x | x
        · exact x
        · exact absurd (q1 x) (by omega)
      rw [if_pos es, v40, if_neg (show ¬ m 4 45 (40 + y) = 1 by omega)]
    · rw [if_neg (show ¬ s = 0 by omega)]
  rw [e, ← hL]
  refine ⟨w1, fun g k h => ?_⟩
  rw [e1]
  rcases h with h | h
  · rw [zu_g _ _ _ h]
  · rw [zu_k _ _ _ h]
/-- all marks, nothing turns -/
theorem marks_q {m : zM} {so : Int → Int} (hw : ∀ m' : zM, (∀ i, (i < 55 ∨ 59 < i) → m' 4 45 i = m 4 45 i) → ∀ y, 2 ≤ y → y < 5 → soR y m' = so y) (hso : ∀ y, 2 ≤ y → y < 5 → so y = 0 ∨ so y = 1) (hb : b01 (m 4 45)) (h5 : ∀ i, 0 ≤ i → i < 5 → (0 ≤ m 4 45 (50 + i) ∧ m 4 45 (50 + i) ≤ 1000000000) ∧ 0 ≤ m 4 45 (55 + i) ∧ m 4 45 (55 + i) ≤ 1000000000) (hd : 0 ≤ m 4 45 7)
    (q : ∀ y, 2 ≤ y → y < 5 → (m 4 45 (40 + y) = 1 → so y = 1) ∧ (m 4 45 (40 + y) = 0 → so y = 1 → m 4 45 (55 + y) + 1 ≤ m 4 45 7)) :
    (∀ i, 0 ≤ i → i < 5 → f224_1 m 4 45 (50 + i) = m 4 45 (50 + i) + m 4 45 (40 + i)) ∧ (∀ i, 2 ≤ i → i < 5 → f224_1 m 4 45 (55 + i) = if so i = 1 then m 4 45 (55 + i) + 1 else 0) ∧ (∀ i, (i < 50 ∨ i = 55 ∨ i = 56 ∨ 59 < i) → f224_1 m 4 45 i = m 4 45 i) ∧ ∀ g k, (g ≠ 4 ∨ k ≠ 45) → f224_1 m g k = m g k := by
  obtain ⟨m', e, m1, m2, m3, e1, e2, e3, e4, e5, e6⟩ := f224_u m
  rw [e]
  rw [hw m (fun _ _ => rfl) 2 (by omega) (by omega)] at e1
  obtain ⟨a1, a2⟩ := rB_q (m := m) (y := 2) (hso 2 (by omega) (by omega)) (hb 2 (by omega) (by omega)) (h5 2 (by omega) (by omega)).2 hd (by omega) (q 2 (by omega) (by omega)).1 (q 2 (by omega) (by omega)).2
  rw [← e1] at a1 a2
  rw [hw m1 (fun i hi => by rw [a1, if_neg (by omega)]) 3 (by omega) (by omega)] at e2
  have b7 : m1 4 45 7 = m 4 45 7 := by rw [a1, if_neg (by omega)]
  have b43 : m1 4 45 (40 + 3) = m 4 45 (40 + 3) := by rw [a1, if_neg (by omega)]
  have b58 : m1 4 45 (55 + 3) = m 4 45 (55 + 3) := by rw [a1, if_neg (by omega)]
  obtain ⟨a3, a4⟩ := rB_q (m := m1) (y := 3) (hso 3 (by omega) (by omega)) (by rw [b43]; exact hb 3 (by omega) (by omega)) (by rw [b58]; exact (h5 3 (by omega) (by omega)).2) (by omega) (by omega) (by rw [b43]; exact (q 3 (by omega) (by omega)).1) (by rw [b43, b58, b7]; exact (q 3 (by omega) (by omega)).2)
  rw [← e2] at a3 a4
  have w2 : ∀ i, i ≠ 57 → i ≠ 58 → m2 4 45 i = m 4 45 i := fun i h1 h2 => by rw [a3, if_neg (by omega), a1, if_neg (by omega)]
  rw [hw m2 (fun i hi => w2 i (by omega) (by omega)) 4 (by omega) (by omega)] at e3
  have d44 : m2 4 45 (40 + 4) = m 4 45 (40 + 4) := w2 _ (by omega) (by omega)
  have d59 : m2 4 45 (55 + 4) = m 4 45 (55 + 4) := w2 _ (by omega) (by omega)
  have d7 : m2 4 45 7 = m 4 45 7 := w2 _ (by omega) (by omega)
  obtain ⟨a5, a6⟩ := rB_q (m := m2) (y := 4) (hso 4 (by omega) (by omega)) (by rw [d44]; exact hb 4 (by omega) (by omega)) (by rw [d59]; exact (h5 4 (by omega) (by omega)).2) (by omega) (by omega) (by rw [d44]; exact (q 4 (by omega) (by omega)).1) (by rw [d44, d59, d7]; exact (q 4 (by omega) (by omega)).2)
  rw [← e3] at a5 a6
  have w3 : ∀ i, (i < 57 ∨ 59 < i) → m3 4 45 i = m 4 45 i := fun i hi => by rw [a5, if_neg (by omega), w2 i (by omega) (by omega)]
  refine ⟨fun i i0 i1 => ?_, fun i i0 i1 => ?_, fun i hi => ?_, fun g k hk => ?_⟩
  · have x := hb i i0 i1
    have y := (h5 i i0 i1).1
    rw [e5 i i0 i1, w3 _ (by omega), w3 _ (by omega), w64_id (by omega)]
  · rw [e6 _ (by omega)]
    rcases (show i = 2 ∨ i = 3 ∨ i = 4 by omega) with rfl | rfl | rfl
    · rw [a5, if_neg (by omega), a3, if_neg (by omega), a1, if_pos rfl]
    · rw [a5, if_neg (by omega), a3, if_pos rfl, b58]
    · rw [a5, if_pos rfl, d59]
  · rw [e6 i (by omega), w3 i (by omega)]
  · rw [e4 g k hk, a6 g k hk, a4 g k hk, a2 g k hk]
/-- the time goes, no block ends -/
theorem goes_q {m : zM} (hb : b01 (m 4 45)) (h27 : 0 ≤ m 4 45 27 ∧ m 4 45 27 < 32) (ht : m 4 45 0 ≠ 2000000000) (hn : (m 4 45 0 + 1) % m 4 45 8 ≠ 0) : f230_1 m = z_upd (z_upd m 4 45 27 (zorN (m 4 45 27) (onV (m 4 45)))) 4 45 0 (m 4 45 0 + 1) := by
  have hv := onV_r hb
  unfold f230_1
  simp only [zn_a, zs_a]
  rw [on_r hb, zorL_eq (by omega) (by omega)]
  have u0 : z_upd m 4 45 27 (zorN (m 4 45 27) (onV (m 4 45))) 4 45 0 = m 4 45 0 := by rw [zu_row, fu_i _ _ (by decide)]
  rw [u0, if_neg ht]
  have u1 : z_upd (z_upd m 4 45 27 (zorN (m 4 45 27) (onV (m 4 45)))) 4 45 0 (m 4 45 0 + 1) 4 45 0 = m 4 45 0 + 1 := by rw [zu_row, fu_s]
  have u8 : z_upd (z_upd m 4 45 27 (zorN (m 4 45 27) (onV (m 4 45)))) 4 45 0 (m 4 45 0 + 1) 4 45 8 = m 4 45 8 := by rw [zu_row, fu_i _ _ (by decide), zu_row, fu_i _ _ (by decide)]
  rw [u1, u8, if_neg hn]
end
section
/-! Seconds of one kind: what lies between class and reference, j of them. -/
def ST (c : Nat → Int → Int) (w : Int → Int) : Prop := c 10 0 = w 4 ∧ c 10 1 = w 5 ∧ c 10 2 = w 6 ∧ c 10 3 = w 7 ∧ c 10 4 = w 8 ∧ c 10 5 = w 9 ∧ (∀ t, 0 ≤ t → t < 4 → c 10 (6 + t) = w (28 + t)) ∧ c 10 10 = w 1611 ∧ c 10 11 = w 1612 ∧ c 10 12 = w 1613 ∧ (w 8 = 60 ∨ w 8 = 300 ∨ w 8 = 900 ∨ w 8 = 1800 ∨ w 8 = 3600)
theorem ST.fe {c c' : Nat → Int → Int} {w w' : Int → Int} (h : ST c w) (h1 : FE 3 c c') (h2 : FW 3 w w') : ST c' w' := by
  obtain ⟨a0, a1, a2, a3, a4, a5, a6, a7, a8, a9, a10⟩ := h
  have e : ∀ i, 4 ≤ i → i ≤ 9 → w' i = w i := fun i i0 i1 => h2 i (by omega) (by omega) (ja45_4 ⟨i0, i1⟩)
  unfold ST
  rw [h1.p10_0 0 (by omega) (by omega), h1.p10_0 1 (by omega) (by omega), h1.p10_0 2 (by omega) (by omega), h1.p10_0 3 (by omega) (by omega), h1.p10_0 4 (by omega) (by omega), h1.p10_0 5 (by omega) (by omega), h1.p10_0 10 (by omega) (by omega), h1.p10_0 11 (by omega) (by omega), h1.p10_0 12 (by omega) (by omega),
    e 4 (by omega) (by omega), e 5 (by omega) (by omega), e 6 (by omega) (by omega), e 7 (by omega) (by omega), e 8 (by omega) (by omega), e 9 (by omega) (by omega), h2 1611 (by omega) (by omega) (ja45_1611 (by omega)), h2 1612 (by omega) (by omega) (ja45_1611 (by omega)), h2 1613 (by omega) (by omega) (ja45_1611 (by omega))]
  refine ⟨a0, a1, a2, a3, a4, a5, fun t t0 t1 => ?_, a7, a8, a9, a10⟩
  rw [h1.p10_0 _ (by omega) (by omega), h2 _ (by omega) (by omega) (ja45_28 (by omega))]
  exact a6 t t0 t1
/-- the class' numbers within their bounds; A: how many seconds at most; Z: how many marks by hand -/
def CBD (A Z : Int) (c : Nat → Int → Int) : Prop := (0 ≤ c 8 13 ∧ c 8 13 ≤ A) ∧ (∀ i, 0 ≤ i → i < 28 → 0 ≤ c 24 i ∧ c 24 i ≤ 17000000 * c 8 13) ∧ (∀ i, 3 ≤ i → i ≤ 5 → 0 ≤ c 27 i ∧ c 27 i ≤ 17000000 * c 8 13) ∧ (0 ≤ c 27 6 ∧ c 27 6 ≤ c 8 13) ∧ (0 ≤ c 8 14 ∧ c 8 14 ≤ c 8 13) ∧
  (∀ m, 0 ≤ m → m < 5 → (0 ≤ c 34 m ∧ c 34 m ≤ Z + c 8 13) ∧ (0 ≤ c 35 m ∧ c 35 m ≤ c 8 13) ∧ 0 ≤ c 36 m ∧ c 36 m ≤ c 8 13) ∧ (-1700000000 * c 8 13 ≤ c 8 10 ∧ c 8 10 ≤ 5000000000000) ∧ (0 ≤ c 27 7 ∧ c 27 7 ≤ c 8 15) ∧ (0 ≤ c 8 15 ∧ c 8 15 ≤ 1000000000) ∧ (0 ≤ c 27 8 ∧ c 27 8 < 32)
/-- what the wave and the settings are on both sides -/
def WV (c : Nat → Int → Int) (w : Int → Int) : Prop := c 19 3 = w 1 ∧ c 19 4 = w 2 ∧ WS c w ∧ ST c w ∧ WB w
theorem WV.pt {c : Nat → Int → Int} {w w' : Int → Int} (h : WV c w) (e : ∀ i, (1 ≤ i ∧ i ≤ 9) ∨ (28 ≤ i ∧ i ≤ 31) ∨ (95 ≤ i ∧ i ≤ 286) ∨ (1611 ≤ i ∧ i ≤ 1613) → w' i = w i) : WV c w' := by
  obtain ⟨a1, a2, a3, a4, a5⟩ := h
  refine ⟨by rw [e 1 (by omega)]; exact a1, by rw [e 2 (by omega)]; exact a2, ?_, ?_, a5.pt (fun i hi => e i (by omega))⟩
  · have e' : ∀ i, (1 ≤ i ∧ i ≤ 2) ∨ (95 ≤ i ∧ i ≤ 190) → w' i = w i := fun i hi => e i (by omega)
    obtain ⟨b0, b1, b2, b3, b4, b5⟩ := a3
    have hp := a5.2.1
    refine ⟨fun f hf => ?_, by rw [TG_fw e' a5]; exact b1, by rw [TG_fw e' a5]; exact b2, by rw [TG_fw e' a5]; exact b3, by rw [TG_fw e' a5]; exact b4, b5⟩
    rw [e' 1 (by omega)] at hf
    obtain ⟨q1, q2, q3, q4⟩ := AC_fw e' a5 (f := f) (by omega) (by omega)
    rw [q1, q2, q3, q4]
    exact b0 f hf
  · unfold ST
    rw [e 4 (by omega), e 5 (by omega), e 6 (by omega), e 7 (by omega), e 8 (by omega), e 9 (by omega), e 1611 (by omega), e 1612 (by omega), e 1613 (by omega)]
    obtain ⟨a0, a1, a2, a3, a4, a5, a6, a7, a8, a9, a10⟩ := a4
    exact ⟨a0, a1, a2, a3, a4, a5, fun t t0 t1 => by rw [e _ (by omega)]; exact a6 t t0 t1, a7, a8, a9, a10⟩
theorem WV.sums {c : Nat → Int → Int} {w : Int → Int} (h : WV c w) : (-12000000 ≤ c 22 3 ∧ c 22 3 ≤ 12000000) ∧ (-12000000 ≤ c 22 7 ∧ c 22 7 ≤ 12000000) ∧ 0 ≤ c 19 6 ∧ c 19 6 ≤ 17000000 := by
  obtain ⟨-, -, ⟨-, b1, b2, -, -, b5⟩, -, hb⟩ := h
  have t0 := TG_b hb 0
  have t1 := TG_b hb 1
  rw [← b1] at t0
  rw [← b2] at t1
  refine ⟨t0, t1, b5.1, ?_⟩
  obtain ⟨hr, x0, x1⟩ := root_b (P := c 22 3) (Q := c 22 7) (fun _ _ _ => 0) t0 t1
  rw [b5.uni hr]
  exact x1
/-- what a second adds is the same on both sides -/
theorem DR_eq {c r : zM} {g : Nat} (h : WV (c g) (r 4 45)) (ho : c g 8 12 = r 4 45 12) (hob : c g 8 12 = 0 ∨ c g 8 12 = 1) : (∀ q, DR r q = DL (c g 8 12) (c g 22 3) (c g 22 7) (c g 19 6) (c g 10 0) q) ∧ KR r = (if crp (c g 8 12) (c g 22 3) (c g 22 7) (c g 10 0) = 0 then 0 else 1) := by
  obtain ⟨b1, b2, b3⟩ := h.sums
  obtain ⟨-, -, ⟨-, w1, w2, -, -, w5⟩, ⟨s0, -⟩, hb⟩ := h
  have hc : crp (c g 8 12) (c g 22 3) (c g 22 7) (c g 10 0) = 0 ∨ crp (c g 8 12) (c g 22 3) (c g 22 7) (c g 10 0) = 1 := by
    unfold crp
    repeat' split
    all_goals omega
  rcases hob with e | e
  · have p0 : pw 0 r = c g 22 3 := by
      unfold pw
      rw [if_neg (by omega), zn_a, tg_r hb]
      exact w1.symm
    have p1 : pw 1 r = c g 22 7 := by
      unfold pw
      rw [if_neg (by omega), zn_a, tg_r hb]
      exact w2.symm
    have hr := (root_b (P := c g 22 3) (Q := c g 22 7) r b1 b2).1
    have ec : (max (c g 22 3) (-(c g 22 3)) < c g 10 0 ∧ max (c g 22 7) (-(c g 22 7)) < c g 10 0) ↔ crp (c g 8 12) (c g 22 3) (c g 22 7) (c g 10 0) = 1 := by
      unfold crp
      rw [if_pos e]
      constructor
      · intro h9
        rw [if_pos h9]
      · intro h9
        by_cases h8 : max (c g 22 3) (-(c g 22 3)) < c g 10 0 ∧ max (c g 22 7) (-(c g 22 7)) < c g 10 0
        · exact h8
        · rw [if_neg h8] at h9
          omega
    refine ⟨fun q => ?_, ?_⟩
    · unfold DR DL
      rw [p0, p1, ← s0, ← w5.uni hr]
      by_cases h9 : max (c g 22 3) (-(c g 22 3)) < c g 10 0 ∧ max (c g 22 7) (-(c g 22 7)) < c g 10 0
      · have := ec.mp h9
        rw [if_pos h9, if_neg (fun h8 => by omega)]
      · have : ¬ crp (c g 8 12) (c g 22 3) (c g 22 7) (c g 10 0) = 1 := fun h8 => h9 (ec.mpr h8)
        rw [if_neg h9, if_pos ⟨by omega, e⟩]
    · unfold KR
      rw [p0, p1, ← s0]
      by_cases h9 : max (c g 22 3) (-(c g 22 3)) < c g 10 0 ∧ max (c g 22 7) (-(c g 22 7)) < c g 10 0
      · have := ec.mp h9
        rw [if_pos h9, if_neg (by omega)]
      · have : ¬ crp (c g 8 12) (c g 22 3) (c g 22 7) (c g 10 0) = 1 := fun h8 => h9 (ec.mpr h8)
        rw [if_neg h9, if_pos (by omega)]
  · have p0 : ∀ i, pw i r = 0 := fun i => by
      unfold pw
      rw [if_pos (by omega)]
    have hz : f214_1 (0 * 0 + 0 * 0) r = 0 := by
      have hr := (root_b (P := 0) (Q := 0) r (by omega) (by omega)).1
      exact hr.uni ⟨by omega, by omega, by omega⟩
    have ec : crp (c g 8 12) (c g 22 3) (c g 22 7) (c g 10 0) = if 0 < c g 10 0 then 1 else 0 := by
      unfold crp
      rw [if_neg (by omega)]
    refine ⟨fun q => ?_, ?_⟩
    · unfold DR DL
      rw [p0, p0, if_neg (show ¬ (crp (c g 8 12) (c g 22 3) (c g 22 7) (c g 10 0) = 0 ∧ c g 8 12 = 0) from fun h8 => by omega), hz]
      split
      · rfl
      · unfold dl
        rw [show max (0 : Int) 0 = 0 by decide, show max (-(0 : Int)) 0 = 0 by decide, show max (0 : Int) (-0) = 0 by decide]
        repeat' split
        all_goals rfl
    · unfold KR
      rw [p0, p0, ← s0, ec]
      rw [show max (0 : Int) (-0) = 0 by decide]
      by_cases h9 : 0 < c g 10 0
      · rw [if_pos ⟨h9, h9⟩, if_pos h9, if_neg (by decide)]
      · rw [if_neg (fun h8 => h9 h8.1), if_neg h9, if_pos rfl]
def LLx (c : Nat → Int → Int) (w : Int → Int) : Prop := c 27 2 = w 17 ∧ 0 ≤ w 17 ∧ LL (w 17) (c 28) w ∧ ∀ k, 0 ≤ k → k < 4 → c 29 k = w (1607 + k)
def QJ (D : Int → Int) (K j tar : Int) (so : Int → Int) (c : Nat → Int → Int) (w : Int → Int) : Prop := w 0 = c 8 9 + j ∧ w 13 = c 8 13 + j ∧ w 15 = c 8 15 ∧ w 11 = c 8 11 ∧ w 12 = c 8 12 ∧ FLo D K j tar c w ∧ MI 0 j so c w ∧ LG c w ∧ DM c w ∧ LLx c w ∧ w 25 = c 27 6 + j ∧ w 26 = c 27 7 ∧ w 27 = (if j = 0 then c 27 8 else zorN (c 27 8) (onV w)) ∧ OD c w
/-- the reference's numbers within their bounds, j seconds on -/
theorem QJ.rb {D : Int → Int} {K j tar A Z : Int} {so : Int → Int} {c : Nat → Int → Int} {w : Int → Int} (h : QJ D K j tar so c w) (hc : CBD A Z c) (hA : A ≤ 5000000) (hs : ST c w) (hu : 1 ≤ w 5 ∧ w 5 ≤ 1000000) (hp : ∀ t, 0 ≤ t → t < 4 → 0 ≤ w (28 + t) ∧ w (28 + t) ≤ 100) (ht : 0 ≤ tar ∧ tar < 4) (hj : 0 ≤ j ∧ j ≤ 3600) (hD : ∀ q, 0 ≤ D q ∧ D q ≤ 17000000) (hK : 0 ≤ K ∧ K ≤ 1) : RB w := by
  obtain ⟨-, -, -, -, -, ⟨f1, f2, f3, f4, f5, f6, f7⟩, -⟩ := h
  obtain ⟨c1, c2, c3, c4, c5, c6, c7, -⟩ := hc
  have jd : ∀ q, 0 ≤ j * D q ∧ j * D q ≤ 3600 * 17000000 := fun q => mul_le3 hj.1 hj.2 (hD q).1 (hD q).2
  have each : ∀ q t, 0 ≤ q → q < 7 → 0 ≤ t → t < 4 → 0 ≤ w (60 + 5 * q + t) ∧ w (60 + 5 * q + t) ≤ 100000000000000 := fun q t h0 h1 h2 h3 => by
    rw [f1 q t h0 h1 h2 h3]
    have x := c2 (q * 4 + t) (by omega) (by omega)
    have y := jd q
    split <;> omega
  have x0 := c2 tar (by omega) (by omega)
  have y0 := jd 0
  have q0 := ediv_b (a := c 24 tar) (b := w 5) (A := 100000000000000) x0.1 (by omega) hu.1
  have q1 := ediv_b (a := c 24 tar + j * D 0) (b := w 5) (A := 100000000000000) (by omega) (by omega) hu.1
  have qm : c 24 tar / w 5 ≤ (c 24 tar + j * D 0) / w 5 := Int.ediv_le_ediv (by omega) (by omega)
  have hpt := hp tar ht.1 ht.2
  have cm := mul_le3 (a := (c 24 tar + j * D 0) / w 5 - c 24 tar / w 5) (b := w (28 + tar)) (A := 100000000000000) (B := 100) (by omega) (by omega) hpt.1 hpt.2
  refine ⟨fun i i0 i1 => ?_, hu, hp, ?_, ?_, ?_, ?_, ?_⟩
  · by_cases e : (i - 60) % 5 = 4
    · have h9 := f2 ((i - 60) / 5) (by omega) (by omega)
      have y1 := each ((i - 60) / 5) 0 (by omega) (by omega) (by omega) (by omega)
      have y2 := each ((i - 60) / 5) 1 (by omega) (by omega) (by omega) (by omega)
      have y3 := each ((i - 60) / 5) 2 (by omega) (by omega) (by omega) (by omega)
      have y4 := each ((i - 60) / 5) 3 (by omega) (by omega) (by omega) (by omega)
      rw [show 60 + 5 * ((i - 60) / 5) + 4 = i by omega] at h9
      omega
    · have y1 := each ((i - 60) / 5) ((i - 60) % 5) (by omega) (by omega) (by omega) (by omega)
      rw [show 60 + 5 * ((i - 60) / 5) + (i - 60) % 5 = i by omega] at y1
      omega
  · rw [f3]
    omega
  · have x := c3 3 (by omega) (by omega)
    rw [f5]
    omega
  · have x := c3 4 (by omega) (by omega)
    have y := jd 1
    rw [f6]
    omega
  · have x := c3 5 (by omega) (by omega)
    have y := jd 6
    rw [f7]
    omega
  · have y := mul_le3 (a := j) (b := K) (A := 3600) (B := 1) hj.1 hj.2 hK.1 hK.2
    rw [f4]
    omega
end
section
/-! One more quiet second. -/
/-- what a second leaves of the reference -/
theorem sec_keep {r : zM} {B : Int} (ho : OM B r) (hB : B + 11 ≤ 1000000000) : OM (B + 11) (f208_1 r) ∧ (∀ i, (1 ≤ i ∧ i ≤ 9) ∨ i = 18 ∨ (28 ≤ i ∧ i ≤ 31) ∨ (95 ≤ i ∧ i ≤ 787) ∨ (1172 ≤ i ∧ i ≤ 1486) ∨ (1611 ≤ i ∧ i ≤ 1618) → f208_1 r 4 45 i = r 4 45 i) ∧ J (zQ [26, 27, 28, 29, 30, 31, 32, 33] [4]) r (B + 11) (f208_1 r) := by
  obtain ⟨k1, k2⟩ := q208_1 ho.1 ho.2 hB
  refine ⟨⟨k1, k2.jb⟩, fun i hi => ?_, k2⟩
  by_cases h1 : 1 ≤ i ∧ i ≤ 3
  · exact jx k2 22 (ja45_1 h1) rfl
  by_cases h2 : 4 ≤ i ∧ i ≤ 9
  · exact jx k2 23 (ja45_4 h2) rfl
  by_cases h3 : i = 18
  · rw [h3]
    exact jx k2 25 ja45_18 rfl
  by_cases h4 : 28 ≤ i ∧ i ≤ 31
  · exact jx k2 23 (ja45_28 h4) rfl
  by_cases h5 : 95 ≤ i ∧ i ≤ 286
  · exact jx k2 22 (ja45_95 h5) rfl
  by_cases h6 : 287 ≤ i ∧ i ≤ 787
  · exact jx k2 21 (ja45_287 h6) rfl
  by_cases h7 : 1172 ≤ i ∧ i ≤ 1486
  · exact jx k2 25 (ja45_1172 h7) rfl
  by_cases h8 : 1611 ≤ i ∧ i ≤ 1613
  · exact jx k2 23 (ja45_1611 h8) rfl
  · exact jx k2 24 (ja45_1614 (by omega)) rfl
/-- whether the switch shall be open -/
def shO (pre cr : Int) : Int := if pre = 1 then (if cr ≤ 0 then 1 else 0) else 0
theorem sw_q {m : zM} (h : m 4 45 12 = shO (m 4 45 11) (m 4 45 10)) : f222_1 m = m := by
  unfold f222_1
  rw [zn_a]
  unfold shO at h
  rw [if_pos h]
theorem quiet_T {c r : zM} {g : Nat} {B j tar K A Z : Int} {D so : Int → Int} (hQ : QJ D K j tar so (c g) (r 4 45)) (ho : OM B r) (hB : B + 11 ≤ 1000000000) (hwv : WV (c g) (r 4 45)) (hc : CBD A Z (c g)) (hA : A ≤ 5000000) (hop : c g 8 12 = shO (c g 8 11) (c g 8 10)) (hpre : c g 8 11 = 0 ∨ c g 8 11 = 1)
    (hD : ∀ q, D q = DL (c g 8 12) (c g 22 3) (c g 22 7) (c g 19 6) (c g 10 0) q) (hK : K = if crp (c g 8 12) (c g 22 3) (c g 22 7) (c g 10 0) = 0 then 0 else 1) (ht : 0 ≤ tar ∧ tar < 4) (hj : 0 ≤ j ∧ j ≤ 3600)
    (htar : ∀ m' : zM, (∀ i, i = 0 ∨ (287 ≤ i ∧ i ≤ 787) → m' 4 45 i = r 4 45 i) → f217_1 (m' 4 45 0) m' = tar) (hso : ∀ m' : zM, WV (c g) (m' 4 45) → ∀ y, 2 ≤ y → y < 5 → soR y m' = so y) (hso2 : ∀ y, 2 ≤ y → y < 5 → so y = 0 ∨ so y = 1)
    (qt : r 4 45 0 < 2000000000) (qb : (r 4 45 0 + 1) % r 4 45 8 ≠ 0) (qo : c g 8 11 = 1 → c g 8 12 = 0 → 0 < c g 8 10 - ((c g 24 tar + (j + 1) * D 0) / c g 10 1 - c g 24 tar / c g 10 1) * c g 10 (6 + tar))
    (qm : ∀ m, 2 ≤ m → m < 5 → (r 4 45 (40 + m) = 1 → so m = 1) ∧ (r 4 45 (40 + m) = 0 → so m = 1 → c g 36 m + (j + 1) ≤ c g 10 3)) :
    QJ D K (j + 1) tar so (c g) (f208_1 r 4 45) := by
  have hQ0 := hQ
  have hob : c g 8 12 = 0 ∨ c g 8 12 = 1 := by
    rw [hop]
    unfold shO
    repeat' split
    all_goals omega
  obtain ⟨e0, e13, e15, e11, e12, hF, ⟨hk0, hsec, hlen⟩, hLG, hDM, hLL, e25, e26, e27, hOD⟩ := hQ
  obtain ⟨eD, eK⟩ := DR_eq hwv e12.symm hob
  have hst := hwv.2.2.2.1
  obtain ⟨s0, s1, s2, s3, s4, s5, s6, -, -, -, s10⟩ := id hst
  obtain ⟨bP, bQ, bS⟩ := hwv.sums
  have hu := r45_5 ho.2.o 4
  have hp : ∀ t, 0 ≤ t → t < 4 → 0 ≤ r 4 45 (28 + t) ∧ r 4 45 (28 + t) ≤ 100 := fun t t0 t1 => r45_28 ho.2.o 4 (by omega)
  have hDb : ∀ q, 0 ≤ D q ∧ D q ≤ 17000000 := fun q => by
    rw [hD q]
    unfold DL
    split
    · exact dl_b bP bQ bS q
    · omega
  have hKb : 0 ≤ K ∧ K ≤ 1 := by
    rw [hK]
    split <;> omega
  have hRB := hQ0.rb hc hA hst hu hp ht hj hDb hKb
  have h7 : 0 ≤ r 4 45 7 := (r45_7 ho.2.o 4).1
  have h13 := hc.1
  have h276 := hc.2.2.2.1
  have h25 : 0 ≤ r 4 45 25 ∧ r 4 45 25 ≤ 1000000000 := by omega
  -- it flows
  have F1 := hF.step ho (by omega) hRB ht htar h25 (fun q => by rw [eD q, hD q]) (by rw [eK, hK])
  obtain ⟨-, -, -, -, -, -, -, a13, a25, ao, -⟩ := flow_r ho (by omega) hRB ht htar h25
  have hfA : ∀ i, i ≠ 10 → i ≠ 13 → i ≠ 14 → i ≠ 25 → (i < 22 ∨ 24 < i) → (i < 60 ∨ 94 < i) → fA r 4 45 i = r 4 45 i := ao
  -- the switch
  have esw : f222_1 (fA r) = fA r := by
    refine sw_q ?_
    rw [hfA 12 (by omega) (by omega) (by omega) (by omega) (by omega) (by omega), hfA 11 (by omega) (by omega) (by omega) (by omega) (by omega) (by omega), e12, e11, F1.2.2.1, hfA 5 (by omega) (by omega) (by omega) (by omega) (by omega) (by omega), hfA (28 + tar) (by omega) (by omega) (by omega) (by omega) (by omega) (by omega), ← s1, ← s6 tar ht.1 ht.2]
    rcases hob with e | e
    · rcases hpre with p | p
      · rw [e, p]
        rfl
      · have := qo p e
        rw [e, p]
        unfold shO
        rw [if_pos rfl, if_neg (by omega)]
    · have d0 : D 0 = 0 := by
        rw [hD 0]
        unfold DL
        rw [if_neg (fun h9 => by omega)]
      rw [d0, Int.mul_zero, Int.add_zero, Int.sub_self, Int.zero_mul, Int.sub_zero]
      exact hop
  -- the marks
  obtain ⟨r1, er1⟩ : ∃ x, x = fA r := ⟨_, rfl⟩
  rw [← er1] at F1 a13 a25 hfA esw
  have w1 : ∀ i, 26 ≤ i → i ≤ 59 → r1 4 45 i = r 4 45 i := fun i i0 i1 => hfA i (by omega) (by omega) (by omega) (by omega) (by omega) (by omega)
  have hb1 : b01 (r1 4 45) := hk0.1.of (fun i i0 i1 => w1 i (by omega) (by omega))
  have hMb : ∀ i, 0 ≤ i → i < 5 → (0 ≤ r 4 45 (50 + i) ∧ r 4 45 (50 + i) ≤ 1000000000) ∧ 0 ≤ r 4 45 (55 + i) ∧ r 4 45 (55 + i) ≤ 1000000000 := fun i i0 i1 => by
    have x := hsec i i0 i1
    have y := hlen i i0 i1
    have z := hc.2.2.2.2.2.1 i i0 i1
    rw [if_neg (by omega)] at x
    refine ⟨?_, ?_⟩
    · rw [x]
      split <;> omega
    · rw [y]
      repeat' split
      all_goals omega
  obtain ⟨g1, g2, g3, g4⟩ := marks_q (m := r1) (so := so) (fun m' hm' y y0 y1 => hso m' (hwv.pt (fun i hi => by rw [hm' i (by omega), hfA i (by omega) (by omega) (by omega) (by omega) (by omega) (by omega)])) y y0 y1) hso2 hb1 (fun i i0 i1 => by rw [w1 _ (by omega) (by omega), w1 _ (by omega) (by omega)]; exact hMb i i0 i1) (by rw [hfA 7 (by omega) (by omega) (by omega) (by omega) (by omega) (by omega)]; exact h7) (fun y y0 y1 => by
    rw [w1 _ (by omega) (by omega), w1 _ (by omega) (by omega), hfA 7 (by omega) (by omega) (by omega) (by omega) (by omega) (by omega)]
    refine ⟨(qm y y0 y1).1, fun h9 h8 => ?_⟩
    have x := (qm y y0 y1).2 h9 h8
    have y' := hlen y (by omega) y1
    rw [if_neg (by omega), if_pos h8] at y'
    omega)
  obtain ⟨r3, er3⟩ : ∃ x, x = f224_1 r1 := ⟨_, rfl⟩
  rw [← er3] at g1 g2 g3 g4
  have w3 : ∀ i, (i < 50 ∨ i = 55 ∨ i = 56 ∨ 59 < i) → r3 4 45 i = r1 4 45 i := g3
  have hb3 : b01 (r3 4 45) := hb1.of (fun i i0 i1 => w3 i (by omega))
  have ov : onV (r3 4 45) = onV (r 4 45) := onV_of (fun i i0 i1 => by rw [w3 i (by omega), w1 i (by omega) (by omega)])
  have e327 : r3 4 45 27 = r 4 45 27 := by rw [w3 27 (by omega), w1 27 (by omega) (by omega)]
  have e30 : r3 4 45 0 = r 4 45 0 := by rw [w3 0 (by omega), hfA 0 (by omega) (by omega) (by omega) (by omega) (by omega) (by omega)]
  have e38 : r3 4 45 8 = r 4 45 8 := by rw [w3 8 (by omega), hfA 8 (by omega) (by omega) (by omega) (by omega) (by omega) (by omega)]
  have h278 := hc.2.2.2.2.2.2.2.2.2
  have ovr := onV_r hk0.1
  have h27 : 0 ≤ r 4 45 27 ∧ r 4 45 27 < 32 := by
    rw [e27]
    split
    · exact h278
    · exact zorN_32 h278 ovr
  have egoes := goes_q (m := r3) hb3 (by rw [e327]; exact h27) (by rw [e30]; omega) (by rw [e30, e38]; exact qb)
  rw [e327, ov, e30] at egoes
  have e208 : f208_1 r = z_upd (z_upd r3 4 45 27 (zorN (r 4 45 27) (onV (r 4 45)))) 4 45 0 (r 4 45 0 + 1) := by
    rw [f208_A, ← er1, esw, ← er3]
    exact egoes
  have w5 : ∀ i, i ≠ 0 → i ≠ 27 → f208_1 r 4 45 i = r3 4 45 i := fun i i0 i1 => by rw [e208, zu_row, fu_i _ _ i0, zu_row, fu_i _ _ i1]
  have w50 : f208_1 r 4 45 0 = r 4 45 0 + 1 := by rw [e208, zu_row, fu_s]
  have w527 : f208_1 r 4 45 27 = zorN (r 4 45 27) (onV (r 4 45)) := by rw [e208, zu_row, fu_i _ _ (by omega), zu_row, fu_s]
  -- rows that are as behind the flow
  have wf : ∀ i, i ≠ 0 → i ≠ 27 → (i < 50 ∨ i = 55 ∨ i = 56 ∨ 59 < i) → f208_1 r 4 45 i = r1 4 45 i := fun i i0 i1 i2 => by rw [w5 i i0 i1, w3 i i2]
  have wr : ∀ i, i ≠ 0 → i ≠ 27 → i ≠ 10 → i ≠ 13 → i ≠ 14 → i ≠ 25 → (i < 22 ∨ 24 < i) → (i < 50 ∨ 94 < i) → f208_1 r 4 45 i = r 4 45 i := fun i i0 i1 i2 i3 i4 i5 i6 i7 => by rw [wf i i0 i1 (by omega), hfA i i2 i3 i4 i5 i6 (by omega)]
  have ov5 : onV (f208_1 r 4 45) = onV (r 4 45) := onV_of (fun i i0 i1 => wr i (by omega) (by omega) (by omega) (by omega) (by omega) (by omega) (by omega) (by omega))
  refine ⟨?_, ?_, ?_, ?_, ?_, ?_, ⟨?_, fun m m0 m1 => ?_, fun m m0 m1 => ?_⟩, ?_, ?_, ?_, ?_, ?_, ?_, ?_⟩
  · rw [w50]
    omega
  · rw [wf 13 (by omega) (by omega) (by omega), a13]
    omega
  · rw [wr 15 (by omega) (by omega) (by omega) (by omega) (by omega) (by omega) (by omega) (by omega)]
    exact e15
  · rw [wr 11 (by omega) (by omega) (by omega) (by omega) (by omega) (by omega) (by omega) (by omega)]
    exact e11
  · rw [wr 12 (by omega) (by omega) (by omega) (by omega) (by omega) (by omega) (by omega) (by omega)]
    exact e12
  · obtain ⟨x1, x2, x3, x4, x5, x6, x7⟩ := F1
    refine ⟨fun q t q0 q1 t0 t1 => ?_, fun q q0 q1 => ?_, ?_, ?_, ?_, ?_, ?_⟩
    · rw [wf _ (by omega) (by omega) (by omega)]
      exact x1 q t q0 q1 t0 t1
    · rw [wf _ (by omega) (by omega) (by omega), wf _ (by omega) (by omega) (by omega), wf _ (by omega) (by omega) (by omega), wf _ (by omega) (by omega) (by omega), wf _ (by omega) (by omega) (by omega)]
      exact x2 q q0 q1
    · rw [wf 10 (by omega) (by omega) (by omega), wf 5 (by omega) (by omega) (by omega), wf (28 + tar) (by omega) (by omega) (by omega)]
      exact x3
    · rw [wf 14 (by omega) (by omega) (by omega)]
      exact x4
    · rw [wf 22 (by omega) (by omega) (by omega)]
      exact x5
    · rw [wf 23 (by omega) (by omega) (by omega)]
      exact x6
    · rw [wf 24 (by omega) (by omega) (by omega)]
      exact x7
  · exact hk0.pt (fun _ _ => rfl) (fun i i0 i1 => wr i (by omega) (by omega) (by omega) (by omega) (by omega) (by omega) (by omega) (by omega))
  · have x := hsec m m0 m1
    have y := hk0.1 m m0 m1
    rw [if_neg (by omega)] at x ⊢
    rw [w5 _ (by omega) (by omega), w5 _ (by omega) (by omega), g1 m m0 m1, w3 _ (by omega), w1 _ (by omega) (by omega), w1 _ (by omega) (by omega), x]
    rcases y with y | y
    · rw [y, if_neg (by omega), if_neg (by omega)]
      omega
    · rw [y, if_pos rfl, if_pos rfl]
      omega
  · have x := hlen m m0 m1
    rw [w5 _ (by omega) (by omega)]
    by_cases h2 : m < 2
    · rw [if_pos (.inr h2)] at x ⊢
      rw [w3 _ (by omega), w1 _ (by omega) (by omega)]
      exact x
    · rw [if_neg (by omega)] at x ⊢
      rw [g2 m (by omega) m1, w1 _ (by omega) (by omega)]
      by_cases h3 : so m = 1
      · rw [if_pos h3] at x ⊢
        rw [if_pos h3, x]
        omega
      · rw [if_neg h3, if_neg h3, if_neg (by omega)]
  · exact hLG.pt (fun _ _ => rfl) (fun i hi => wr i (by omega) (by omega) (by omega) (by omega) (by omega) (by omega) (by omega) (by omega))
  · obtain ⟨d1, d2, d3, d4⟩ := hDM
    refine ⟨by rw [wr 19 (by omega) (by omega) (by omega) (by omega) (by omega) (by omega) (by omega) (by omega)]; exact d1, by rw [wr 20 (by omega) (by omega) (by omega) (by omega) (by omega) (by omega) (by omega) (by omega)]; exact d2, fun t t0 t1 => ?_, fun t t0 t1 => ?_⟩
    · rw [wr _ (by omega) (by omega) (by omega) (by omega) (by omega) (by omega) (by omega) (by omega)]
      exact d3 t t0 t1
    · rw [wr _ (by omega) (by omega) (by omega) (by omega) (by omega) (by omega) (by omega) (by omega)]
      exact d4 t t0 t1
  · obtain ⟨l1, l2, ⟨l3, l4⟩, l5⟩ := hLL
    have e17 := wr 17 (by omega) (by omega) (by omega) (by omega) (by omega) (by omega) (by omega) (by omega)
    refine ⟨by rw [e17]; exact l1, by rw [e17]; exact l2, ⟨fun i i0 i1 k k0 k1 => ?_, fun jj j0 j1 k k0 k1 => ?_⟩, fun k k0 k1 => ?_⟩
    · rw [e17] at i1 ⊢
      rw [wr _ (by omega) (by omega) (by omega) (by omega) (by omega) (by omega) (by omega) (by omega)]
      exact l3 i i0 i1 k k0 k1
    · rw [e17] at j0
      exact l4 jj j0 j1 k k0 k1
    · rw [wr _ (by omega) (by omega) (by omega) (by omega) (by omega) (by omega) (by omega) (by omega)]
      exact l5 k k0 k1
  · rw [wf 25 (by omega) (by omega) (by omega), a25, e25]
    omega
  · rw [wr 26 (by omega) (by omega) (by omega) (by omega) (by omega) (by omega) (by omega) (by omega)]
    exact e26
  · rw [w527, ov5, if_neg (by omega), e27]
    by_cases hj0 : j = 0
    · rw [if_pos hj0]
    · rw [if_neg hj0, zorN_self h278.1]
  · unfold OD
    rw [wr 21 (by omega) (by omega) (by omega) (by omega) (by omega) (by omega) (by omega) (by omega), wr 8 (by omega) (by omega) (by omega) (by omega) (by omega) (by omega) (by omega) (by omega)]
    exact hOD
end
section
/-! The marks of the last second of a stretch, on both sides. -/
theorem mstep01 {c : zM} {g : Nat} {y j n seen delay t : Int} {so w : Int → Int} (h : MI y j so (c g) w) (hB : MB y w) (hy : 0 ≤ y ∧ y < 2) (hn : n = j + 1) (hj : 0 ≤ j ∧ j ≤ 100000) : MI (y + 1) j so (cB g g n seen delay t y c g) w ∧ (∀ g' k, (g' ≠ g ∨ k ≠ 35) → cB g g n seen delay t y c g' k = c g' k) := by
  obtain ⟨k0, s0, l0⟩ := h
  obtain ⟨-, b2, -⟩ := hB y (Int.le_refl _) (by omega)
  have sy := s0 y (by omega) (by omega)
  rw [if_neg (by omega)] at sy
  have o : f40_1 g y c = w (40 + y) := isOn_c k0.1 k0.2.1 (by omega) (by omega)
  have ob := k0.1 y (by omega) (by omega)
  have ec : cB g g n seen delay t y c = if w (40 + y) = 0 then c else z_upd c g 35 y (w32 (c g 35 y + if w (40 + y) = 0 then 1 else n)) := by
    unfold cB
    simp only [zn_a, zs_a]
    rw [if_pos (show y < 2 by omega), o]
  rw [ec]
  rcases ob with e | e
  · rw [if_pos e]
    refine ⟨⟨k0, fun m m0 m1 => ?_, fun m m0 m1 => ?_⟩, fun _ _ _ => rfl⟩
    · have x := s0 m m0 m1
      by_cases e2 : m = y
      · subst e2
        rw [e, if_neg (by omega)] at sy
        rw [if_pos (by omega), e]
        omega
      · by_cases e3 : m < y
        · rw [if_pos e3] at x
          rw [if_pos (by omega)]
          exact x
        · rw [if_neg e3] at x
          rw [if_neg (by omega)]
          exact x
    · have x := l0 m m0 m1
      by_cases e3 : m < y ∨ m < 2
      · rw [if_pos e3] at x
        rw [if_pos (by omega)]
        exact x
      · rw [if_neg e3] at x
        rw [if_neg (by omega)]
        exact x
  · rw [if_neg (by omega), if_neg (by omega)]
    rw [e, if_pos rfl] at sy
    rw [show c g 35 y + n = w (50 + y) + 1 by omega, w32_id (by omega)]
    have d : ∀ g' k, (g' ≠ g ∨ k ≠ 35) → z_upd c g 35 y (w (50 + y) + 1) g' k = c g' k := fun g' k hk => by
      rcases hk with hk | hk
      · rw [zu_g _ _ _ hk]
      · rw [zu_k _ _ _ hk]
    refine ⟨⟨k0.pt (fun k hk => d g k (by omega)) (fun _ _ _ => rfl), fun m m0 m1 => ?_, fun m m0 m1 => ?_⟩, d⟩
    · have x := s0 m m0 m1
      rw [zu_row]
      by_cases e2 : m = y
      · rw [e2, fu_s, if_pos (by omega), e]
      · rw [fu_i _ _ e2]
        by_cases e3 : m < y
        · rw [if_pos e3] at x
          rw [if_pos (by omega)]
          exact x
        · rw [if_neg e3] at x
          rw [if_neg (by omega)]
          exact x
    · have x := l0 m m0 m1
      rw [d g 36 (by omega)]
      by_cases e3 : m < y ∨ m < 2
      · rw [if_pos e3] at x
        rw [if_pos (by omega)]
        exact x
      · rw [if_neg e3] at x
        rw [if_neg (by omega)]
        exact x
theorem MB.up {y y' : Int} {w : Int → Int} (h : MB y w) (hy : y ≤ y') : MB y' w := fun m m0 m1 => h m (by omega) m1
theorem marks_T {c r : zM} {g : Nat} {j n seen delay t : Int} {so : Int → Int} (h : MI 0 j so (c g) (r 4 45)) (hl : LG (c g) (r 4 45)) (hB : MB 0 (r 4 45)) (hn : n = j + 1) (hj : 0 ≤ j ∧ j ≤ 100000) (ht : t = r 4 45 0) (hd : delay = r 4 45 7) (hd0 : 0 ≤ delay)
    (hso : ∀ m' : zM, (∀ i, (1 ≤ i ∧ i ≤ 9) ∨ (28 ≤ i ∧ i ≤ 31) ∨ (95 ≤ i ∧ i ≤ 286) ∨ (1611 ≤ i ∧ i ≤ 1613) → m' 4 45 i = r 4 45 i) → ∀ y, 2 ≤ y → y < 5 → soR y m' = so y) (hso2 : ∀ y, 2 ≤ y → y < 5 → (so y = 0 ∨ so y = 1) ∧ (if zand (zshr seen y) 1 = 1 then (1 : Int) else 0) = so y) (hq : ∀ y, 2 ≤ y → y < 5 → r 4 45 (40 + y) = 1 → so y = 0 → j = 0) :
    MK (f56_1 g g n seen delay t c g) (f224_1 r 4 45) ∧ LG (f56_1 g g n seen delay t c g) (f224_1 r 4 45) ∧ CM g c (f56_1 g g n seen delay t c) ∧ RM9 r (f224_1 r) ∧ (j ≠ 0 → ∀ m, 0 ≤ m → m < 5 → r 4 45 (40 + m) = 1 → f224_1 r 4 45 (40 + m) = 1) ∧ (∀ m, 0 ≤ m → m < 5 → (r 4 45 (45 + m) ≤ f224_1 r 4 45 (45 + m) ∧ f224_1 r 4 45 (45 + m) ≤ r 4 45 (45 + m) + 1) ∧ f224_1 r 4 45 (50 + m) = r 4 45 (50 + m) + f224_1 r 4 45 (40 + m) ∧ 0 ≤ f224_1 r 4 45 (55 + m) ∧ f224_1 r 4 45 (55 + m) ≤ r 4 45 (55 + m) + 1) := by
  obtain ⟨r', e, r1, r2, r3, e1, e2, e3, e4, e5, e6⟩ := f224_u r
  rw [e, f56_u]
  obtain ⟨a1, a2⟩ := mstep01 (seen := seen) (delay := delay) (t := t) h hB (by omega) hn hj
  obtain ⟨c0, ec0⟩ : ∃ x, x = cB g g n seen delay t 0 c := ⟨_, rfl⟩
  rw [← ec0] at a1 a2 ⊢
  obtain ⟨b1, b2⟩ := mstep01 (seen := seen) (delay := delay) (t := t) a1 (hB.up (by omega)) (by omega) hn hj
  rw [show (0 : Int) + 1 = 1 by decide] at b1 b2
  obtain ⟨c1, ec1⟩ : ∃ x, x = cB g g n seen delay t 1 c0 := ⟨_, rfl⟩
  rw [← ec1] at b1 b2 ⊢
  have f1 : ∀ g' k, (g' ≠ g ∨ k ≠ 35) → c1 g' k = c g' k := fun g' k hk => by rw [b2 g' k hk, a2 g' k hk]
  have l1 : LG (c1 g) (r 4 45) := hl.pt (fun k hk => f1 g k (by omega)) (fun _ _ => rfl)
  rw [hso r (fun _ _ => rfl) 2 (by omega) (by omega)] at e1
  -- 2
  obtain ⟨p1, p2, p3, p4, p5, p6, p7, p8⟩ := mstep (c := c1) (r := r) (g := g) (y := 2) (j := j) (n := n) (seen := seen) (delay := delay) (t := t) (so := so) b1 l1 (hB.up (by omega)) (by omega) hn hj ht hd hd0 (hso2 2 (by omega) (by omega)).1 (hso2 2 (by omega) (by omega)).2 (hq 2 (by omega) (by omega))
  rw [← e1] at p1 p2 p4 p5 p6 p7 p8
  obtain ⟨c2, ec2⟩ : ∃ x, x = cB g g n seen delay t 2 c1 := ⟨_, rfl⟩
  rw [← ec2] at p1 p2 p3 ⊢
  have k1 : ∀ i, (1 ≤ i ∧ i ≤ 9) ∨ (28 ≤ i ∧ i ≤ 31) ∨ (95 ≤ i ∧ i ≤ 286) ∨ (1611 ≤ i ∧ i ≤ 1613) → r1 4 45 i = r 4 45 i := fun i hi => p4.1 i (by omega) (by omega) (by omega)
  rw [hso r1 k1 3 (by omega) (by omega)] at e2
  have B1 : MB 3 (r1 4 45) := fun m m0 m1 => by
    obtain ⟨x1, x2, x3, x4⟩ := p5 m (by omega) m1
    rw [x2, x3, x4]
    exact hB m (by omega) m1
  -- 3
  obtain ⟨s1, s2, s3, s4, s5, s6, s7, s8⟩ := mstep (c := c2) (r := r1) (g := g) (y := 3) (j := j) (n := n) (seen := seen) (delay := delay) (t := t) (so := so) p1 p2 B1 (by omega) hn hj (by rw [p4.1 0 (by omega) (by omega) (by omega)]; exact ht) (by rw [k1 7 (by omega)]; exact hd) hd0 (hso2 3 (by omega) (by omega)).1 (hso2 3 (by omega) (by omega)).2 (by rw [(p5 3 (by omega) (by omega)).1]; exact hq 3 (by omega) (by omega))
  rw [← e2] at s1 s2 s4 s5 s6 s7 s8
  obtain ⟨c3, ec3⟩ : ∃ x, x = cB g g n seen delay t 3 c2 := ⟨_, rfl⟩
  rw [← ec3] at s1 s2 s3 ⊢
  have k2 : ∀ i, (1 ≤ i ∧ i ≤ 9) ∨ (28 ≤ i ∧ i ≤ 31) ∨ (95 ≤ i ∧ i ≤ 286) ∨ (1611 ≤ i ∧ i ≤ 1613) → r2 4 45 i = r 4 45 i := fun i hi => by rw [s4.1 i (by omega) (by omega) (by omega), k1 i hi]
  rw [hso r2 k2 4 (by omega) (by omega)] at e3
  have B2 : MB 4 (r2 4 45) := fun m m0 m1 => by
    obtain ⟨x1, x2, x3, x4⟩ := s5 m (by omega) m1
    rw [x2, x3, x4]
    exact B1 m (by omega) m1
  -- 4
  obtain ⟨u1, u2, u3, u4, u5, u6, u7, u8⟩ := mstep (c := c3) (r := r2) (g := g) (y := 4) (j := j) (n := n) (seen := seen) (delay := delay) (t := t) (so := so) s1 s2 B2 (by omega) hn hj (by rw [s4.1 0 (by omega) (by omega) (by omega), p4.1 0 (by omega) (by omega) (by omega)]; exact ht) (by rw [k2 7 (by omega)]; exact hd) hd0 (hso2 4 (by omega) (by omega)).1 (hso2 4 (by omega) (by omega)).2 (by rw [(s5 4 (by omega) (by omega)).1, (p5 4 (by omega) (by omega)).1]; exact hq 4 (by omega) (by omega))
  rw [← e3] at u1 u2 u4 u5 u6 u7 u8
  obtain ⟨c4, ec4⟩ : ∃ x, x = cB g g n seen delay t 4 c3 := ⟨_, rfl⟩
  rw [← ec4] at u1 u2 u3 ⊢
  obtain ⟨v1, v2, v3⟩ := u1
  have b5 : ∀ m, 0 ≤ m → m < 5 → r' 4 45 (50 + m) = c4 g 35 m := fun m m0 m1 => by
    have x := v2 m m0 m1
    rw [if_pos (by omega)] at x
    have y := v1.1 m m0 m1
    have e50 : r3 4 45 (50 + m) = r 4 45 (50 + m) := by rw [u7 m m0 m1, s7 m m0 m1, p7 m m0 m1]
    have hb := (hB m m0 m1).2.1
    rw [e5 m m0 m1, w64_id (by omega), x]
  refine ⟨⟨v1.1.of (fun i i0 i1 => e6 i (by omega)), ?_, fun m m0 m1 => ?_, fun m m0 m1 => (b5 m m0 m1).symm, fun m m0 m1 => ?_⟩, u2.pt (fun _ _ => rfl) (fun i hi => e6 i (by omega)), fun g' k hk => ?_, ⟨fun i i0 i1 i2 => ?_, fun g' k hk => ?_⟩, fun hj0 m m0 m1 h9 => ?_, fun m m0 m1 => ?_⟩
  · rw [onV_of (fun i i0 i1 => e6 i (by omega))]
    exact v1.2.1
  · rw [e6 _ (by omega)]
    exact v1.2.2 m m0 m1
  · have x := v3 m m0 m1
    rw [if_pos (by omega)] at x
    rw [e6 _ (by omega)]
    exact x.symm
  · rw [u3 g' k hk, s3 g' k hk, p3 g' k hk, f1 g' k (by omega)]
  · rw [e6 i (by omega), u4.1 i i0 i1 i2, s4.1 i i0 i1 i2, p4.1 i i0 i1 i2]
  · rw [e4 g' k hk, u4.2 g' k hk, s4.2 g' k hk, p4.2 g' k hk]
  · rw [e6 _ (by omega)]
    exact u6 hj0 m m0 m1 (s6 hj0 m m0 m1 (p6 hj0 m m0 m1 h9))
  · obtain ⟨x1, x2, x3⟩ := p8 m m0 m1
    obtain ⟨y1, y2, y3⟩ := s8 m m0 m1
    obtain ⟨z1, z2, z3⟩ := u8 m m0 m1
    have h5 := (hB m m0 m1).2.2
    refine ⟨?_, ?_, ?_⟩
    · rw [e6 _ (by omega)]
      repeat' split at x1
      all_goals repeat' split at y1
      all_goals repeat' split at z1
      all_goals omega
    · rw [b5 m m0 m1, e6 (40 + m) (by omega)]
      have x := v2 m m0 m1
      rw [if_pos (by omega)] at x
      rw [x, u7 m m0 m1, s7 m m0 m1, p7 m m0 m1]
    · rw [e6 _ (by omega)]
      by_cases a2 : m = 2
      · rw [z2 (by omega), y2 (by omega)]
        exact x3 a2
      · by_cases a3 : m = 3
        · rw [z2 (by omega)]
          have h := y3 a3
          rw [x2 a2] at h
          exact h
        · by_cases a4 : m = 4
          · have h := z3 a4
            rw [y2 a3, x2 a2] at h
            exact h
          · rw [z2 a4, y2 a3, x2 a2]
            omega
end
section
/-! The last second of a stretch. -/
theorem switch_T {c r : zM} {g : Nat} (h11 : c g 8 11 = r 4 45 11) (h10 : c g 8 10 = r 4 45 10) (h12 : c g 8 12 = r 4 45 12) (h9 : c g 8 9 = r 4 45 0) (hp : c g 8 11 = 0 ∨ c g 8 11 = 1) (hl : LG (c g) (r 4 45)) :
    LG (f53_1 g c g) (f222_1 r 4 45) ∧ f53_1 g c g 8 12 = shO (c g 8 11) (c g 8 10) ∧ f222_1 r 4 45 12 = shO (c g 8 11) (c g 8 10) ∧ (∀ i, i ≠ 12 → f53_1 g c g 8 i = c g 8 i) ∧ (∀ g' k, (g' ≠ g ∨ (k ≠ 8 ∧ k ≠ 37 ∧ k ≠ 38)) → f53_1 g c g' k = c g' k) ∧
    (∀ i, i ≠ 12 → i ≠ 16 → (i < 1487 ∨ 1606 < i) → f222_1 r 4 45 i = r 4 45 i) ∧ (∀ g k, (g ≠ 4 ∨ k ≠ 45) → f222_1 r g k = r g k) ∧ c g 37 1 ≤ f53_1 g c g 37 1 := by
  have ev : (if c g 8 11 = 0 then (0 : Int) else if c g 8 10 ≤ 0 then 1 else 0) = shO (c g 8 11) (c g 8 10) := by
    unfold shO
    rcases hp with e | e
    · rw [if_pos e, if_neg (by omega)]
    · rw [if_neg (by omega), if_pos e]
  have er : (if r 4 45 11 = 1 then (if r 4 45 10 ≤ 0 then (1 : Int) else 0) else 0) = shO (c g 8 11) (c g 8 10) := by
    unfold shO
    rw [h11, h10]
  have hv : shO (c g 8 11) (c g 8 10) = 0 ∨ shO (c g 8 11) (c g 8 10) = 1 := by
    unfold shO
    repeat' split
    all_goals omega
  unfold f53_1 f222_1
  simp only [zn_a, zs_a]
  rw [ev, er]
  generalize shO (c g 8 11) (c g 8 10) = v at hv ⊢
  by_cases e : v = c g 8 12
  · rw [if_pos e, if_pos (show r 4 45 12 = v by omega)]
    exact ⟨hl, e.symm, by omega, fun _ _ => rfl, fun _ _ _ => rfl, fun _ _ _ _ => rfl, fun _ _ _ => rfl, Int.le_refl _⟩
  · rw [if_neg e, if_neg (show ¬ r 4 45 12 = v by omega)]
    have e12 : z_upd c g 8 12 v g 8 12 = v := by rw [zu_row, fu_s]
    have e9 : z_upd c g 8 12 v g 8 9 = c g 8 9 := by rw [zu_row, fu_i _ _ (by decide)]
    have el : (if v = 0 then (23 : Int) else 22) = if v = 1 then 22 else 23 := by
      rcases hv with x | x
      · rw [if_pos x, if_neg (by omega)]
      · rw [if_neg (by omega), if_pos x]
    unfold f54_1
    simp only [zs_a]
    rw [e12, e9, el]
    generalize (if v = 1 then (22 : Int) else 23) = b
    have l1 : LG (z_upd c g 8 12 v g) (z_upd r 4 45 12 v 4 45) := hl.pt (fun k hk => zu_k _ _ _ (by omega)) (fun i hi => by rw [zu_row, fu_i _ _ (by omega)])
    obtain ⟨a1, a2, a3, a4⟩ := log_c (z_upd c g 8 12 v) g (c g 8 9) b 0
    obtain ⟨s1, s2, s3, s4, s5⟩ := log_r (z_upd r 4 45 12 v) b 0 l1.2.1
    refine ⟨l1.log (by rw [zu_row, fu_i _ _ (by decide)]; exact h9), ?_, ?_, fun i hi => ?_, fun g' k hk => ?_, fun i i0 i1 i2 => ?_, fun g' k hk => ?_, ?_⟩
    · rw [a3 g 8 (.inr (by decide)), zu_row, fu_s]
    · rw [s5 12 (by decide) (by decide), zu_row, fu_s]
    · rw [a3 g 8 (.inr (by decide)), zu_row, fu_i _ _ hi]
    · rw [a3 g' k (by omega)]
      rcases hk with hk | hk
      · rw [zu_g _ _ _ hk]
      · rw [zu_k _ _ _ hk.1]
    · rw [s5 i i1 i2, zu_row, fu_i _ _ i0]
    · rw [s4 g' k hk]
      rcases hk with hk | hk
      · rw [zu_g _ _ _ hk]
      · rw [zu_k _ _ _ hk]
    · rw [a1, zu_k _ _ _ (by decide)]
      omega
/-- a block ends by time, or not -/
theorem goes_T {c r : zM} {g : Nat} {B tar : Int} (hg : g < 3) (hc : OM B c) (h16 : ∀ i, 1607 ≤ i ∧ i ≤ 1610 → -9223372036854775808 ≤ r 4 45 i ∧ r 4 45 i ≤ 9223372036854775807) (b8 : 1 ≤ r 4 45 8 ∧ r 4 45 8 ≤ 3600) (b9 : 1 ≤ r 4 45 9 ∧ r 4 45 9 ≤ 6) (b0 : 0 ≤ r 4 45 0 ∧ r 4 45 0 ≤ 2000000000) (hL : LD (c g) (r 4 45)) (hO : OD (c g) (r 4 45)) (hD : DM (c g) (r 4 45)) (hS : ST (c g) (r 4 45)) (h0 : c g 8 9 = r 4 45 0) (hn : 1 ≤ r 4 45 25 + r 4 45 26) (ht : 0 ≤ tar ∧ tar < 4)
    (htar : ∀ m : zM, (∀ i, 287 ≤ i → i ≤ 787 → m 4 45 i = r 4 45 i) → f217_1 (r 4 45 0 - 1) m = tar) (hB : B + 1 ≤ 1000000000) :
    LD (f59_1 g tar c g) ((if r 4 45 0 % r 4 45 8 = 0 then f232_1 0 r else r) 4 45) ∧ OD (f59_1 g tar c g) ((if r 4 45 0 % r 4 45 8 = 0 then f232_1 0 r else r) 4 45) ∧ DM (f59_1 g tar c g) ((if r 4 45 0 % r 4 45 8 = 0 then f232_1 0 r else r) 4 45) ∧
    (∀ g' k, (g' ≠ g ∨ k < 27 ∨ 32 < k) → f59_1 g tar c g' k = c g' k) ∧ (∀ i, (i < 17 ∨ 39 < i) → (i < 788 ∨ 1171 < i) → (i < 1607 ∨ 1610 < i) → (if r 4 45 0 % r 4 45 8 = 0 then f232_1 0 r else r) 4 45 i = r 4 45 i) ∧ (r 4 45 18 = (if r 4 45 0 % r 4 45 8 = 0 then f232_1 0 r else r) 4 45 18) ∧ (∀ i, 28 ≤ i → i ≤ 31 → (if r 4 45 0 % r 4 45 8 = 0 then f232_1 0 r else r) 4 45 i = r 4 45 i) ∧
    (∀ i, 3 ≤ i → i ≤ 8 → f59_1 g tar c g 27 i = 0 ∨ f59_1 g tar c g 27 i = c g 27 i) ∧ (0 ≤ f59_1 g tar c g 27 9 ∧ f59_1 g tar c g 27 9 ≤ 2000000000 ∨ f59_1 g tar c g 27 9 = c g 27 9) := by
  have eb : max 1 (c g 10 4) = r 4 45 8 := by have := hS.2.2.2.2.1; omega
  unfold f59_1
  simp only [zn_a, zs_a]
  rw [eb, h0]
  by_cases hz : r 4 45 0 % r 4 45 8 = 0
  case neg =>
    rw [if_neg hz, if_neg hz]
    exact ⟨hL, hO, hD, fun _ _ _ => rfl, fun _ _ _ _ => rfl, rfl, fun _ _ _ => rfl, fun _ _ _ => .inr rfl, .inr rfl⟩
  rw [if_pos hz, if_pos hz]
  obtain ⟨r1, e1, e2, e3, e4, e5, e6, e7, e8⟩ := ends_T (g := g) (t := r 4 45 0) (blk := r 4 45 8) (told := 0) h16 hL hO rfl rfl (.inl rfl)
  rw [if_neg (by omega), if_pos rfl] at e1
  rw [if_neg (by omega)] at e8
  obtain ⟨c1, ec1⟩ : ∃ x, x = f60_1 g (r 4 45 0) (r 4 45 8) 0 c := ⟨_, rfl⟩
  have hc9 := end_c c g (r 4 45 0) (r 4 45 8) 0 (by have := hL.2.2.2.2; obtain ⟨x3, x4, x5, x6, x7, x8, x9, x10, x11, x12, -⟩ := this; omega) (by have := hL.2.2.2.2; obtain ⟨x3, x4, x5, x6, x7, x8, x9, x10, x11, x12, -⟩ := this; omega)
  rw [← ec1] at e2 e3 e5 hc9 ⊢
  rw [e1]
  have q5 : c1 g 10 5 = r1 4 45 9 := by rw [e5 g 10 (.inr (by decide)), e6 9 (by decide) (by decide) (by decide) (by decide)]; exact hS.2.2.2.2.2.1
  obtain ⟨j1, j2⟩ := q60_1 g (r 4 45 0) (r 4 45 8) 0 hc.1 hc.2 (by omega) hg b0 (by omega) (by omega)
  rw [← ec1] at j1 j2
  have o1 : OM (B + 1) c1 := ⟨j1, j2.jb⟩
  have dm0 : DM (c1 g) (r1 4 45) := by
    obtain ⟨d1, d2, d3, d4⟩ := hD
    refine ⟨by rw [e5 g 30 (.inr (by decide)), e6 19 (by decide) (by decide) (by decide) (by decide)]; exact d1, by rw [e5 g 30 (.inr (by decide)), e6 20 (by decide) (by decide) (by decide) (by decide)]; exact d2, fun t t0 t1 => ?_, fun t t0 t1 => ?_⟩
    · rw [e5 g 31 (.inr (by decide)), e6 _ (by omega) (by omega) (by omega) (by omega)]
      exact d3 t t0 t1
    · rw [e5 g 32 (.inr (by decide)), e6 _ (by omega) (by omega) (by omega) (by omega)]
      exact d4 t t0 t1
  have r10 : r1 4 45 0 = r 4 45 0 := e6 0 (by decide) (by decide) (by decide) (by decide)
  obtain ⟨f1, f2, f3, f4⟩ := dem_T (c := c1) (r := r1) (g := g) (win := c1 g 10 5) (blk := r 4 45 8) (tar := tar) (c64_28 o1 g) (by rw [e6 8 (by decide) (by decide) (by decide) (by decide)]; exact b8) (by rw [e6 9 (by decide) (by decide) (by decide) (by decide)]; exact b9) (by rw [r10]; exact b0) e2 dm0 q5 (e6 8 (by decide) (by decide) (by decide) (by decide)).symm ht (by rw [e8.1]; have := hL.2.1; omega) (by rw [e8.1, r10]; exact e8.2) (fun m hm => by rw [r10]; exact htar m (fun i i0 i1 => by rw [hm i i0 i1, e6 i (by omega) (by omega) (by omega) (by omega)]))
  have w6 : ∀ i, i ≠ 17 → i ≠ 19 → i ≠ 20 → (i < 21 ∨ 27 < i) → (i < 32 ∨ 39 < i) → (i < 788 ∨ 1171 < i) → (i < 1607 ∨ 1610 < i) → f236_1 r1 4 45 i = r 4 45 i := fun i i0 i1 i2 i3 i4 i5 i6 => by rw [f3 i i1 i2 i4, e6 i i0 i3 i5 i6]
  refine ⟨?_, ?_, f1, fun g' k hk => by rw [f2 g' k (by omega), e5 g' k (by omega)], fun i i0 i1 i2 => w6 i (by omega) (by omega) (by omega) (by omega) (by omega) i1 i2, (w6 18 (by decide) (by decide) (by decide) (by decide) (by decide) (by decide) (by decide)).symm, fun i i0 i1 => w6 i (by omega) (by omega) (by omega) (by omega) (by omega) (by omega) (by omega), fun i i0 i1 => ?_, .inl ?_⟩
  · obtain ⟨l1, l2, ⟨l3, l4⟩, l5, l6⟩ := e2
    have e17 : f236_1 r1 4 45 17 = r1 4 45 17 := f3 17 (by decide) (by decide) (by decide)
    have q : ∀ k, (k < 30 ∨ 32 < k) → f64_1 g g (c1 g 10 5) (r 4 45 8) tar c1 g k = c1 g k := fun k hk => f2 g k (by omega)
    refine ⟨by rw [q 27 (by decide), e17]; exact l1, by omega, ⟨fun i i0 i1 k k0 k1 => ?_, fun jj j0 j1 k k0 k1 => ?_⟩, fun k k0 k1 => ?_, ?_⟩
    · rw [e17] at i1 ⊢
      rw [q 28 (by decide), f3 _ (by omega) (by omega) (by omega)]
      exact l3 i i0 i1 k k0 k1
    · rw [e17] at j0
      rw [q 28 (by decide)]
      exact l4 jj j0 j1 k k0 k1
    · rw [q 29 (by decide), f3 _ (by omega) (by omega) (by omega)]
      exact l5 k k0 k1
    · unfold LB
      rw [q 27 (by decide), f3 22 (by decide) (by decide) (by decide), f3 23 (by decide) (by decide) (by decide), f3 24 (by decide) (by decide) (by decide), f3 25 (by decide) (by decide) (by decide), f3 26 (by decide) (by decide) (by decide), f3 27 (by decide) (by decide) (by decide)]
      exact l6
  · unfold OD
    rw [f3 21 (by decide) (by decide) (by decide), e4, f2 g 27 (.inr (by decide)), e3, f3 8 (by decide) (by decide) (by decide), e6 8 (by decide) (by decide) (by decide) (by decide)]
  · rw [f2 g 27 (.inr (by decide))]
    exact .inl (hc9.1 i i0 i1)
  · rw [f2 g 27 (.inr (by decide)), e3]
    exact b0
end
section
/-! A stretch, but for how long it is. -/
noncomputable def cS (g : Nat) (n tar seen : Int) (c : zM) : zM := zs (f49_1 g n tar c) fun m512 => zn (w32 ((m512 g 8 13) + n)) fun z517 => zs (z_upd m512 g 8 13 z517) fun m518 => zs (z_upd m518 g 8 9 ((m518 g 8 9) + (n - 1))) fun m521 => zs (f53_1 g m521) fun m523 => zs (f56_1 g g n seen (m523 g 10 3) (m523 g 8 9) m523) fun m528 => zs (f58_1 g n (m528 g 33 3) m528) fun m532 => zs (if 2000000000 ≤ (m532 g 8 9) then (m532) else (zs (z_upd m532 g 8 9 ((m532 g 8 9) + 1)) fun m537 => m537)) fun m540 => zs (f59_1 g tar m540) fun m544 => m544
theorem f26_k (g : Nat) (a : Int) (c : zM) : f26_1 g a c = (f35_1 g a (f27_1 g (c g 8 9) c) (f34_1 g (c g 10 2) c) c, cS g (f35_1 g a (f27_1 g (c g 8 9) c) (f34_1 g (c g 10 2) c) c) (f27_1 g (c g 8 9) c) (f34_1 g (c g 10 2) c) c) := rfl
/-- what moves is alike on both sides -/
def MV (c : Nat → Int → Int) (w : Int → Int) : Prop := w 0 = c 8 9 ∧ w 13 = c 8 13 ∧ w 14 = c 8 14 ∧ w 15 = c 8 15 ∧ w 10 = c 8 10 ∧ w 11 = c 8 11 ∧ w 12 = c 8 12 ∧ (∀ q t, 0 ≤ q → q < 7 → 0 ≤ t → t < 4 → w (60 + 5 * q + t) = c 24 (q * 4 + t)) ∧ (∀ q, 0 ≤ q → q < 7 → w (60 + 5 * q + 4) = w (60 + 5 * q + 0) + w (60 + 5 * q + 1) + w (60 + 5 * q + 2) + w (60 + 5 * q + 3)) ∧
  MK c w ∧ LG c w ∧ DM c w ∧ LD c w ∧ OD c w
theorem MV.qj {c : Nat → Int → Int} {w : Int → Int} (h : MV c w) (D so : Int → Int) (K tar : Int) : QJ D K 0 tar so c w := by
  obtain ⟨a0, a13, a14, a15, a10, a11, a12, ar, at4, ⟨k1, k2, k3, k4, k5⟩, al, ad, ⟨l1, l2, l3, l4, b3, b4, b5, b6, b7, b8, -⟩, ao⟩ := h
  refine ⟨by omega, by omega, a15, a11, a12, ⟨fun q t q0 q1 t0 t1 => ?_, at4, ?_, ?_, ?_, ?_, ?_⟩, ⟨⟨k1, k2, k3⟩, fun m m0 m1 => ?_, fun m m0 m1 => ?_⟩, al, ad, ⟨l1, l2, l3, l4⟩, by omega, b7.symm, by rw [if_pos rfl]; exact b8.symm, ao⟩
  · rw [ar q t q0 q1 t0 t1, Int.zero_mul]
    split <;> omega
  · rw [Int.zero_mul, Int.add_zero, Int.sub_self, Int.zero_mul]
    omega
  · rw [Int.zero_mul]
    omega
  · rw [Int.zero_mul]
    omega
  · rw [Int.zero_mul]
    omega
  · rw [Int.zero_mul]
    omega
  · rw [if_neg (by omega), k4 m m0 m1]
    split <;> omega
  · have x := k5 m m0 m1
    repeat' split
    all_goals omega
theorem last_blk {t b : Int} (hb : b = 60 ∨ b = 300 ∨ b = 900 ∨ b = 1800 ∨ b = 3600) (ht : t = 2000000000) : t % b ≠ 0 := by
  subst ht
  rcases hb with rfl | rfl | rfl | rfl | rfl <;> decide
theorem sub32 : ∀ a b : Fin 32, (∀ m : Fin 5, a.val / 2 ^ m.val % 2 = 1 → b.val / 2 ^ m.val % 2 = 1) → a.val ||| b.val = b.val := by decide +kernel
/-- marks that stay on make no difference -/
theorem on_sub {x : Int} {w w' : Int → Int} (h : b01 w) (h' : b01 w') (hs : ∀ m, 0 ≤ m → m < 5 → w (40 + m) = 1 → w' (40 + m) = 1) : zorN (zorN x (onV w)) (onV w') = zorN x (onV w') := by
  obtain ⟨a0, a1⟩ := onV_r h
  obtain ⟨b0, b1⟩ := onV_r h'
  have t := sub32 ⟨(onV w).toNat, by omega⟩ ⟨(onV w').toNat, by omega⟩ (fun m => by
    have e1 := bitN h (m := (m.val : Int)) (by omega) (by omega)
    have e2 := bitN h' (m := (m.val : Int)) (by omega) (by omega)
    rw [Int.toNat_natCast] at e1 e2
    dsimp only
    rw [e1, e2]
    intro h9
    have h8 := hs (m.val : Int) (by omega) (by omega) (by have := h (m.val : Int) (by omega) (by omega); omega)
    omega)
  dsimp only at t
  unfold zorN
  rw [Int.toNat_natCast, Nat.or_assoc, t]
end
section
/-! What moves, part by part. -/
def CN (c : Nat → Int → Int) (w : Int → Int) : Prop := w 13 = c 8 13 ∧ w 14 = c 8 14 ∧ w 15 = c 8 15
def CO (c : Nat → Int → Int) (w : Int → Int) : Prop := w 10 = c 8 10 ∧ w 11 = c 8 11 ∧ w 12 = c 8 12
def RG (c : Nat → Int → Int) (w : Int → Int) : Prop := (∀ q t, 0 ≤ q → q < 7 → 0 ≤ t → t < 4 → w (60 + 5 * q + t) = c 24 (q * 4 + t)) ∧ ∀ q, 0 ≤ q → q < 7 → w (60 + 5 * q + 4) = w (60 + 5 * q + 0) + w (60 + 5 * q + 1) + w (60 + 5 * q + 2) + w (60 + 5 * q + 3)
theorem CO.pt {c c' : Nat → Int → Int} {w w' : Int → Int} (h : CO c w) (hc : ∀ i, 10 ≤ i → i ≤ 12 → c' 8 i = c 8 i) (hw : ∀ i, 10 ≤ i → i ≤ 12 → w' i = w i) : CO c' w' := by
  unfold CO
  rw [hc 10 (by omega) (by omega), hc 11 (by omega) (by omega), hc 12 (by omega) (by omega), hw 10 (by omega) (by omega), hw 11 (by omega) (by omega), hw 12 (by omega) (by omega)]
  exact h
theorem RG.pt {c c' : Nat → Int → Int} {w w' : Int → Int} (h : RG c w) (hc : c' 24 = c 24) (hw : ∀ i, 60 ≤ i → i ≤ 94 → w' i = w i) : RG c' w' := by
  refine ⟨fun q t q0 q1 t0 t1 => ?_, fun q q0 q1 => ?_⟩
  · rw [hc, hw _ (by omega) (by omega)]
    exact h.1 q t q0 q1 t0 t1
  · rw [hw _ (by omega) (by omega), hw _ (by omega) (by omega), hw _ (by omega) (by omega), hw _ (by omega) (by omega), hw _ (by omega) (by omega)]
    exact h.2 q q0 q1
theorem MK.pt {c c' : Nat → Int → Int} {w w' : Int → Int} (h : MK c w) (hc : ∀ k, 33 ≤ k → k ≤ 36 → c' k = c k) (hw : ∀ i, 40 ≤ i → i ≤ 59 → w' i = w i) : MK c' w' := by
  obtain ⟨a1, a2, a3, a4, a5⟩ := h
  refine ⟨a1.of (fun i i0 i1 => hw i i0 (by omega)), by rw [hc 33 (by omega) (by omega), onV_of (fun i i0 i1 => hw i i0 (by omega))]; exact a2, fun m m0 m1 => ?_, fun m m0 m1 => ?_, fun m m0 m1 => ?_⟩
  · rw [hc 34 (by omega) (by omega), hw _ (by omega) (by omega)]
    exact a3 m m0 m1
  · rw [hc 35 (by omega) (by omega), hw _ (by omega) (by omega)]
    exact a4 m m0 m1
  · rw [hc 36 (by omega) (by omega), hw _ (by omega) (by omega)]
    exact a5 m m0 m1
theorem DM.pt {c c' : Nat → Int → Int} {w w' : Int → Int} (h : DM c w) (hc : ∀ k, 30 ≤ k → k ≤ 32 → c' k = c k) (hw : ∀ i, i = 19 ∨ i = 20 ∨ (32 ≤ i ∧ i ≤ 39) → w' i = w i) : DM c' w' := by
  obtain ⟨a1, a2, a3, a4⟩ := h
  refine ⟨by rw [hc 30 (by omega) (by omega), hw 19 (by omega)]; exact a1, by rw [hc 30 (by omega) (by omega), hw 20 (by omega)]; exact a2, fun t t0 t1 => ?_, fun t t0 t1 => ?_⟩
  · rw [hc 31 (by omega) (by omega), hw _ (by omega)]
    exact a3 t t0 t1
  · rw [hc 32 (by omega) (by omega), hw _ (by omega)]
    exact a4 t t0 t1
theorem ST.pt {c c' : Nat → Int → Int} {w w' : Int → Int} (h : ST c w) (hc : c' 10 = c 10) (hw : ∀ i, (4 ≤ i ∧ i ≤ 9) ∨ (28 ≤ i ∧ i ≤ 31) ∨ (1611 ≤ i ∧ i ≤ 1613) → w' i = w i) : ST c' w' := by
  unfold ST
  rw [hc, hw 4 (by omega), hw 5 (by omega), hw 6 (by omega), hw 7 (by omega), hw 8 (by omega), hw 9 (by omega), hw 1611 (by omega), hw 1612 (by omega), hw 1613 (by omega)]
  obtain ⟨b0, b1, b2, b3, b4, b5, b6, b7, b8, b9, b10⟩ := h
  exact ⟨b0, b1, b2, b3, b4, b5, fun t t0 t1 => by rw [hw _ (by omega)]; exact b6 t t0 t1, b7, b8, b9, b10⟩
theorem LD.pt {c c' : Nat → Int → Int} {w w' : Int → Int} (h : LD c w) (h27 : ∀ i, 2 ≤ i → i ≤ 8 → c' 27 i = c 27 i) (h28 : c' 28 = c 28) (h29 : c' 29 = c 29) (hw : ∀ i, i = 17 ∨ (22 ≤ i ∧ i ≤ 27) ∨ (788 ≤ i ∧ i ≤ 1171) ∨ (1607 ≤ i ∧ i ≤ 1610) → w' i = w i) : LD c' w' := by
  obtain ⟨a1, a2, ⟨a3, a4⟩, a5, b⟩ := h
  have e17 := hw 17 (by omega)
  refine ⟨by rw [h27 2 (by omega) (by omega), e17]; exact a1, by omega, ⟨fun i i0 i1 k k0 k1 => ?_, fun j j0 j1 k k0 k1 => ?_⟩, fun k k0 k1 => ?_, ?_⟩
  · rw [e17] at i1 ⊢
    rw [h28, hw _ (by omega)]
    exact a3 i i0 i1 k k0 k1
  · rw [e17] at j0
    rw [h28]
    exact a4 j j0 j1 k k0 k1
  · rw [h29, hw _ (by omega)]
    exact a5 k k0 k1
  · unfold LB at b ⊢
    rw [h27 3 (by omega) (by omega), h27 4 (by omega) (by omega), h27 5 (by omega) (by omega), h27 6 (by omega) (by omega), h27 7 (by omega) (by omega), h27 8 (by omega) (by omega), hw 22 (by omega), hw 23 (by omega), hw 24 (by omega), hw 25 (by omega), hw 26 (by omega), hw 27 (by omega)]
    exact b
theorem CBD.pt {A Z : Int} {c c' : Nat → Int → Int} (h : CBD A Z c) (hk : ∀ k, k = 8 ∨ k = 24 ∨ k = 27 ∨ k = 34 ∨ k = 35 ∨ k = 36 → c' k = c k) : CBD A Z c' := by
  unfold CBD
  rw [hk 8 (by omega), hk 24 (by omega), hk 27 (by omega), hk 34 (by omega), hk 35 (by omega), hk 36 (by omega)]
  exact h
/-- all but the time -/
def NUM (c : Nat → Int → Int) (w : Int → Int) : Prop := w 13 = c 8 13 ∧ w 14 = c 8 14 ∧ w 15 = c 8 15 ∧ w 10 = c 8 10 ∧ w 11 = c 8 11 ∧ w 12 = c 8 12 ∧ (∀ q t, 0 ≤ q → q < 7 → 0 ≤ t → t < 4 → w (60 + 5 * q + t) = c 24 (q * 4 + t)) ∧ (∀ q, 0 ≤ q → q < 7 → w (60 + 5 * q + 4) = w (60 + 5 * q + 0) + w (60 + 5 * q + 1) + w (60 + 5 * q + 2) + w (60 + 5 * q + 3)) ∧ MK c w ∧ LG c w ∧ DM c w ∧ LD c w ∧ OD c w
theorem NUM.t {c c' : Nat → Int → Int} {w w' : Int → Int} (h : NUM c w) (hk : ∀ k, k ≠ 8 → c' k = c k) (h8 : ∀ i, i ≠ 9 → c' 8 i = c 8 i) (hw : ∀ i, i ≠ 0 → w' i = w i) : NUM c' w' := by
  obtain ⟨a1, a2, a3, a4, a5, a6, a7, a8, a9, a10, a11, a12, a13⟩ := h
  obtain ⟨g1, g2⟩ := RG.pt (c' := c') (w' := w') ⟨a7, a8⟩ (hk 24 (by omega)) (fun i i0 i1 => hw i (by omega))
  unfold NUM
  rw [hw 13 (by omega), hw 14 (by omega), hw 15 (by omega), hw 10 (by omega), hw 11 (by omega), hw 12 (by omega), h8 13 (by omega), h8 14 (by omega), h8 15 (by omega), h8 10 (by omega), h8 11 (by omega), h8 12 (by omega)]
  refine ⟨a1, a2, a3, a4, a5, a6, g1, g2, a9.pt (fun k k0 k1 => hk k (by omega)) (fun i i0 i1 => hw i (by omega)), a10.pt (fun k k0 => hk k (by omega)) (fun i hi => hw i (by omega)), a11.pt (fun k k0 k1 => hk k (by omega)) (fun i hi => hw i (by omega)), a12.pt (fun i _ _ => by rw [hk 27 (by omega)]) (hk 28 (by omega)) (hk 29 (by omega)) (fun i hi => hw i (by omega)), ?_⟩
  unfold OD
  rw [hw 21 (by omega), hw 8 (by omega), hk 27 (by omega)]
  exact a13
end
