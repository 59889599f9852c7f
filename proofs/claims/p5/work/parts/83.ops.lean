/-! What each call does to what hangs together. -/
theorem Rel2.mk3 {L L' G : List Nat} {B Bc Br B1 : Int} {c c' r r' : zM} (h : Rel2 B c r) (k : J (zQ L G) c Bc c') (k' : J (zQ L' [4]) r Br r') (hb : B ≤ B1) (hm : MR B1 (c' 0) (r' 4 45)) (ha : TA c' r') (hf : FT c' r') (o1 : G.contains 1 = false) (o2 : L.contains 14 = false) (o5 : L'.contains 34 = false) (o9 : ((jp 47).all fun x => !L'.contains x.2.2.1.toNat) = true) (o8 : L'.contains 0 = false) : Rel2 B1 c' r' := by
  have e3 : r' 4 44 3 = r 4 44 3 := jx k' 34 ja44_3 o5
  refine ⟨hm, ?_, fun e => ?_, ha, hf⟩
  · rw [e3, jx k 14 (ja40_0 (by omega)) o2]
    exact h.2.1
  · rw [jy k o1, k'.row 47 o9 o8]
    exact (h.2.2.1 (by rw [← e3]; exact e)).up hb
theorem op_phases {c r : zM} {B a b : Int} (ha : I32 a) (hb : I32 b) (hc : OM B c) (hr : OM B r) (hB : B + 110000 ≤ 1000000000) (h : Rel2 B c r) : (f16_1 a b c).1 = (f202_1 a b r).1 ∧ Rel2 (B + 110000) (f16_1 a b c).2 (f202_1 a b r).2 := by
  obtain ⟨-, k2, -⟩ := q16_1 a b hc.1 hc.2 (by omega) ha hb
  obtain ⟨-, k4, -⟩ := q202_1 a b hr.1 hr.2 (by omega) ha hb
  have hT := phases_T (a := a) (b := b) hc hr (by omega) h.1.2.1 h.1.2.2.1 h.1.2.2.2
  exact ⟨hT.1, h.mk hc k2 k4 (by omega) ⟨(time_fe h.1.1 (FE.j k2 0 11 rfl) (FW.j k4 4 11 rfl)), hT.2.1, (hT.2.2.up (by omega)), (h.1.2.2.2.fe (CB.of hc.2 0) (FE.j k2 0 1 rfl) (FW.j k4 4 1 rfl))⟩ rfl⟩
theorem op_sample {c r : zM} {B a b : Int} (ha : I32 a) (hb : I32 b) (hc : OM B c) (hr : OM B r) (hB : B + 110000 ≤ 1000000000) (h : Rel2 B c r) : (f19_1 a b c).1 = (f205_1 a b r).1 ∧ Rel2 (B + 110000) (f19_1 a b c).2 (f205_1 a b r).2 := by
  obtain ⟨-, k2, -⟩ := q19_1 a b hc.1 hc.2 (by omega) ha hb
  obtain ⟨-, k4, -⟩ := q205_1 a b hr.1 hr.2 (by omega) ha hb
  have hT := sample_T (a := a) (b := b) hc hr (by omega) h.1.1 h.1.2.1
  exact ⟨hT.1, h.mk hc k2 k4 (by omega) ⟨hT.2.1, hT.2.2, ((h.1.2.2.1.fe (FE.j k2 0 4 rfl) (FW.j k4 4 4 rfl)).up (by omega)), (h.1.2.2.2.fe (CB.of hc.2 0) (FE.j k2 0 1 rfl) (FW.j k4 4 1 rfl))⟩ rfl⟩
theorem op_again {c r : zM} {B a : Int} (ha : I32 a) (hc : OM B c) (hr : OM B r) (hB : B + 110000 ≤ 1000000000) (h : Rel2 B c r) : Rel2 (B + 110000) (f69_1 a c).2 (f279_1 a r).2 := by
  obtain ⟨-, k2, -⟩ := q69_1 a hc.1 hc.2 (by omega) ha
  obtain ⟨-, k4, -⟩ := q279_1 a hr.1 hr.2 (by omega) ha
  have hT := again_T (a := a) hc hr (by omega) h.1.1
  exact h.mk hc k2 k4 (by omega) ⟨hT, (h.1.2.1.fe (FE.j k2 0 2 rfl) (FW.j k4 4 2 rfl)), ((h.1.2.2.1.fe (FE.j k2 0 4 rfl) (FW.j k4 4 4 rfl)).up (by omega)), (h.1.2.2.2.fe (CB.of hc.2 0) (FE.j k2 0 1 rfl) (FW.j k4 4 1 rfl))⟩ rfl
theorem op_set {c r : zM} {B a b : Int} (ha : I32 a) (hb : I32 b) (hc : OM B c) (hr : OM B r) (hB : B + 110000 ≤ 1000000000) (h : Rel2 B c r) : Rel2 (B + 110000) (f73_1 a b c).2 (f280_1 a b r).2 := by
  obtain ⟨-, k2, -⟩ := q73_1 a b hc.1 hc.2 (by omega) ha hb
  obtain ⟨-, k4, -⟩ := q280_1 a b hr.1 hr.2 (by omega) ha hb
  have hT := set_S ha hb hc hr (by omega) h.1.2.2.1 h.1.2.2.2
  exact h.mk hc k2 k4 (by omega) ⟨(time_fe h.1.1 (FE.j k2 0 11 rfl) (FW.j k4 4 11 rfl)), (h.1.2.1.fe (FE.j k2 0 2 rfl) (FW.j k4 4 2 rfl)), (hT.up (by omega)), (h.1.2.2.2.fe (CB.of hc.2 0) (FE.j k2 0 1 rfl) (FW.j k4 4 1 rfl))⟩ rfl
theorem op_table {c r : zM} {B a b d : Int} (ha : I32 a) (hb : I32 b) (hd : I32 d) (hc : OM B c) (hr : OM B r) (hB : B + 110000 ≤ 1000000000) (h : Rel2 B c r) : (f78_1 a b d c).1 = (f240_1 a b d r).1 ∧ Rel2 (B + 110000) (f78_1 a b d c).2 (f240_1 a b d r).2 := by
  obtain ⟨-, k2, -⟩ := q78_1 a b d hc.1 hc.2 (by omega) ha hb hd
  obtain ⟨-, k4, -⟩ := q240_1 a b d hr.1 hr.2 (by omega) ha hb hd
  have hT := table_T (a := a) (b := b) (d := d) hc hr (by omega) h.1.2.2.1 h.1.2.2.2
  exact ⟨hT.1, h.mk hc k2 k4 (by omega) ⟨(time_fe h.1.1 (FE.j k2 0 11 rfl) (FW.j k4 4 11 rfl)), (h.1.2.1.fe (FE.j k2 0 2 rfl) (FW.j k4 4 2 rfl)), (hT.2.1.up (by omega)), hT.2.2⟩ rfl⟩
theorem op_wipe {c r : zM} {B a : Int} (ha : I32 a) (hc : OM B c) (hr : OM B r) (hB : B + 110000 ≤ 1000000000) (h : Rel2 B c r) : (f83_1 a c).1 = (f244_1 a r).1 ∧ Rel2 (B + 110000) (f83_1 a c).2 (f244_1 a r).2 := by
  obtain ⟨-, k2, -⟩ := q83_1 a hc.1 hc.2 (by omega) ha
  obtain ⟨-, k4, -⟩ := q244_1 a hr.1 hr.2 (by omega) ha
  have hT := wipe_T (a := a) hc hr (by omega) h.1.2.2.1 h.1.2.2.2
  exact ⟨hT.1, h.mk hc k2 k4 (by omega) ⟨(time_fe h.1.1 (FE.j k2 0 11 rfl) (FW.j k4 4 11 rfl)), (h.1.2.1.fe (FE.j k2 0 2 rfl) (FW.j k4 4 2 rfl)), (hT.2.1.up (by omega)), hT.2.2⟩ rfl⟩
theorem op_seal {c r : zM} {B a : Int} (ha : I32 a) (hc : OM B c) (hr : OM B r) (hB : B + 110000 ≤ 1000000000) (h : Rel2 B c r) : (f114_1 a c).1 = (f276_1 a r).1 ∧ Rel2 (B + 110000) (f114_1 a c).2 (f276_1 a r).2 := by
  obtain ⟨-, k2, -⟩ := q114_1 a hc.1 hc.2 (by omega) ha
  obtain ⟨-, k4, -⟩ := q276_1 a hr.1 hr.2 (by omega) ha
  have hT := seal_T (a := a) hc hr (by omega) h.1.2.2.1
  exact ⟨hT.1, h.mk hc k2 k4 (by omega) ⟨(time_fe h.1.1 (FE.j k2 0 11 rfl) (FW.j k4 4 11 rfl)), (h.1.2.1.fe (FE.j k2 0 2 rfl) (FW.j k4 4 2 rfl)), (hT.2.up (by omega)), (h.1.2.2.2.fe (CB.of hc.2 0) (FE.j k2 0 1 rfl) (FW.j k4 4 1 rfl))⟩ rfl⟩
theorem op_open {c r : zM} {B a : Int} (ha : I32 a) (hc : OM B c) (hr : OM B r) (hB : B + 110000 ≤ 1000000000) (h : Rel2 B c r) : (f116_1 a c).1 = (f277_1 a r).1 ∧ Rel2 (B + 110000) (f116_1 a c).2 (f277_1 a r).2 := by
  obtain ⟨-, k2, -⟩ := q116_1 a hc.1 hc.2 (by omega) ha
  obtain ⟨-, k4, -⟩ := q277_1 a hr.1 hr.2 (by omega) ha
  have hT := open_T (a := a) hc hr (by omega) h.1.1 h.1.2.2.1
  exact ⟨hT.1, h.mk hc k2 k4 (by omega) ⟨(time_fe h.1.1 (FE.j k2 0 11 rfl) (FW.j k4 4 11 rfl)), (h.1.2.1.fe (FE.j k2 0 2 rfl) (FW.j k4 4 2 rfl)), (hT.2.up (by omega)), (h.1.2.2.2.fe (CB.of hc.2 0) (FE.j k2 0 1 rfl) (FW.j k4 4 1 rfl))⟩ rfl⟩
theorem op_season {c r : zM} {B a b : Int} (ha : I32 a) (hb : I32 b) (hc : OM B c) (hr : OM B r) (hB : B + 110000 ≤ 1000000000) (h : Rel2 B c r) : (f122_1 a b c).1 = (f245_1 a b r).1 ∧ Rel2 (B + 110000) (f122_1 a b c).2 (f245_1 a b r).2 := by
  obtain ⟨-, k2, -⟩ := q122_1 a b hc.1 hc.2 (by omega) ha hb
  obtain ⟨-, k4, -⟩ := q245_1 a b hr.1 hr.2 (by omega) ha hb
  have hT := season_T (a := a) (b := b) hc hr (by omega) h.1.2.2.1 h.1.2.2.2
  exact ⟨hT.1, h.mk hc k2 k4 (by omega) ⟨(time_fe h.1.1 (FE.j k2 0 11 rfl) (FW.j k4 4 11 rfl)), (h.1.2.1.fe (FE.j k2 0 2 rfl) (FW.j k4 4 2 rfl)), (hT.2.1.up (by omega)), hT.2.2⟩ rfl⟩
theorem op_week {c r : zM} {B a b d : Int} (ha : I32 a) (hb : I32 b) (hd : I32 d) (hc : OM B c) (hr : OM B r) (hB : B + 110000 ≤ 1000000000) (h : Rel2 B c r) : (f124_1 a b d c).1 = (f247_1 a b d r).1 ∧ Rel2 (B + 110000) (f124_1 a b d c).2 (f247_1 a b d r).2 := by
  obtain ⟨-, k2, -⟩ := q124_1 a b d hc.1 hc.2 (by omega) ha hb hd
  obtain ⟨-, k4, -⟩ := q247_1 a b d hr.1 hr.2 (by omega) ha hb hd
  have hT := week_T (a := a) (b := b) (d := d) hc hr (by omega) h.1.2.2.1 h.1.2.2.2
  exact ⟨hT.1, h.mk hc k2 k4 (by omega) ⟨(time_fe h.1.1 (FE.j k2 0 11 rfl) (FW.j k4 4 11 rfl)), (h.1.2.1.fe (FE.j k2 0 2 rfl) (FW.j k4 4 2 rfl)), (hT.2.1.up (by omega)), hT.2.2⟩ rfl⟩
theorem op_special {c r : zM} {B a b : Int} (ha : I32 a) (hb : I32 b) (hc : OM B c) (hr : OM B r) (hB : B + 110000 ≤ 1000000000) (h : Rel2 B c r) : (f125_1 a b c).1 = (f248_1 a b r).1 ∧ Rel2 (B + 110000) (f125_1 a b c).2 (f248_1 a b r).2 := by
  obtain ⟨-, k2, -⟩ := q125_1 a b hc.1 hc.2 (by omega) ha hb
  obtain ⟨-, k4, -⟩ := q248_1 a b hr.1 hr.2 (by omega) ha hb
  have hT := special_T (a := a) (b := b) hc hr (by omega) h.1.2.2.1 h.1.2.2.2
  exact ⟨hT.1, h.mk hc k2 k4 (by omega) ⟨(time_fe h.1.1 (FE.j k2 0 11 rfl) (FW.j k4 4 11 rfl)), (h.1.2.1.fe (FE.j k2 0 2 rfl) (FW.j k4 4 2 rfl)), (hT.2.1.up (by omega)), hT.2.2⟩ rfl⟩
theorem op_move {c r : zM} {B a : Int} (ha : I32 a) (hc : OM B c) (hr : OM B r) (hB : B + 110000 ≤ 1000000000) (h : Rel2 B c r) : (f127_1 a c).1 = (f281_1 a r).1 ∧ Rel2 (B + 110000) (f127_1 a c).2 (f281_1 a r).2 := by
  obtain ⟨-, k2, -⟩ := q127_1 a hc.1 hc.2 (by omega) ha
  obtain ⟨-, k4, -⟩ := q281_1 a hr.1 hr.2 (by omega) ha
  have hT := move_T (a := a) hc hr (by omega) h.1.1 h.1.2.2.1 h.1.2.2.2
  exact ⟨hT.1, h.mk hc k2 k4 (by omega) ⟨hT.2.1, (h.1.2.1.fe (FE.j k2 0 2 rfl) (FW.j k4 4 2 rfl)), (hT.2.2.up (by omega)), (h.1.2.2.2.fe (CB.of hc.2 0) (FE.j k2 0 1 rfl) (FW.j k4 4 1 rfl))⟩ rfl⟩
theorem op_off {c r : zM} {B a : Int} (ha : I32 a) (hc : OM B c) (hr : OM B r) (hB : B + 110000 ≤ 1000000000) (h : Rel2 B c r) : (f130_1 a c).1 = (f282_1 a r).1 ∧ Rel2 (B + 110000) (f130_1 a c).2 (f282_1 a r).2 := by
  obtain ⟨-, k2, -⟩ := q130_1 a hc.1 hc.2 (by omega) ha
  obtain ⟨-, k4, -⟩ := q282_1 a hr.1 hr.2 (by omega) ha
  have hT := off_T (a := a) hc hr (by omega) h.1.1 h.1.2.1
  exact ⟨hT.1, h.mk hc k2 k4 (by omega) ⟨hT.2.1, hT.2.2, ((h.1.2.2.1.fe (FE.j k2 0 4 rfl) (FW.j k4 4 4 rfl)).up (by omega)), (h.1.2.2.2.fe (CB.of hc.2 0) (FE.j k2 0 1 rfl) (FW.j k4 4 1 rfl))⟩ rfl⟩
theorem op_mark {c r : zM} {B a b : Int} (ha : I32 a) (hb : 0 ≤ b ∧ b ≤ 1) (hc : OM B c) (hr : OM B r) (hB : B + 110000 ≤ 1000000000) (h : Rel2 B c r) : Rel2 (B + 110000) (f134_1 a b c).2 (f283_1 a b r).2 := by
  obtain ⟨-, k2, -⟩ := q134_1 a b hc.1 hc.2 (by omega) ha hb
  obtain ⟨-, k4, -⟩ := q283_1 a b hr.1 hr.2 (by omega) ha hb
  exact h.mk hc k2 k4 (by omega) ⟨(time_fe h.1.1 (FE.j k2 0 11 rfl) (FW.j k4 4 11 rfl)), (h.1.2.1.fe (FE.j k2 0 2 rfl) (FW.j k4 4 2 rfl)), ((h.1.2.2.1.fe (FE.j k2 0 4 rfl) (FW.j k4 4 4 rfl)).up (by omega)), (h.1.2.2.2.fe (CB.of hc.2 0) (FE.j k2 0 1 rfl) (FW.j k4 4 1 rfl))⟩ rfl
theorem op_prepaid {c r : zM} {B a : Int} (ha : 0 ≤ a ∧ a ≤ 1) (hc : OM B c) (hr : OM B r) (hB : B + 110000 ≤ 1000000000) (h : Rel2 B c r) : Rel2 (B + 110000) (f135_1 a c).2 (f284_1 a r).2 := by
  obtain ⟨-, k2, -⟩ := q135_1 a hc.1 hc.2 (by omega) ha
  obtain ⟨-, k4, -⟩ := q284_1 a hr.1 hr.2 (by omega) ha
  exact h.mk hc k2 k4 (by omega) ⟨(time_fe h.1.1 (FE.j k2 0 11 rfl) (FW.j k4 4 11 rfl)), (h.1.2.1.fe (FE.j k2 0 2 rfl) (FW.j k4 4 2 rfl)), ((h.1.2.2.1.fe (FE.j k2 0 4 rfl) (FW.j k4 4 4 rfl)).up (by omega)), (h.1.2.2.2.fe (CB.of hc.2 0) (FE.j k2 0 1 rfl) (FW.j k4 4 1 rfl))⟩ rfl
theorem op_pay {c r : zM} {B a : Int} (ha : I32 a) (hc : OM B c) (hr : OM B r) (hB : B + 110000 ≤ 1000000000) (h : Rel2 B c r) : Rel2 (B + 110000) (f136_1 a c).2 (f285_1 a r).2 := by
  obtain ⟨-, k2, -⟩ := q136_1 a hc.1 hc.2 (by omega) ha
  obtain ⟨-, k4, -⟩ := q285_1 a hr.1 hr.2 (by omega) ha
  exact h.mk hc k2 k4 (by omega) ⟨(time_fe h.1.1 (FE.j k2 0 11 rfl) (FW.j k4 4 11 rfl)), (h.1.2.1.fe (FE.j k2 0 2 rfl) (FW.j k4 4 2 rfl)), ((h.1.2.2.1.fe (FE.j k2 0 4 rfl) (FW.j k4 4 4 rfl)).up (by omega)), (h.1.2.2.2.fe (CB.of hc.2 0) (FE.j k2 0 1 rfl) (FW.j k4 4 1 rfl))⟩ rfl
theorem op_bill {c r : zM} {B : Int} (hc : OM B c) (hr : OM B r) (hB : B + 110000 ≤ 1000000000) (h : Rel2 B c r) : Rel2 (B + 110000) (f137_1 c).2 (f286_1 r).2 := by
  obtain ⟨-, k2, -⟩ := q137_1 hc.1 hc.2 (by omega)
  obtain ⟨-, k4, -⟩ := q286_1 hr.1 hr.2 (by omega)
  exact h.mk hc k2 k4 (by omega) ⟨(time_fe h.1.1 (FE.j k2 0 11 rfl) (FW.j k4 4 11 rfl)), (h.1.2.1.fe (FE.j k2 0 2 rfl) (FW.j k4 4 2 rfl)), ((h.1.2.2.1.fe (FE.j k2 0 4 rfl) (FW.j k4 4 4 rfl)).up (by omega)), (h.1.2.2.2.fe (CB.of hc.2 0) (FE.j k2 0 1 rfl) (FW.j k4 4 1 rfl))⟩ rfl
theorem op_feed {c r : zM} {B a b d e f : Int} (ha : I32 a) (hb : I32 b) (hd : I32 d) (he : I32 e) (hf : I32 f) (hc : OM B c) (hr : OM B r) (hB : B + 110000 ≤ 1000000000) (h : Rel2 B c r) : (f85_1 a b d e f c).1 = (f256_1 a b d e f r).1 ∧ Rel2 (B + 110000) (f85_1 a b d e f c).2 (f256_1 a b d e f r).2 := by
  obtain ⟨-, k2, -⟩ := q85_1 a b d e f hc.1 hc.2 (by omega) ha hb hd he hf
  obtain ⟨-, k4, -⟩ := q256_1 a b d e f hr.1 hr.2 (by omega) ha hb hd he hf
  have hT := feed_T (a := a) (b := b) (d := d) (e := e) (f := f) hc h.2.2.2.1
  exact ⟨hT.1, h.mk3 k2 k4 (by omega) ⟨(time_fe h.1.1 (FE.j k2 0 11 rfl) (FW.j k4 4 11 rfl)), (h.1.2.1.fe (FE.j k2 0 2 rfl) (FW.j k4 4 2 rfl)), ((h.1.2.2.1.fe (FE.j k2 0 4 rfl) (FW.j k4 4 4 rfl)).up (by omega)), (h.1.2.2.2.fe (CB.of hc.2 0) (FE.j k2 0 1 rfl) (FW.j k4 4 1 rfl))⟩ hT.2 (h.2.2.2.2.fe k2 k4 rfl rfl) rfl rfl rfl rfl rfl⟩
theorem op_end {c r : zM} {B a : Int} (ha : I32 a) (hc : OM B c) (hr : OM B r) (hB : B + 110000 ≤ 1000000000) (h : Rel2 B c r) : (f88_1 a c).1 = (f258_1 a r).1 ∧ Rel2 (B + 110000) (f88_1 a c).2 (f258_1 a r).2 := by
  obtain ⟨-, k2, -⟩ := q88_1 a hc.1 hc.2 (by omega) ha
  obtain ⟨-, k4, -⟩ := q258_1 a hr.1 hr.2 (by omega) ha
  have hT := end_T (a := a) h.2.2.2.1
  exact ⟨hT.1, h.mk3 k2 k4 (by omega) ⟨(time_fe h.1.1 (FE.j k2 0 11 rfl) (FW.j k4 4 11 rfl)), (h.1.2.1.fe (FE.j k2 0 2 rfl) (FW.j k4 4 2 rfl)), ((h.1.2.2.1.fe (FE.j k2 0 4 rfl) (FW.j k4 4 4 rfl)).up (by omega)), (h.1.2.2.2.fe (CB.of hc.2 0) (FE.j k2 0 1 rfl) (FW.j k4 4 1 rfl))⟩ hT.2 (h.2.2.2.2.fe k2 k4 rfl rfl) rfl rfl rfl rfl rfl⟩
theorem op_calendar {c r : zM} {B : Int} (hc : OM B c) (hr : OM B r) (hB : B + 110000 ≤ 1000000000) (h : Rel2 B c r) : (f90_1 c).1 = (f260_1 r).1 ∧ Rel2 (B + 110000) (f90_1 c).2 (f260_1 r).2 := by
  obtain ⟨-, k2, -⟩ := q90_1 hc.1 hc.2 (by omega)
  obtain ⟨-, k4, -⟩ := q260_1 hr.1 hr.2 (by omega)
  obtain ⟨g1, g2, g3, g4, g5, -, g7, -, g9⟩ := calendar_T hc hr (by omega) h.1.2.2.1 h.1.2.2.2 h.2.2.2.1
  refine ⟨g1, h.mk3 k2 k4 (by omega) ⟨?_, ?_, g2.up (by omega), g3⟩ g4 g5 rfl rfl rfl rfl rfl⟩
  · rw [g7 8 9 (by omega) (by omega), g9 0 (by omega) (by omega) (by omega) (by omega)]
    exact h.1.1
  · unfold R2
    rw [g7 19 3 (by omega) (by omega), g7 19 4 (by omega) (by omega), g7 19 5 (by omega) (by omega), g9 1 (by omega) (by omega) (by omega) (by omega), g9 2 (by omega) (by omega) (by omega) (by omega), g9 3 (by omega) (by omega) (by omega) (by omega)]
    exact h.1.2.1
theorem op_would {c r : zM} {B a b : Int} (ha : I32 a) (hb : I32 b) (hc : OM B c) (hr : OM B r) (hB : B + 110000 ≤ 1000000000) (h : Rel2 B c r) : Rel2 (B + 110000) (f170_1 a b c).2 (f302_1 a b r).2 := by
  obtain ⟨-, k2, -⟩ := q170_1 a b hc.1 hc.2 (by omega) ha hb
  obtain ⟨-, k4, -⟩ := q302_1 a b hr.1 hr.2 (by omega) ha hb
  exact h.mk hc k2 k4 (by omega) ((h.1.all (CB.of hc.2 0) (fun n => FE.g k2 0 n rfl) (would_w (a := a) (b := b) hr (by omega))).up (by omega)) rfl
theorem op_lasts {c r : zM} {B : Int} (hc : OM B c) (hr : OM B r) (hB : B + 110000 ≤ 1000000000) (h : Rel2 B c r) : Rel2 (B + 110000) (f184_1 c).2 (f309_1 r).2 := by
  obtain ⟨-, k2, -⟩ := q184_1 hc.1 hc.2 (by omega)
  obtain ⟨-, k4, -⟩ := q309_1 hr.1 hr.2 (by omega)
  exact h.mk hc k2 k4 (by omega) ((h.1.all (CB.of hc.2 0) (fun n => FE.g k2 0 n rfl) (lasts_w hr (by omega))).up (by omega)) rfl
theorem op_image {c r : zM} {B a : Int} (ha : 0 ≤ a ∧ a ≤ 1) (hc : OM B c) (hr : OM B r) (hB : B + 110000 ≤ 1000000000) (h : Rel2 B c r) : (f195_1 a c).1 = (f314_1 a r).1 ∧ Rel2 (B + 110000) (f195_1 a c).2 (f314_1 a r).2 := by
  have hf : 0 ≤ c 4 40 4 ∧ c 4 40 4 ≤ 1 := r40_4 hc.2.o 4
  obtain ⟨h1, h2, h3, h4, h5⟩ := id h
  unfold f195_1 f314_1
  simp only [zs_a]
  by_cases h0 : a = 0
  · rw [if_pos h0, if_pos h0]
    by_cases h6 : c 4 40 4 = 0
    · rw [if_pos h6, if_pos (by omega)]
      exact ⟨h6, h.up (by omega)⟩
    · rw [if_neg h6, if_neg (by omega)]
      have hq := f171_1_c (show 0 ≠ 1 by decide) c
      have e4 : f171_1 0 1 c 4 = c 4 := hq.1 4 (by decide)
      have e1 : f171_1 0 1 c 1 = c 1 := hq.1 1 (by decide)
      have w3 : z_upd (z_cpy r 4 45 4 47 0 0 1619) 4 44 3 1 4 44 3 = 1 := by rw [zu_row, fu_s]
      have w47 : z_upd (z_cpy r 4 45 4 47 0 0 1619) 4 44 3 1 4 47 = r 4 47 := by rw [zu_k _ _ _ (by decide), cpy_k _ (.inr (by decide))]
      have w48 : z_upd (z_cpy r 4 45 4 47 0 0 1619) 4 44 3 1 4 48 = r 4 48 := by rw [zu_k _ _ _ (by decide), cpy_k _ (.inr (by decide))]
      have w44 : ∀ i, i ≠ 3 → z_upd (z_cpy r 4 45 4 47 0 0 1619) 4 44 3 1 4 44 i = r 4 44 i := fun i hi => by rw [zu_row, fu_i _ _ hi, cpy_k _ (.inr (by decide))]
      refine ⟨?_, ?_, ?_, fun _ => ?_, ?_, ?_⟩
      · try dsimp only
        rw [e4]
        omega
      · refine ((h3 (by omega)).all (CB.of hc.2 1) (fun n => copy_FE (show 0 ≠ 1 by decide) c n) (fun i i0 i1 => ?_)).up (by omega)
        try dsimp only
        rw [zu_k _ _ _ (by decide), cpy_in _ (by omega), show i - 0 + 0 = i by omega]
      · try dsimp only
        rw [e4, w3]
        omega
      · try dsimp only
        rw [e1, w47]
        exact (h3 (by omega)).up (by omega)
      · unfold TA
        try dsimp only
        rw [e4, w48, w44 5 (by decide)]
        exact h4
      · unfold FT
        try dsimp only
        rw [e4, w44 6 (by decide), w44 7 (by decide)]
        exact h5
  · rw [if_neg h0, if_neg h0]
    have hq := f171_1_c (show 1 ≠ 0 by decide) c
    have e4 : f171_1 1 0 c 4 = c 4 := hq.1 4 (by decide)
    have e0 : f171_1 1 0 c 0 = c 0 := hq.1 0 (by decide)
    have x4 : ∀ k i, k ≠ 40 → z_upd (f171_1 1 0 c) 4 40 4 1 4 k i = c 4 k i := fun k i hk => by rw [zu_k _ _ _ hk, e4]
    have xg : ∀ g, g ≠ 4 → z_upd (f171_1 1 0 c) 4 40 4 1 g = f171_1 1 0 c g := fun g hg => zu_g _ _ _ hg
    have w45 : z_upd (z_cpy r 4 47 4 45 0 0 1619) 4 44 3 1 4 45 = r 4 45 := by rw [zu_k _ _ _ (by decide), cpy_k _ (.inr (by decide))]
    have w48 : z_upd (z_cpy r 4 47 4 45 0 0 1619) 4 44 3 1 4 48 = r 4 48 := by rw [zu_k _ _ _ (by decide), cpy_k _ (.inr (by decide))]
    have w44 : ∀ i, i ≠ 3 → z_upd (z_cpy r 4 47 4 45 0 0 1619) 4 44 3 1 4 44 i = r 4 44 i := fun i hi => by rw [zu_row, fu_i _ _ hi, cpy_k _ (.inr (by decide))]
    refine ⟨?_, ?_, ?_, fun _ => ?_, ?_, ?_⟩
    · try dsimp only
      rw [zu_row, fu_s]
    · try dsimp only
      rw [xg 0 (by decide), e0, w45]
      exact h1.up (by omega)
    · try dsimp only
      rw [zu_row, fu_s, zu_row, fu_s]
    · try dsimp only
      rw [xg 1 (by decide)]
      refine (h1.all (CB.of hc.2 0) (fun n => copy_FE (show 1 ≠ 0 by decide) c n) (fun i i0 i1 => ?_)).up (by omega)
      rw [zu_k _ _ _ (by decide), cpy_in _ (by omega), show i - 0 + 0 = i by omega]
    · unfold TA
      try dsimp only
      rw [x4 41 3 (by decide), w48, w44 5 (by decide)]
      refine ⟨h4.1, fun i i0 i1 => ?_⟩
      rw [x4 42 i (by decide)]
      exact h4.2 i i0 i1
    · unfold FT
      try dsimp only
      rw [x4 41 4 (by decide), x4 41 5 (by decide), w44 6 (by decide), w44 7 (by decide)]
      exact h5
theorem an_fault {c r : zM} {B a : Int} (_hc : OM B c) (_hB : B ≤ 1000000000) (h : Rel2 B c r) : f113_1 a c = f259_1 a r := fault_T h.2.2.2.2
theorem an_tariffAt {c r : zM} {B a : Int} (hc : OM B c) (_hB : B ≤ 1000000000) (h : Rel2 B c r) : f148_1 a c = f250_1 a r := by
  unfold f148_1 f250_1
  by_cases h0 : a < 0
  · rw [if_pos h0, if_pos h0]
  rw [if_neg h0, if_neg h0]
  by_cases h1 : 2000000000 < a
  · rw [if_pos h1, if_neg (by omega)]
  · rw [if_neg h1, if_pos (by omega), zn_a, zn_a]
    exact tf_eq h.1.2.2.2 (CB.of hc.2 0) (by omega)
theorem an_tableOf {c r : zM} {B a : Int} (hc : OM B c) (_hB : B ≤ 1000000000) (h : Rel2 B c r) : f149_1 a c = f251_1 a r := by
  unfold f149_1 f251_1
  by_cases h0 : a < 0
  · rw [if_pos h0, if_pos h0]
  rw [if_neg h0, if_neg h0]
  by_cases h1 : 23148 < a
  · rw [if_pos h1, if_neg (by omega)]
  · rw [if_neg h1, if_pos (by omega), zn_a, zn_a]
    exact (tb_eq h.1.2.2.2 (CB.of hc.2 0) (by omega)).1
theorem an_switching {c r : zM} {B a b d : Int} (hc : OM B c) (_hB : B ≤ 1000000000) (h : Rel2 B c r) : f151_1 a b d c = f252_1 a b d r := by
  unfold f151_1 f252_1
  obtain ⟨t1, t2, -⟩ := h.1.2.2.2.1
  by_cases h0 : a < 0
  · rw [if_pos h0, if_pos h0]
  rw [if_neg h0, if_neg h0]
  by_cases h1 : 8 ≤ a
  · rw [if_pos h1, if_neg (show ¬ a ≤ 7 by omega)]
  rw [if_neg h1, if_pos (show a ≤ 7 by omega), ← t1 a (by omega) (by omega)]
  by_cases h2 : b = -1
  · rw [if_pos h2, if_pos h2]
  rw [if_neg h2, if_neg h2]
  by_cases h3 : b < 0
  · rw [if_pos h3, if_pos h3]
  rw [if_neg h3, if_neg h3]
  by_cases h4 : c 0 12 a ≤ b
  · rw [if_pos h4, if_neg (show ¬ b ≤ c 0 12 a - 1 by omega)]
  rw [if_neg h4, if_pos (show b ≤ c 0 12 a - 1 by omega)]
  by_cases h5 : d < 0
  · rw [if_pos h5, if_pos h5]
  rw [if_neg h5, if_neg h5]
  by_cases h6 : d ≤ 1
  case neg => rw [if_neg h6, if_neg h6]
  rw [if_pos h6, if_pos h6, zn_a]
  obtain ⟨u1, u2⟩ := t2 a b (by omega) (by omega) (by omega) (by omega)
  by_cases h7 : d = 0
  · rw [if_pos h7, if_pos h7, u1]
  · rw [if_neg h7, if_neg h7, u2]
theorem an_next {c r : zM} {B a : Int} (hc : OM B c) (hB : B ≤ 1000000000) (h : Rel2 B c r) : f152_1 a c = f254_1 a r := by
  have tc := hc.t 0
  have e := next_eq h.1.2.2.2 (CB.of hc.2 0) tc.1 tc.2 h.1.1.symm
  have hv := q153_1 0 (c 0 8 9) hc.1 hc.2 (by omega) (by omega) tc
  unfold f152_1 f254_1
  simp only [zn_a]
  rw [← e]
  generalize f153_1 0 (c 0 8 9) c = v at hv ⊢
  by_cases h0 : v = -1
  · rw [if_pos h0, if_pos h0]
    repeat' split
    all_goals first | rfl | omega
  · rw [if_neg h0, if_neg h0, tf_eq h.1.2.2.2 (CB.of hc.2 0) (by omega)]
    repeat' split
    all_goals first | rfl | omega
theorem an_holds {c r : zM} {B a b : Int} (hc : OM B c) (_hB : B ≤ 1000000000) (h : Rel2 B c r) : f193_1 a b c = f253_1 a b r := by
  unfold f193_1 f253_1
  by_cases h0 : a < 0
  · rw [if_pos h0, if_pos h0]
  rw [if_neg h0, if_neg h0]
  by_cases h1 : 23148 < a
  · rw [if_pos h1, if_neg (show ¬ a ≤ 23148 by omega)]
  rw [if_neg h1, if_pos (show a ≤ 23148 by omega)]
  by_cases h2 : b < 0
  · rw [if_pos h2, if_pos h2]
  rw [if_neg h2, if_neg h2]
  by_cases h3 : 4 ≤ b
  · rw [if_pos h3, if_neg (show ¬ b ≤ 3 by omega)]
  rw [if_neg h3, if_pos (show b ≤ 3 by omega)]
  simp only [zn_a]
  obtain ⟨e1, e2, e3⟩ := tb_eq h.1.2.2.2 (CB.of hc.2 0) (d := a) (by omega)
  rw [e1]
  exact held_eq h.1.2.2.2 (CB.of hc.2 0) e2 e3
theorem st_phases {m m1 m2 : zM} {B a b v w : Int} (ha : -2147483648 ≤ a ∧ a ≤ 2147483647) (hb : -2147483648 ≤ b ∧ b ≤ 2147483647) (hk : z_mok lL m) (hJ : JB B m) (hB : B + 220000 ≤ 1000000000) (h : Rel2 B m m) (e1 : f16_1 a b m = (v, m1)) (e2 : f202_1 a b m1 = (w, m2)) : v = w ∧ Rel2 (B + 220000) m2 m2 := by
  obtain ⟨k1, k2, -⟩ := q16_1 a b hk hJ (by omega) ha hb
  rw [e1] at k1 k2
  try dsimp only at k1 k2
  have o0 : OM (B + 110000) m := ⟨hk, hJ.up (by omega)⟩
  have o1 : OM (B + 110000) m1 := ⟨k1, k2.jb.up (by omega)⟩
  obtain ⟨-, k4, -⟩ := q202_1 a b o1.1 o1.2 (by omega) ha hb
  rw [e2] at k4
  try dsimp only at k4
  have g := op_phases ha hb o0 o1 (by omega) ((h.rj k2 rfl rfl).up (show B ≤ B + 110000 by omega))
  rw [e1, e2] at g
  try dsimp only at g
  exact ⟨g.1, (g.2.cj k4 rfl rfl).up (by omega)⟩
theorem st_sample {m m1 m2 : zM} {B a b v w : Int} (ha : -2147483648 ≤ a ∧ a ≤ 2147483647) (hb : -2147483648 ≤ b ∧ b ≤ 2147483647) (hk : z_mok lL m) (hJ : JB B m) (hB : B + 220000 ≤ 1000000000) (h : Rel2 B m m) (e1 : f19_1 a b m = (v, m1)) (e2 : f205_1 a b m1 = (w, m2)) : v = w ∧ Rel2 (B + 220000) m2 m2 := by
  obtain ⟨k1, k2, -⟩ := q19_1 a b hk hJ (by omega) ha hb
  rw [e1] at k1 k2
  try dsimp only at k1 k2
  have o0 : OM (B + 110000) m := ⟨hk, hJ.up (by omega)⟩
  have o1 : OM (B + 110000) m1 := ⟨k1, k2.jb.up (by omega)⟩
  obtain ⟨-, k4, -⟩ := q205_1 a b o1.1 o1.2 (by omega) ha hb
  rw [e2] at k4
  try dsimp only at k4
  have g := op_sample ha hb o0 o1 (by omega) ((h.rj k2 rfl rfl).up (show B ≤ B + 110000 by omega))
  rw [e1, e2] at g
  try dsimp only at g
  exact ⟨g.1, (g.2.cj k4 rfl rfl).up (by omega)⟩
theorem st_again {m m1 m2 : zM} {B a v w : Int} (ha : -2147483648 ≤ a ∧ a ≤ 2147483647) (hk : z_mok lL m) (hJ : JB B m) (hB : B + 220000 ≤ 1000000000) (h : Rel2 B m m) (e1 : f69_1 a m = (v, m1)) (e2 : f279_1 a m1 = (w, m2)) : Rel2 (B + 220000) m2 m2 := by
  obtain ⟨k1, k2, -⟩ := q69_1 a hk hJ (by omega) ha
  rw [e1] at k1 k2
  try dsimp only at k1 k2
  have o0 : OM (B + 110000) m := ⟨hk, hJ.up (by omega)⟩
  have o1 : OM (B + 110000) m1 := ⟨k1, k2.jb.up (by omega)⟩
  obtain ⟨-, k4, -⟩ := q279_1 a o1.1 o1.2 (by omega) ha
  rw [e2] at k4
  try dsimp only at k4
  have g := op_again ha o0 o1 (by omega) ((h.rj k2 rfl rfl).up (show B ≤ B + 110000 by omega))
  rw [e1, e2] at g
  try dsimp only at g
  exact (g.cj k4 rfl rfl).up (by omega)
theorem st_set {m m1 m2 : zM} {B a b v w : Int} (ha : -2147483648 ≤ a ∧ a ≤ 2147483647) (hb : -2147483648 ≤ b ∧ b ≤ 2147483647) (hk : z_mok lL m) (hJ : JB B m) (hB : B + 220000 ≤ 1000000000) (h : Rel2 B m m) (e1 : f73_1 a b m = (v, m1)) (e2 : f280_1 a b m1 = (w, m2)) : Rel2 (B + 220000) m2 m2 := by
  obtain ⟨k1, k2, -⟩ := q73_1 a b hk hJ (by omega) ha hb
  rw [e1] at k1 k2
  try dsimp only at k1 k2
  have o0 : OM (B + 110000) m := ⟨hk, hJ.up (by omega)⟩
  have o1 : OM (B + 110000) m1 := ⟨k1, k2.jb.up (by omega)⟩
  obtain ⟨-, k4, -⟩ := q280_1 a b o1.1 o1.2 (by omega) ha hb
  rw [e2] at k4
  try dsimp only at k4
  have g := op_set ha hb o0 o1 (by omega) ((h.rj k2 rfl rfl).up (show B ≤ B + 110000 by omega))
  rw [e1, e2] at g
  try dsimp only at g
  exact (g.cj k4 rfl rfl).up (by omega)
theorem st_table {m m1 m2 : zM} {B a b d v w : Int} (ha : -2147483648 ≤ a ∧ a ≤ 2147483647) (hb : -2147483648 ≤ b ∧ b ≤ 2147483647) (hd : -2147483648 ≤ d ∧ d ≤ 2147483647) (hk : z_mok lL m) (hJ : JB B m) (hB : B + 220000 ≤ 1000000000) (h : Rel2 B m m) (e1 : f78_1 a b d m = (v, m1)) (e2 : f240_1 a b d m1 = (w, m2)) : v = w ∧ Rel2 (B + 220000) m2 m2 := by
  obtain ⟨k1, k2, -⟩ := q78_1 a b d hk hJ (by omega) ha hb hd
  rw [e1] at k1 k2
  try dsimp only at k1 k2
  have o0 : OM (B + 110000) m := ⟨hk, hJ.up (by omega)⟩
  have o1 : OM (B + 110000) m1 := ⟨k1, k2.jb.up (by omega)⟩
  obtain ⟨-, k4, -⟩ := q240_1 a b d o1.1 o1.2 (by omega) ha hb hd
  rw [e2] at k4
  try dsimp only at k4
  have g := op_table ha hb hd o0 o1 (by omega) ((h.rj k2 rfl rfl).up (show B ≤ B + 110000 by omega))
  rw [e1, e2] at g
  try dsimp only at g
  exact ⟨g.1, (g.2.cj k4 rfl rfl).up (by omega)⟩
theorem st_wipe {m m1 m2 : zM} {B a v w : Int} (ha : -2147483648 ≤ a ∧ a ≤ 2147483647) (hk : z_mok lL m) (hJ : JB B m) (hB : B + 220000 ≤ 1000000000) (h : Rel2 B m m) (e1 : f83_1 a m = (v, m1)) (e2 : f244_1 a m1 = (w, m2)) : v = w ∧ Rel2 (B + 220000) m2 m2 := by
  obtain ⟨k1, k2, -⟩ := q83_1 a hk hJ (by omega) ha
  rw [e1] at k1 k2
  try dsimp only at k1 k2
  have o0 : OM (B + 110000) m := ⟨hk, hJ.up (by omega)⟩
  have o1 : OM (B + 110000) m1 := ⟨k1, k2.jb.up (by omega)⟩
  obtain ⟨-, k4, -⟩ := q244_1 a o1.1 o1.2 (by omega) ha
  rw [e2] at k4
  try dsimp only at k4
  have g := op_wipe ha o0 o1 (by omega) ((h.rj k2 rfl rfl).up (show B ≤ B + 110000 by omega))
  rw [e1, e2] at g
  try dsimp only at g
  exact ⟨g.1, (g.2.cj k4 rfl rfl).up (by omega)⟩
theorem st_seal {m m1 m2 : zM} {B a v w : Int} (ha : -2147483648 ≤ a ∧ a ≤ 2147483647) (hk : z_mok lL m) (hJ : JB B m) (hB : B + 220000 ≤ 1000000000) (h : Rel2 B m m) (e1 : f114_1 a m = (v, m1)) (e2 : f276_1 a m1 = (w, m2)) : v = w ∧ Rel2 (B + 220000) m2 m2 := by
  obtain ⟨k1, k2, -⟩ := q114_1 a hk hJ (by omega) ha
  rw [e1] at k1 k2
  try dsimp only at k1 k2
  have o0 : OM (B + 110000) m := ⟨hk, hJ.up (by omega)⟩
  have o1 : OM (B + 110000) m1 := ⟨k1, k2.jb.up (by omega)⟩
  obtain ⟨-, k4, -⟩ := q276_1 a o1.1 o1.2 (by omega) ha
  rw [e2] at k4
  try dsimp only at k4
  have g := op_seal ha o0 o1 (by omega) ((h.rj k2 rfl rfl).up (show B ≤ B + 110000 by omega))
  rw [e1, e2] at g
  try dsimp only at g
  exact ⟨g.1, (g.2.cj k4 rfl rfl).up (by omega)⟩
theorem st_open {m m1 m2 : zM} {B a v w : Int} (ha : -2147483648 ≤ a ∧ a ≤ 2147483647) (hk : z_mok lL m) (hJ : JB B m) (hB : B + 220000 ≤ 1000000000) (h : Rel2 B m m) (e1 : f116_1 a m = (v, m1)) (e2 : f277_1 a m1 = (w, m2)) : v = w ∧ Rel2 (B + 220000) m2 m2 := by
  obtain ⟨k1, k2, -⟩ := q116_1 a hk hJ (by omega) ha
  rw [e1] at k1 k2
  try dsimp only at k1 k2
  have o0 : OM (B + 110000) m := ⟨hk, hJ.up (by omega)⟩
  have o1 : OM (B + 110000) m1 := ⟨k1, k2.jb.up (by omega)⟩
  obtain ⟨-, k4, -⟩ := q277_1 a o1.1 o1.2 (by omega) ha
  rw [e2] at k4
  try dsimp only at k4
  have g := op_open ha o0 o1 (by omega) ((h.rj k2 rfl rfl).up (show B ≤ B + 110000 by omega))
  rw [e1, e2] at g
  try dsimp only at g
  exact ⟨g.1, (g.2.cj k4 rfl rfl).up (by omega)⟩
theorem st_season {m m1 m2 : zM} {B a b v w : Int} (ha : -2147483648 ≤ a ∧ a ≤ 2147483647) (hb : -2147483648 ≤ b ∧ b ≤ 2147483647) (hk : z_mok lL m) (hJ : JB B m) (hB : B + 220000 ≤ 1000000000) (h : Rel2 B m m) (e1 : f122_1 a b m = (v, m1)) (e2 : f245_1 a b m1 = (w, m2)) : v = w ∧ Rel2 (B + 220000) m2 m2 := by
  obtain ⟨k1, k2, -⟩ := q122_1 a b hk hJ (by omega) ha hb
  rw [e1] at k1 k2
  try dsimp only at k1 k2
  have o0 : OM (B + 110000) m := ⟨hk, hJ.up (by omega)⟩
  have o1 : OM (B + 110000) m1 := ⟨k1, k2.jb.up (by omega)⟩
  obtain ⟨-, k4, -⟩ := q245_1 a b o1.1 o1.2 (by omega) ha hb
  rw [e2] at k4
  try dsimp only at k4
  have g := op_season ha hb o0 o1 (by omega) ((h.rj k2 rfl rfl).up (show B ≤ B + 110000 by omega))
  rw [e1, e2] at g
  try dsimp only at g
  exact ⟨g.1, (g.2.cj k4 rfl rfl).up (by omega)⟩
theorem st_week {m m1 m2 : zM} {B a b d v w : Int} (ha : -2147483648 ≤ a ∧ a ≤ 2147483647) (hb : -2147483648 ≤ b ∧ b ≤ 2147483647) (hd : -2147483648 ≤ d ∧ d ≤ 2147483647) (hk : z_mok lL m) (hJ : JB B m) (hB : B + 220000 ≤ 1000000000) (h : Rel2 B m m) (e1 : f124_1 a b d m = (v, m1)) (e2 : f247_1 a b d m1 = (w, m2)) : v = w ∧ Rel2 (B + 220000) m2 m2 := by
  obtain ⟨k1, k2, -⟩ := q124_1 a b d hk hJ (by omega) ha hb hd
  rw [e1] at k1 k2
  try dsimp only at k1 k2
  have o0 : OM (B + 110000) m := ⟨hk, hJ.up (by omega)⟩
  have o1 : OM (B + 110000) m1 := ⟨k1, k2.jb.up (by omega)⟩
  obtain ⟨-, k4, -⟩ := q247_1 a b d o1.1 o1.2 (by omega) ha hb hd
  rw [e2] at k4
  try dsimp only at k4
  have g := op_week ha hb hd o0 o1 (by omega) ((h.rj k2 rfl rfl).up (show B ≤ B + 110000 by omega))
  rw [e1, e2] at g
  try dsimp only at g
  exact ⟨g.1, (g.2.cj k4 rfl rfl).up (by omega)⟩
theorem st_special {m m1 m2 : zM} {B a b v w : Int} (ha : -2147483648 ≤ a ∧ a ≤ 2147483647) (hb : -2147483648 ≤ b ∧ b ≤ 2147483647) (hk : z_mok lL m) (hJ : JB B m) (hB : B + 220000 ≤ 1000000000) (h : Rel2 B m m) (e1 : f125_1 a b m = (v, m1)) (e2 : f248_1 a b m1 = (w, m2)) : v = w ∧ Rel2 (B + 220000) m2 m2 := by
  obtain ⟨k1, k2, -⟩ := q125_1 a b hk hJ (by omega) ha hb
  rw [e1] at k1 k2
  try dsimp only at k1 k2
  have o0 : OM (B + 110000) m := ⟨hk, hJ.up (by omega)⟩
  have o1 : OM (B + 110000) m1 := ⟨k1, k2.jb.up (by omega)⟩
  obtain ⟨-, k4, -⟩ := q248_1 a b o1.1 o1.2 (by omega) ha hb
  rw [e2] at k4
  try dsimp only at k4
  have g := op_special ha hb o0 o1 (by omega) ((h.rj k2 rfl rfl).up (show B ≤ B + 110000 by omega))
  rw [e1, e2] at g
  try dsimp only at g
  exact ⟨g.1, (g.2.cj k4 rfl rfl).up (by omega)⟩
theorem st_move {m m1 m2 : zM} {B a v w : Int} (ha : -2147483648 ≤ a ∧ a ≤ 2147483647) (hk : z_mok lL m) (hJ : JB B m) (hB : B + 220000 ≤ 1000000000) (h : Rel2 B m m) (e1 : f127_1 a m = (v, m1)) (e2 : f281_1 a m1 = (w, m2)) : v = w ∧ Rel2 (B + 220000) m2 m2 := by
  obtain ⟨k1, k2, -⟩ := q127_1 a hk hJ (by omega) ha
  rw [e1] at k1 k2
  try dsimp only at k1 k2
  have o0 : OM (B + 110000) m := ⟨hk, hJ.up (by omega)⟩
  have o1 : OM (B + 110000) m1 := ⟨k1, k2.jb.up (by omega)⟩
  obtain ⟨-, k4, -⟩ := q281_1 a o1.1 o1.2 (by omega) ha
  rw [e2] at k4
  try dsimp only at k4
  have g := op_move ha o0 o1 (by omega) ((h.rj k2 rfl rfl).up (show B ≤ B + 110000 by omega))
  rw [e1, e2] at g
  try dsimp only at g
  exact ⟨g.1, (g.2.cj k4 rfl rfl).up (by omega)⟩
theorem st_off {m m1 m2 : zM} {B a v w : Int} (ha : -2147483648 ≤ a ∧ a ≤ 2147483647) (hk : z_mok lL m) (hJ : JB B m) (hB : B + 220000 ≤ 1000000000) (h : Rel2 B m m) (e1 : f130_1 a m = (v, m1)) (e2 : f282_1 a m1 = (w, m2)) : v = w ∧ Rel2 (B + 220000) m2 m2 := by
  obtain ⟨k1, k2, -⟩ := q130_1 a hk hJ (by omega) ha
  rw [e1] at k1 k2
  try dsimp only at k1 k2
  have o0 : OM (B + 110000) m := ⟨hk, hJ.up (by omega)⟩
  have o1 : OM (B + 110000) m1 := ⟨k1, k2.jb.up (by omega)⟩
  obtain ⟨-, k4, -⟩ := q282_1 a o1.1 o1.2 (by omega) ha
  rw [e2] at k4
  try dsimp only at k4
  have g := op_off ha o0 o1 (by omega) ((h.rj k2 rfl rfl).up (show B ≤ B + 110000 by omega))
  rw [e1, e2] at g
  try dsimp only at g
  exact ⟨g.1, (g.2.cj k4 rfl rfl).up (by omega)⟩
theorem st_mark {m m1 m2 : zM} {B a b v w : Int} (ha : -2147483648 ≤ a ∧ a ≤ 2147483647) (hb : 0 ≤ b ∧ b ≤ 1) (hk : z_mok lL m) (hJ : JB B m) (hB : B + 220000 ≤ 1000000000) (h : Rel2 B m m) (e1 : f134_1 a b m = (v, m1)) (e2 : f283_1 a b m1 = (w, m2)) : Rel2 (B + 220000) m2 m2 := by
  obtain ⟨k1, k2, -⟩ := q134_1 a b hk hJ (by omega) ha hb
  rw [e1] at k1 k2
  try dsimp only at k1 k2
  have o0 : OM (B + 110000) m := ⟨hk, hJ.up (by omega)⟩
  have o1 : OM (B + 110000) m1 := ⟨k1, k2.jb.up (by omega)⟩
  obtain ⟨-, k4, -⟩ := q283_1 a b o1.1 o1.2 (by omega) ha hb
  rw [e2] at k4
  try dsimp only at k4
  have g := op_mark ha hb o0 o1 (by omega) ((h.rj k2 rfl rfl).up (show B ≤ B + 110000 by omega))
  rw [e1, e2] at g
  try dsimp only at g
  exact (g.cj k4 rfl rfl).up (by omega)
theorem st_prepaid {m m1 m2 : zM} {B a v w : Int} (ha : 0 ≤ a ∧ a ≤ 1) (hk : z_mok lL m) (hJ : JB B m) (hB : B + 220000 ≤ 1000000000) (h : Rel2 B m m) (e1 : f135_1 a m = (v, m1)) (e2 : f284_1 a m1 = (w, m2)) : Rel2 (B + 220000) m2 m2 := by
  obtain ⟨k1, k2, -⟩ := q135_1 a hk hJ (by omega) ha
  rw [e1] at k1 k2
  try dsimp only at k1 k2
  have o0 : OM (B + 110000) m := ⟨hk, hJ.up (by omega)⟩
  have o1 : OM (B + 110000) m1 := ⟨k1, k2.jb.up (by omega)⟩
  obtain ⟨-, k4, -⟩ := q284_1 a o1.1 o1.2 (by omega) ha
  rw [e2] at k4
  try dsimp only at k4
  have g := op_prepaid ha o0 o1 (by omega) ((h.rj k2 rfl rfl).up (show B ≤ B + 110000 by omega))
  rw [e1, e2] at g
  try dsimp only at g
  exact (g.cj k4 rfl rfl).up (by omega)
theorem st_pay {m m1 m2 : zM} {B a v w : Int} (ha : -2147483648 ≤ a ∧ a ≤ 2147483647) (hk : z_mok lL m) (hJ : JB B m) (hB : B + 220000 ≤ 1000000000) (h : Rel2 B m m) (e1 : f136_1 a m = (v, m1)) (e2 : f285_1 a m1 = (w, m2)) : Rel2 (B + 220000) m2 m2 := by
  obtain ⟨k1, k2, -⟩ := q136_1 a hk hJ (by omega) ha
  rw [e1] at k1 k2
  try dsimp only at k1 k2
  have o0 : OM (B + 110000) m := ⟨hk, hJ.up (by omega)⟩
  have o1 : OM (B + 110000) m1 := ⟨k1, k2.jb.up (by omega)⟩
  obtain ⟨-, k4, -⟩ := q285_1 a o1.1 o1.2 (by omega) ha
  rw [e2] at k4
  try dsimp only at k4
  have g := op_pay ha o0 o1 (by omega) ((h.rj k2 rfl rfl).up (show B ≤ B + 110000 by omega))
  rw [e1, e2] at g
  try dsimp only at g
  exact (g.cj k4 rfl rfl).up (by omega)
theorem st_bill {m m1 m2 : zM} {B v w : Int} (hk : z_mok lL m) (hJ : JB B m) (hB : B + 220000 ≤ 1000000000) (h : Rel2 B m m) (e1 : f137_1 m = (v, m1)) (e2 : f286_1 m1 = (w, m2)) : Rel2 (B + 220000) m2 m2 := by
  obtain ⟨k1, k2, -⟩ := q137_1 hk hJ (by omega)
  rw [e1] at k1 k2
  try dsimp only at k1 k2
  have o0 : OM (B + 110000) m := ⟨hk, hJ.up (by omega)⟩
  have o1 : OM (B + 110000) m1 := ⟨k1, k2.jb.up (by omega)⟩
  obtain ⟨-, k4, -⟩ := q286_1 o1.1 o1.2 (by omega)
  rw [e2] at k4
  try dsimp only at k4
  have g := op_bill o0 o1 (by omega) ((h.rj k2 rfl rfl).up (show B ≤ B + 110000 by omega))
  rw [e1, e2] at g
  try dsimp only at g
  exact (g.cj k4 rfl rfl).up (by omega)
theorem st_feed {m m1 m2 : zM} {B a b d e f v w : Int} (ha : -2147483648 ≤ a ∧ a ≤ 2147483647) (hb : -2147483648 ≤ b ∧ b ≤ 2147483647) (hd : -2147483648 ≤ d ∧ d ≤ 2147483647) (he : -2147483648 ≤ e ∧ e ≤ 2147483647) (hf : -2147483648 ≤ f ∧ f ≤ 2147483647) (hk : z_mok lL m) (hJ : JB B m) (hB : B + 220000 ≤ 1000000000) (h : Rel2 B m m) (e1 : f85_1 a b d e f m = (v, m1)) (e2 : f256_1 a b d e f m1 = (w, m2)) : v = w ∧ Rel2 (B + 220000) m2 m2 := by
  obtain ⟨k1, k2, -⟩ := q85_1 a b d e f hk hJ (by omega) ha hb hd he hf
  rw [e1] at k1 k2
  try dsimp only at k1 k2
  have o0 : OM (B + 110000) m := ⟨hk, hJ.up (by omega)⟩
  have o1 : OM (B + 110000) m1 := ⟨k1, k2.jb.up (by omega)⟩
  obtain ⟨-, k4, -⟩ := q256_1 a b d e f o1.1 o1.2 (by omega) ha hb hd he hf
  rw [e2] at k4
  try dsimp only at k4
  have g := op_feed ha hb hd he hf o0 o1 (by omega) ((h.rj k2 rfl rfl).up (show B ≤ B + 110000 by omega))
  rw [e1, e2] at g
  try dsimp only at g
  exact ⟨g.1, (g.2.cj k4 rfl rfl).up (by omega)⟩
theorem st_end {m m1 m2 : zM} {B a v w : Int} (ha : -2147483648 ≤ a ∧ a ≤ 2147483647) (hk : z_mok lL m) (hJ : JB B m) (hB : B + 220000 ≤ 1000000000) (h : Rel2 B m m) (e1 : f88_1 a m = (v, m1)) (e2 : f258_1 a m1 = (w, m2)) : v = w ∧ Rel2 (B + 220000) m2 m2 := by
  obtain ⟨k1, k2, -⟩ := q88_1 a hk hJ (by omega) ha
  rw [e1] at k1 k2
  try dsimp only at k1 k2
  have o0 : OM (B + 110000) m := ⟨hk, hJ.up (by omega)⟩
  have o1 : OM (B + 110000) m1 := ⟨k1, k2.jb.up (by omega)⟩
  obtain ⟨-, k4, -⟩ := q258_1 a o1.1 o1.2 (by omega) ha
  rw [e2] at k4
  try dsimp only at k4
  have g := op_end ha o0 o1 (by omega) ((h.rj k2 rfl rfl).up (show B ≤ B + 110000 by omega))
  rw [e1, e2] at g
  try dsimp only at g
  exact ⟨g.1, (g.2.cj k4 rfl rfl).up (by omega)⟩
theorem st_calendar {m m1 m2 : zM} {B v w : Int} (hk : z_mok lL m) (hJ : JB B m) (hB : B + 220000 ≤ 1000000000) (h : Rel2 B m m) (e1 : f90_1 m = (v, m1)) (e2 : f260_1 m1 = (w, m2)) : v = w ∧ Rel2 (B + 220000) m2 m2 := by
  obtain ⟨k1, k2, -⟩ := q90_1 hk hJ (by omega)
  rw [e1] at k1 k2
  try dsimp only at k1 k2
  have o0 : OM (B + 110000) m := ⟨hk, hJ.up (by omega)⟩
  have o1 : OM (B + 110000) m1 := ⟨k1, k2.jb.up (by omega)⟩
  obtain ⟨-, k4, -⟩ := q260_1 o1.1 o1.2 (by omega)
  rw [e2] at k4
  try dsimp only at k4
  have g := op_calendar o0 o1 (by omega) ((h.rj k2 rfl rfl).up (show B ≤ B + 110000 by omega))
  rw [e1, e2] at g
  try dsimp only at g
  exact ⟨g.1, (g.2.cj k4 rfl rfl).up (by omega)⟩
theorem st_would {m m1 m2 : zM} {B a b v w : Int} (ha : -2147483648 ≤ a ∧ a ≤ 2147483647) (hb : -2147483648 ≤ b ∧ b ≤ 2147483647) (hk : z_mok lL m) (hJ : JB B m) (hB : B + 220000 ≤ 1000000000) (h : Rel2 B m m) (e1 : f170_1 a b m = (v, m1)) (e2 : f302_1 a b m1 = (w, m2)) : Rel2 (B + 220000) m2 m2 := by
  obtain ⟨k1, k2, -⟩ := q170_1 a b hk hJ (by omega) ha hb
  rw [e1] at k1 k2
  try dsimp only at k1 k2
  have o0 : OM (B + 110000) m := ⟨hk, hJ.up (by omega)⟩
  have o1 : OM (B + 110000) m1 := ⟨k1, k2.jb.up (by omega)⟩
  obtain ⟨-, k4, -⟩ := q302_1 a b o1.1 o1.2 (by omega) ha hb
  rw [e2] at k4
  try dsimp only at k4
  have g := op_would ha hb o0 o1 (by omega) ((h.rj k2 rfl rfl).up (show B ≤ B + 110000 by omega))
  rw [e1, e2] at g
  try dsimp only at g
  exact (g.cj k4 rfl rfl).up (by omega)
theorem st_lasts {m m1 m2 : zM} {B v w : Int} (hk : z_mok lL m) (hJ : JB B m) (hB : B + 220000 ≤ 1000000000) (h : Rel2 B m m) (e1 : f184_1 m = (v, m1)) (e2 : f309_1 m1 = (w, m2)) : Rel2 (B + 220000) m2 m2 := by
  obtain ⟨k1, k2, -⟩ := q184_1 hk hJ (by omega)
  rw [e1] at k1 k2
  try dsimp only at k1 k2
  have o0 : OM (B + 110000) m := ⟨hk, hJ.up (by omega)⟩
  have o1 : OM (B + 110000) m1 := ⟨k1, k2.jb.up (by omega)⟩
  obtain ⟨-, k4, -⟩ := q309_1 o1.1 o1.2 (by omega)
  rw [e2] at k4
  try dsimp only at k4
  have g := op_lasts o0 o1 (by omega) ((h.rj k2 rfl rfl).up (show B ≤ B + 110000 by omega))
  rw [e1, e2] at g
  try dsimp only at g
  exact (g.cj k4 rfl rfl).up (by omega)
theorem st_image {m m1 m2 : zM} {B a v w : Int} (ha : 0 ≤ a ∧ a ≤ 1) (hk : z_mok lL m) (hJ : JB B m) (hB : B + 220000 ≤ 1000000000) (h : Rel2 B m m) (e1 : f195_1 a m = (v, m1)) (e2 : f314_1 a m1 = (w, m2)) : v = w ∧ Rel2 (B + 220000) m2 m2 := by
  obtain ⟨k1, k2, -⟩ := q195_1 a hk hJ (by omega) ha
  rw [e1] at k1 k2
  try dsimp only at k1 k2
  have o0 : OM (B + 110000) m := ⟨hk, hJ.up (by omega)⟩
  have o1 : OM (B + 110000) m1 := ⟨k1, k2.jb.up (by omega)⟩
  obtain ⟨-, k4, -⟩ := q314_1 a o1.1 o1.2 (by omega) ha
  rw [e2] at k4
  try dsimp only at k4
  have g := op_image ha o0 o1 (by omega) ((h.rj k2 rfl rfl).up (show B ≤ B + 110000 by omega))
  rw [e1, e2] at g
  try dsimp only at g
  exact ⟨g.1, (g.2.cj k4 rfl rfl).up (by omega)⟩
