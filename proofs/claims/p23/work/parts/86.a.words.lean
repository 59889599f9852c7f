theorem xv1 {i : Nat} {w : Jvm.Cond} (h : tables_1_1[i]? = some w) : w ∈ tables_1 := (List.mem_append_left _ (List.mem_of_getElem? h))
theorem xv2 {i : Nat} {w : Jvm.Cond} (h : tables_1_2[i]? = some w) : w ∈ tables_1 := (List.mem_append_right _ (List.mem_append_left _ (List.mem_of_getElem? h)))
theorem xv3 {i : Nat} {w : Jvm.Cond} (h : tables_1_3[i]? = some w) : w ∈ tables_1 := (List.mem_append_right _ (List.mem_append_right _ (List.mem_append_left _ (List.mem_of_getElem? h))))
theorem xv4 {i : Nat} {w : Jvm.Cond} (h : tables_1_4[i]? = some w) : w ∈ tables_1 := (List.mem_append_right _ (List.mem_append_right _ (List.mem_append_right _ (List.mem_append_left _ (List.mem_of_getElem? h)))))
theorem xv5 {i : Nat} {w : Jvm.Cond} (h : tables_1_5[i]? = some w) : w ∈ tables_1 := (List.mem_append_right _ (List.mem_append_right _ (List.mem_append_right _ (List.mem_append_right _ (List.mem_append_left _ (List.mem_of_getElem? h))))))
theorem xv6 {i : Nat} {w : Jvm.Cond} (h : tables_1_6[i]? = some w) : w ∈ tables_1 := (List.mem_append_right _ (List.mem_append_right _ (List.mem_append_right _ (List.mem_append_right _ (List.mem_append_right _ (List.mem_append_left _ (List.mem_of_getElem? h)))))))
theorem xv7 {i : Nat} {w : Jvm.Cond} (h : tables_1_7[i]? = some w) : w ∈ tables_1 := (List.mem_append_right _ (List.mem_append_right _ (List.mem_append_right _ (List.mem_append_right _ (List.mem_append_right _ (List.mem_append_right _ (List.mem_append_left _ (List.mem_of_getElem? h))))))))
theorem xv8 {i : Nat} {w : Jvm.Cond} (h : tables_1_8[i]? = some w) : w ∈ tables_1 := (List.mem_append_right _ (List.mem_append_right _ (List.mem_append_right _ (List.mem_append_right _ (List.mem_append_right _ (List.mem_append_right _ (List.mem_append_right _ (List.mem_of_getElem? h))))))))
-- ===== PART A: goes FIRST, ahead of the names: the tables' words, and 'selects' of the private methods out of them =====
/-- a private method of a class that the tables say can be made, by its rows of tables_1 -/
def lw_okq (q : MethodName × Nat) : Prop := (q.1.cls ≠ "java/lang/invoke/MethodHandle" ∧ q.1.cls ≠ "java/lang/invoke/VarHandle") ∧ Cond.instantiable q.1.cls q.2 ∈ tables_1 ∧ Cond.privateMethod q.1 ∈ tables_1 ∧ Cond.instanceMethod q.1 ∈ tables_1
theorem lw_p0 : lw_okq (⟨"WorkMeter$Wave", "sumUp", "()V"⟩, 7) := ⟨⟨by decide +kernel, by decide +kernel⟩, xv1 (i := 100) rfl, xv2 (i := 208) rfl, xv2 (i := 209) rfl⟩
theorem lw_p1 : lw_okq (⟨"WorkMeter$Wave", "addTo", "(III)V"⟩, 7) := ⟨⟨by decide +kernel, by decide +kernel⟩, xv1 (i := 100) rfl, xv2 (i := 212) rfl, xv2 (i := 213) rfl⟩
theorem lw_p2 : lw_okq (⟨"WorkMeter$Wave", "apparentOf", "(I)J"⟩, 7) := ⟨⟨by decide +kernel, by decide +kernel⟩, xv1 (i := 100) rfl, xv2 (i := 216) rfl, xv2 (i := 217) rfl⟩
theorem lw_p3 : lw_okq (⟨"WorkMeter$Meter", "meterStretch", "(I)I"⟩, 16) := ⟨⟨by decide +kernel, by decide +kernel⟩, xv1 (i := 30) rfl, xv2 (i := 227) rfl, xv2 (i := 228) rfl⟩
theorem lw_p4 : lw_okq (⟨"WorkMeter$Calendar", "specialPlace", "(I)I"⟩, 8) := ⟨⟨by decide +kernel, by decide +kernel⟩, xv1 (i := 52) rfl, xv3 (i := 0) rfl, xv3 (i := 1) rfl⟩
theorem lw_p5 : lw_okq (⟨"WorkMeter$Calendar", "seasonOf", "(I)I"⟩, 8) := ⟨⟨by decide +kernel, by decide +kernel⟩, xv1 (i := 52) rfl, xv3 (i := 4) rfl, xv3 (i := 5) rfl⟩
theorem lw_p6 : lw_okq (⟨"WorkMeter$Calendar", "tariffIn", "(II)I"⟩, 8) := ⟨⟨by decide +kernel, by decide +kernel⟩, xv1 (i := 52) rfl, xv3 (i := 8) rfl, xv3 (i := 9) rfl⟩
theorem lw_p7 : lw_okq (⟨"WorkMeter$Calendar", "switchesBefore", "(II)I"⟩, 8) := ⟨⟨by decide +kernel, by decide +kernel⟩, xv1 (i := 52) rfl, xv3 (i := 12) rfl, xv3 (i := 13) rfl⟩
theorem lw_p8 : lw_okq (⟨"WorkMeter$Meter", "stretch", "(III)I"⟩, 16) := ⟨⟨by decide +kernel, by decide +kernel⟩, xv1 (i := 30) rfl, xv3 (i := 24) rfl, xv3 (i := 25) rfl⟩
theorem lw_p9 : lw_okq (⟨"WorkMeter$Meter", "secondsToOpen", "(II)I"⟩, 16) := ⟨⟨by decide +kernel, by decide +kernel⟩, xv1 (i := 30) rfl, xv3 (i := 57) rfl, xv3 (i := 58) rfl⟩
theorem lw_p10 : lw_okq (⟨"WorkMeter$Meter", "isCreeping", "()Z"⟩, 16) := ⟨⟨by decide +kernel, by decide +kernel⟩, xv1 (i := 30) rfl, xv3 (i := 69) rfl, xv3 (i := 70) rfl⟩
theorem lw_p11 : lw_okq (⟨"WorkMeter$Meter", "meterPower", "(II)V"⟩, 16) := ⟨⟨by decide +kernel, by decide +kernel⟩, xv1 (i := 30) rfl, xv3 (i := 98) rfl, xv3 (i := 99) rfl⟩
theorem lw_p12 : lw_okq (⟨"WorkMeter$Meter", "endBlockIfDue", "(I)V"⟩, 16) := ⟨⟨by decide +kernel, by decide +kernel⟩, xv1 (i := 30) rfl, xv3 (i := 139) rfl, xv3 (i := 140) rfl⟩
theorem lw_p13 : lw_okq (⟨"WorkMeter$Load", "addLine", "(II)V"⟩, 10) := ⟨⟨by decide +kernel, by decide +kernel⟩, xv1 (i := 154) rfl, xv3 (i := 151) rfl, xv3 (i := 152) rfl⟩
theorem lw_p14 : lw_okq (⟨"WorkMeter$CalendarText", "skipBlanks", "()V"⟩, 11) := ⟨⟨by decide +kernel, by decide +kernel⟩, xv2 (i := 123) rfl, xv4 (i := 40) rfl, xv4 (i := 41) rfl⟩
theorem lw_p15 : lw_okq (⟨"WorkMeter$CalendarText", "readLine", "()Z"⟩, 11) := ⟨⟨by decide +kernel, by decide +kernel⟩, xv2 (i := 123) rfl, xv4 (i := 44) rfl, xv4 (i := 45) rfl⟩
def lw_privs_1 : List (MethodName × Nat) := [(⟨"WorkMeter$Wave", "sumUp", "()V"⟩, 7), (⟨"WorkMeter$Wave", "addTo", "(III)V"⟩, 7), (⟨"WorkMeter$Wave", "apparentOf", "(I)J"⟩, 7), (⟨"WorkMeter$Meter", "meterStretch", "(I)I"⟩, 16), (⟨"WorkMeter$Calendar", "specialPlace", "(I)I"⟩, 8), (⟨"WorkMeter$Calendar", "seasonOf", "(I)I"⟩, 8), (⟨"WorkMeter$Calendar", "tariffIn", "(II)I"⟩, 8), (⟨"WorkMeter$Calendar", "switchesBefore", "(II)I"⟩, 8), (⟨"WorkMeter$Meter", "stretch", "(III)I"⟩, 16), (⟨"WorkMeter$Meter", "secondsToOpen", "(II)I"⟩, 16), (⟨"WorkMeter$Meter", "isCreeping", "()Z"⟩, 16), (⟨"WorkMeter$Meter", "meterPower", "(II)V"⟩, 16), (⟨"WorkMeter$Meter", "endBlockIfDue", "(I)V"⟩, 16), (⟨"WorkMeter$Load", "addLine", "(II)V"⟩, 10), (⟨"WorkMeter$CalendarText", "skipBlanks", "()V"⟩, 11), (⟨"WorkMeter$CalendarText", "readLine", "()Z"⟩, 11)]
theorem lw_r1 : ∀ q ∈ lw_privs_1, lw_okq q := List.forall_mem_cons.mpr ⟨lw_p0, List.forall_mem_cons.mpr ⟨lw_p1, List.forall_mem_cons.mpr ⟨lw_p2, List.forall_mem_cons.mpr ⟨lw_p3, List.forall_mem_cons.mpr ⟨lw_p4, List.forall_mem_cons.mpr ⟨lw_p5, List.forall_mem_cons.mpr ⟨lw_p6, List.forall_mem_cons.mpr ⟨lw_p7, List.forall_mem_cons.mpr ⟨lw_p8, List.forall_mem_cons.mpr ⟨lw_p9, List.forall_mem_cons.mpr ⟨lw_p10, List.forall_mem_cons.mpr ⟨lw_p11, List.forall_mem_cons.mpr ⟨lw_p12, List.forall_mem_cons.mpr ⟨lw_p13, List.forall_mem_cons.mpr ⟨lw_p14, List.forall_mem_cons.mpr ⟨lw_p15, fun _ h => absurd h List.not_mem_nil⟩⟩⟩⟩⟩⟩⟩⟩⟩⟩⟩⟩⟩⟩⟩⟩
theorem lw_p16 : lw_okq (⟨"WorkMeter$CalendarText", "lettersHere", "()I"⟩, 11) := ⟨⟨by decide +kernel, by decide +kernel⟩, xv2 (i := 123) rfl, xv4 (i := 48) rfl, xv4 (i := 49) rfl⟩
theorem lw_p17 : lw_okq (⟨"WorkMeter$CalendarText", "spells", "(Ljava/lang/String;I)Z"⟩, 11) := ⟨⟨by decide +kernel, by decide +kernel⟩, xv2 (i := 123) rfl, xv4 (i := 53) rfl, xv4 (i := 54) rfl⟩
theorem lw_p18 : lw_okq (⟨"WorkMeter$CalendarText", "readTable", "()Z"⟩, 11) := ⟨⟨by decide +kernel, by decide +kernel⟩, xv2 (i := 123) rfl, xv4 (i := 105) rfl, xv4 (i := 106) rfl⟩
theorem lw_p19 : lw_okq (⟨"WorkMeter$CalendarText", "passWord", "(Ljava/lang/String;)V"⟩, 11) := ⟨⟨by decide +kernel, by decide +kernel⟩, xv2 (i := 123) rfl, xv4 (i := 109) rfl, xv4 (i := 110) rfl⟩
theorem lw_p20 : lw_okq (⟨"WorkMeter$CalendarText", "readNewNumber", "(II)I"⟩, 11) := ⟨⟨by decide +kernel, by decide +kernel⟩, xv2 (i := 123) rfl, xv4 (i := 113) rfl, xv4 (i := 114) rfl⟩
theorem lw_p21 : lw_okq (⟨"WorkMeter$CalendarText", "readNumber", "(I)I"⟩, 11) := ⟨⟨by decide +kernel, by decide +kernel⟩, xv2 (i := 123) rfl, xv4 (i := 117) rfl, xv4 (i := 118) rfl⟩
theorem lw_p22 : lw_okq (⟨"WorkMeter$CalendarText", "fail", "(II)Z"⟩, 11) := ⟨⟨by decide +kernel, by decide +kernel⟩, xv2 (i := 123) rfl, xv4 (i := 126) rfl, xv4 (i := 127) rfl⟩
theorem lw_p23 : lw_okq (⟨"WorkMeter$CalendarText", "digitHere", "()Z"⟩, 11) := ⟨⟨by decide +kernel, by decide +kernel⟩, xv2 (i := 123) rfl, xv4 (i := 130) rfl, xv4 (i := 131) rfl⟩
theorem lw_p24 : lw_okq (⟨"WorkMeter$CalendarText", "readSwitch", "(I)Z"⟩, 11) := ⟨⟨by decide +kernel, by decide +kernel⟩, xv2 (i := 123) rfl, xv4 (i := 134) rfl, xv4 (i := 135) rfl⟩
theorem lw_p25 : lw_okq (⟨"WorkMeter$CalendarText", "readSign", "(C)Z"⟩, 11) := ⟨⟨by decide +kernel, by decide +kernel⟩, xv2 (i := 123) rfl, xv4 (i := 138) rfl, xv4 (i := 139) rfl⟩
theorem lw_p26 : lw_okq (⟨"WorkMeter$CalendarText", "readSeason", "()Z"⟩, 11) := ⟨⟨by decide +kernel, by decide +kernel⟩, xv2 (i := 123) rfl, xv4 (i := 145) rfl, xv4 (i := 146) rfl⟩
theorem lw_p27 : lw_okq (⟨"WorkMeter$CalendarText", "readSpecial", "()Z"⟩, 11) := ⟨⟨by decide +kernel, by decide +kernel⟩, xv2 (i := 123) rfl, xv4 (i := 150) rfl, xv4 (i := 151) rfl⟩
theorem lw_p28 : lw_okq (⟨"WorkMeter$CalendarText", "readPrices", "()Z"⟩, 11) := ⟨⟨by decide +kernel, by decide +kernel⟩, xv2 (i := 123) rfl, xv4 (i := 163) rfl, xv4 (i := 164) rfl⟩
theorem lw_p29 : lw_okq (⟨"WorkMeter$Wave", "rootMean", "(II)J"⟩, 7) := ⟨⟨by decide +kernel, by decide +kernel⟩, xv1 (i := 100) rfl, xv5 (i := 64) rfl, xv5 (i := 65) rfl⟩
theorem lw_p30 : lw_okq (⟨"WorkMeter$Registers", "rowOf", "(I)I"⟩, 4) := ⟨⟨by decide +kernel, by decide +kernel⟩, xv1 (i := 134) rfl, xv5 (i := 157) rfl, xv5 (i := 158) rfl⟩
theorem lw_p31 : lw_okq (⟨"WorkMeter", "lookAtMeter", "(I)J"⟩, 5) := ⟨⟨by decide +kernel, by decide +kernel⟩, xv1 (i := 22) rfl, xv6 (i := 75) rfl, xv6 (i := 76) rfl⟩
def lw_privs_2 : List (MethodName × Nat) := [(⟨"WorkMeter$CalendarText", "lettersHere", "()I"⟩, 11), (⟨"WorkMeter$CalendarText", "spells", "(Ljava/lang/String;I)Z"⟩, 11), (⟨"WorkMeter$CalendarText", "readTable", "()Z"⟩, 11), (⟨"WorkMeter$CalendarText", "passWord", "(Ljava/lang/String;)V"⟩, 11), (⟨"WorkMeter$CalendarText", "readNewNumber", "(II)I"⟩, 11), (⟨"WorkMeter$CalendarText", "readNumber", "(I)I"⟩, 11), (⟨"WorkMeter$CalendarText", "fail", "(II)Z"⟩, 11), (⟨"WorkMeter$CalendarText", "digitHere", "()Z"⟩, 11), (⟨"WorkMeter$CalendarText", "readSwitch", "(I)Z"⟩, 11), (⟨"WorkMeter$CalendarText", "readSign", "(C)Z"⟩, 11), (⟨"WorkMeter$CalendarText", "readSeason", "()Z"⟩, 11), (⟨"WorkMeter$CalendarText", "readSpecial", "()Z"⟩, 11), (⟨"WorkMeter$CalendarText", "readPrices", "()Z"⟩, 11), (⟨"WorkMeter$Wave", "rootMean", "(II)J"⟩, 7), (⟨"WorkMeter$Registers", "rowOf", "(I)I"⟩, 4), (⟨"WorkMeter", "lookAtMeter", "(I)J"⟩, 5)]
theorem lw_r2 : ∀ q ∈ lw_privs_2, lw_okq q := List.forall_mem_cons.mpr ⟨lw_p16, List.forall_mem_cons.mpr ⟨lw_p17, List.forall_mem_cons.mpr ⟨lw_p18, List.forall_mem_cons.mpr ⟨lw_p19, List.forall_mem_cons.mpr ⟨lw_p20, List.forall_mem_cons.mpr ⟨lw_p21, List.forall_mem_cons.mpr ⟨lw_p22, List.forall_mem_cons.mpr ⟨lw_p23, List.forall_mem_cons.mpr ⟨lw_p24, List.forall_mem_cons.mpr ⟨lw_p25, List.forall_mem_cons.mpr ⟨lw_p26, List.forall_mem_cons.mpr ⟨lw_p27, List.forall_mem_cons.mpr ⟨lw_p28, List.forall_mem_cons.mpr ⟨lw_p29, List.forall_mem_cons.mpr ⟨lw_p30, List.forall_mem_cons.mpr ⟨lw_p31, fun _ h => absurd h List.not_mem_nil⟩⟩⟩⟩⟩⟩⟩⟩⟩⟩⟩⟩⟩⟩⟩⟩
theorem lw_p32 : lw_okq (⟨"WorkMeter", "lookAtCounts", "(I)J"⟩, 5) := ⟨⟨by decide +kernel, by decide +kernel⟩, xv1 (i := 22) rfl, xv6 (i := 79) rfl, xv6 (i := 80) rfl⟩
theorem lw_p33 : lw_okq (⟨"WorkMeter", "lookAtSeal", "(I)J"⟩, 5) := ⟨⟨by decide +kernel, by decide +kernel⟩, xv1 (i := 22) rfl, xv6 (i := 83) rfl, xv6 (i := 84) rfl⟩
theorem lw_p34 : lw_okq (⟨"WorkMeterModel", "isShut", "()Z"⟩, 15) := ⟨⟨by decide +kernel, by decide +kernel⟩, xv6 (i := 92) rfl, xv6 (i := 156) rfl, xv6 (i := 157) rfl⟩
theorem lw_p35 : lw_okq (⟨"WorkMeterModel", "p", "()I"⟩, 15) := ⟨⟨by decide +kernel, by decide +kernel⟩, xv6 (i := 92) rfl, xv6 (i := 171) rfl, xv6 (i := 172) rfl⟩
theorem lw_p36 : lw_okq (⟨"WorkMeterModel", "meters", "()V"⟩, 15) := ⟨⟨by decide +kernel, by decide +kernel⟩, xv6 (i := 92) rfl, xv6 (i := 178) rfl, xv6 (i := 179) rfl⟩
theorem lw_p37 : lw_okq (⟨"WorkMeterModel", "together", "(I)J"⟩, 15) := ⟨⟨by decide +kernel, by decide +kernel⟩, xv6 (i := 92) rfl, xv6 (i := 182) rfl, xv6 (i := 183) rfl⟩
theorem lw_p38 : lw_okq (⟨"WorkMeterModel", "active", "(I)J"⟩, 15) := ⟨⟨by decide +kernel, by decide +kernel⟩, xv6 (i := 92) rfl, xv6 (i := 186) rfl, xv6 (i := 187) rfl⟩
theorem lw_p39 : lw_okq (⟨"WorkMeterModel", "n", "()I"⟩, 15) := ⟨⟨by decide +kernel, by decide +kernel⟩, xv6 (i := 92) rfl, xv6 (i := 190) rfl, xv6 (i := 191) rfl⟩
theorem lw_p40 : lw_okq (⟨"WorkMeterModel", "reactive", "(I)J"⟩, 15) := ⟨⟨by decide +kernel, by decide +kernel⟩, xv6 (i := 92) rfl, xv6 (i := 194) rfl, xv6 (i := 195) rfl⟩
theorem lw_p41 : lw_okq (⟨"WorkMeterModel", "squares", "(II)J"⟩, 15) := ⟨⟨by decide +kernel, by decide +kernel⟩, xv6 (i := 92) rfl, xv6 (i := 198) rfl, xv6 (i := 199) rfl⟩
theorem lw_p42 : lw_okq (⟨"WorkMeterModel", "registers", "(JJJ)V"⟩, 15) := ⟨⟨by decide +kernel, by decide +kernel⟩, xv6 (i := 92) rfl, xv6 (i := 210) rfl, xv6 (i := 211) rfl⟩
theorem lw_p43 : lw_okq (⟨"WorkMeterModel", "tariff", "(I)I"⟩, 15) := ⟨⟨by decide +kernel, by decide +kernel⟩, xv6 (i := 92) rfl, xv6 (i := 214) rfl, xv6 (i := 215) rfl⟩
theorem lw_p44 : lw_okq (⟨"WorkMeterModel", "tableAt", "(I)I"⟩, 15) := ⟨⟨by decide +kernel, by decide +kernel⟩, xv6 (i := 92) rfl, xv6 (i := 219) rfl, xv6 (i := 220) rfl⟩
theorem lw_p45 : lw_okq (⟨"WorkMeterModel", "seasonOf", "(I)I"⟩, 15) := ⟨⟨by decide +kernel, by decide +kernel⟩, xv6 (i := 92) rfl, xv6 (i := 223) rfl, xv6 (i := 224) rfl⟩
theorem lw_p46 : lw_okq (⟨"WorkMeterModel", "counts", "(IIJ)V"⟩, 15) := ⟨⟨by decide +kernel, by decide +kernel⟩, xv6 (i := 92) rfl, xv6 (i := 227) rfl, xv6 (i := 228) rfl⟩
theorem lw_p47 : lw_okq (⟨"WorkMeterModel", "switches", "()V"⟩, 15) := ⟨⟨by decide +kernel, by decide +kernel⟩, xv6 (i := 92) rfl, xv6 (i := 234) rfl, xv6 (i := 235) rfl⟩
def lw_privs_3 : List (MethodName × Nat) := [(⟨"WorkMeter", "lookAtCounts", "(I)J"⟩, 5), (⟨"WorkMeter", "lookAtSeal", "(I)J"⟩, 5), (⟨"WorkMeterModel", "isShut", "()Z"⟩, 15), (⟨"WorkMeterModel", "p", "()I"⟩, 15), (⟨"WorkMeterModel", "meters", "()V"⟩, 15), (⟨"WorkMeterModel", "together", "(I)J"⟩, 15), (⟨"WorkMeterModel", "active", "(I)J"⟩, 15), (⟨"WorkMeterModel", "n", "()I"⟩, 15), (⟨"WorkMeterModel", "reactive", "(I)J"⟩, 15), (⟨"WorkMeterModel", "squares", "(II)J"⟩, 15), (⟨"WorkMeterModel", "registers", "(JJJ)V"⟩, 15), (⟨"WorkMeterModel", "tariff", "(I)I"⟩, 15), (⟨"WorkMeterModel", "tableAt", "(I)I"⟩, 15), (⟨"WorkMeterModel", "seasonOf", "(I)I"⟩, 15), (⟨"WorkMeterModel", "counts", "(IIJ)V"⟩, 15), (⟨"WorkMeterModel", "switches", "()V"⟩, 15)]
theorem lw_r3 : ∀ q ∈ lw_privs_3, lw_okq q := List.forall_mem_cons.mpr ⟨lw_p32, List.forall_mem_cons.mpr ⟨lw_p33, List.forall_mem_cons.mpr ⟨lw_p34, List.forall_mem_cons.mpr ⟨lw_p35, List.forall_mem_cons.mpr ⟨lw_p36, List.forall_mem_cons.mpr ⟨lw_p37, List.forall_mem_cons.mpr ⟨lw_p38, List.forall_mem_cons.mpr ⟨lw_p39, List.forall_mem_cons.mpr ⟨lw_p40, List.forall_mem_cons.mpr ⟨lw_p41, List.forall_mem_cons.mpr ⟨lw_p42, List.forall_mem_cons.mpr ⟨lw_p43, List.forall_mem_cons.mpr ⟨lw_p44, List.forall_mem_cons.mpr ⟨lw_p45, List.forall_mem_cons.mpr ⟨lw_p46, List.forall_mem_cons.mpr ⟨lw_p47, fun _ h => absurd h List.not_mem_nil⟩⟩⟩⟩⟩⟩⟩⟩⟩⟩⟩⟩⟩⟩⟩⟩
theorem lw_p48 : lw_okq (⟨"WorkMeterModel", "logs", "(IJ)V"⟩, 15) := ⟨⟨by decide +kernel, by decide +kernel⟩, xv6 (i := 92) rfl, xv6 (i := 238) rfl, xv6 (i := 239) rfl⟩
theorem lw_p49 : lw_okq (⟨"WorkMeterModel", "marks", "()V"⟩, 15) := ⟨⟨by decide +kernel, by decide +kernel⟩, xv6 (i := 92) rfl, xv7 (i := 3) rfl, xv7 (i := 4) rfl⟩
theorem lw_p50 : lw_okq (⟨"WorkMeterModel", "isMissing", "()Z"⟩, 15) := ⟨⟨by decide +kernel, by decide +kernel⟩, xv6 (i := 92) rfl, xv7 (i := 7) rfl, xv7 (i := 8) rfl⟩
theorem lw_p51 : lw_okq (⟨"WorkMeterModel", "isReversed", "()Z"⟩, 15) := ⟨⟨by decide +kernel, by decide +kernel⟩, xv6 (i := 92) rfl, xv7 (i := 11) rfl, xv7 (i := 12) rfl⟩
theorem lw_p52 : lw_okq (⟨"WorkMeterModel", "isStrange", "()Z"⟩, 15) := ⟨⟨by decide +kernel, by decide +kernel⟩, xv6 (i := 92) rfl, xv7 (i := 15) rfl, xv7 (i := 16) rfl⟩
theorem lw_p53 : lw_okq (⟨"WorkMeterModel", "turnsOn", "(I)V"⟩, 15) := ⟨⟨by decide +kernel, by decide +kernel⟩, xv6 (i := 92) rfl, xv7 (i := 19) rfl, xv7 (i := 20) rfl⟩
theorem lw_p54 : lw_okq (⟨"WorkMeterModel", "turnsOff", "(I)V"⟩, 15) := ⟨⟨by decide +kernel, by decide +kernel⟩, xv6 (i := 92) rfl, xv7 (i := 23) rfl, xv7 (i := 24) rfl⟩
theorem lw_p55 : lw_okq (⟨"WorkMeterModel", "goes", "()V"⟩, 15) := ⟨⟨by decide +kernel, by decide +kernel⟩, xv6 (i := 92) rfl, xv7 (i := 27) rfl, xv7 (i := 28) rfl⟩
theorem lw_p56 : lw_okq (⟨"WorkMeterModel", "marksOn", "()J"⟩, 15) := ⟨⟨by decide +kernel, by decide +kernel⟩, xv6 (i := 92) rfl, xv7 (i := 31) rfl, xv7 (i := 32) rfl⟩
theorem lw_p57 : lw_okq (⟨"WorkMeterModel", "ends", "(J)V"⟩, 15) := ⟨⟨by decide +kernel, by decide +kernel⟩, xv6 (i := 92) rfl, xv7 (i := 36) rfl, xv7 (i := 37) rfl⟩
theorem lw_p58 : lw_okq (⟨"WorkMeterModel", "beginsBlock", "()V"⟩, 15) := ⟨⟨by decide +kernel, by decide +kernel⟩, xv6 (i := 92) rfl, xv7 (i := 40) rfl, xv7 (i := 41) rfl⟩
theorem lw_p59 : lw_okq (⟨"WorkMeterModel", "line", "(II)J"⟩, 15) := ⟨⟨by decide +kernel, by decide +kernel⟩, xv6 (i := 92) rfl, xv7 (i := 45) rfl, xv7 (i := 46) rfl⟩
theorem lw_p60 : lw_okq (⟨"WorkMeterModel", "lines", "()I"⟩, 15) := ⟨⟨by decide +kernel, by decide +kernel⟩, xv6 (i := 92) rfl, xv7 (i := 49) rfl, xv7 (i := 50) rfl⟩
theorem lw_p61 : lw_okq (⟨"WorkMeterModel", "demands", "()V"⟩, 15) := ⟨⟨by decide +kernel, by decide +kernel⟩, xv6 (i := 92) rfl, xv7 (i := 53) rfl, xv7 (i := 54) rfl⟩
theorem lw_p62 : lw_okq (⟨"WorkMeterModel", "greatestRoot", "(I)J"⟩, 15) := ⟨⟨by decide +kernel, by decide +kernel⟩, xv6 (i := 92) rfl, xv7 (i := 63) rfl, xv7 (i := 64) rfl⟩
theorem lw_p63 : lw_okq (⟨"WorkMeterModel", "puts", "(III)I"⟩, 15) := ⟨⟨by decide +kernel, by decide +kernel⟩, xv6 (i := 92) rfl, xv7 (i := 82) rfl, xv7 (i := 83) rfl⟩
def lw_privs_4 : List (MethodName × Nat) := [(⟨"WorkMeterModel", "logs", "(IJ)V"⟩, 15), (⟨"WorkMeterModel", "marks", "()V"⟩, 15), (⟨"WorkMeterModel", "isMissing", "()Z"⟩, 15), (⟨"WorkMeterModel", "isReversed", "()Z"⟩, 15), (⟨"WorkMeterModel", "isStrange", "()Z"⟩, 15), (⟨"WorkMeterModel", "turnsOn", "(I)V"⟩, 15), (⟨"WorkMeterModel", "turnsOff", "(I)V"⟩, 15), (⟨"WorkMeterModel", "goes", "()V"⟩, 15), (⟨"WorkMeterModel", "marksOn", "()J"⟩, 15), (⟨"WorkMeterModel", "ends", "(J)V"⟩, 15), (⟨"WorkMeterModel", "beginsBlock", "()V"⟩, 15), (⟨"WorkMeterModel", "line", "(II)J"⟩, 15), (⟨"WorkMeterModel", "lines", "()I"⟩, 15), (⟨"WorkMeterModel", "demands", "()V"⟩, 15), (⟨"WorkMeterModel", "greatestRoot", "(I)J"⟩, 15), (⟨"WorkMeterModel", "puts", "(III)I"⟩, 15)]
theorem lw_r4 : ∀ q ∈ lw_privs_4, lw_okq q := List.forall_mem_cons.mpr ⟨lw_p48, List.forall_mem_cons.mpr ⟨lw_p49, List.forall_mem_cons.mpr ⟨lw_p50, List.forall_mem_cons.mpr ⟨lw_p51, List.forall_mem_cons.mpr ⟨lw_p52, List.forall_mem_cons.mpr ⟨lw_p53, List.forall_mem_cons.mpr ⟨lw_p54, List.forall_mem_cons.mpr ⟨lw_p55, List.forall_mem_cons.mpr ⟨lw_p56, List.forall_mem_cons.mpr ⟨lw_p57, List.forall_mem_cons.mpr ⟨lw_p58, List.forall_mem_cons.mpr ⟨lw_p59, List.forall_mem_cons.mpr ⟨lw_p60, List.forall_mem_cons.mpr ⟨lw_p61, List.forall_mem_cons.mpr ⟨lw_p62, List.forall_mem_cons.mpr ⟨lw_p63, fun _ h => absurd h List.not_mem_nil⟩⟩⟩⟩⟩⟩⟩⟩⟩⟩⟩⟩⟩⟩⟩⟩
theorem lw_p64 : lw_okq (⟨"WorkMeterModel", "specials", "()I"⟩, 15) := ⟨⟨by decide +kernel, by decide +kernel⟩, xv6 (i := 92) rfl, xv7 (i := 107) rfl, xv7 (i := 108) rfl⟩
theorem lw_p65 : lw_okq (⟨"WorkMeterModel", "nextTime", "()I"⟩, 15) := ⟨⟨by decide +kernel, by decide +kernel⟩, xv6 (i := 92) rfl, xv7 (i := 132) rfl, xv7 (i := 133) rfl⟩
theorem lw_p66 : lw_okq (⟨"WorkMeterModel", "comes", "(I)V"⟩, 15) := ⟨⟨by decide +kernel, by decide +kernel⟩, xv6 (i := 92) rfl, xv7 (i := 141) rfl, xv7 (i := 142) rfl⟩
theorem lw_p67 : lw_okq (⟨"WorkMeterModel", "clears", "()V"⟩, 15) := ⟨⟨by decide +kernel, by decide +kernel⟩, xv6 (i := 92) rfl, xv7 (i := 160) rfl, xv7 (i := 161) rfl⟩
theorem lw_p68 : lw_okq (⟨"WorkMeterModel", "blanks", "()V"⟩, 15) := ⟨⟨by decide +kernel, by decide +kernel⟩, xv6 (i := 92) rfl, xv7 (i := 164) rfl, xv7 (i := 165) rfl⟩
theorem lw_p69 : lw_okq (⟨"WorkMeterModel", "line", "()V"⟩, 15) := ⟨⟨by decide +kernel, by decide +kernel⟩, xv6 (i := 92) rfl, xv7 (i := 168) rfl, xv7 (i := 169) rfl⟩
theorem lw_p70 : lw_okq (⟨"WorkMeterModel", "word", "()I"⟩, 15) := ⟨⟨by decide +kernel, by decide +kernel⟩, xv6 (i := 92) rfl, xv7 (i := 172) rfl, xv7 (i := 173) rfl⟩
theorem lw_p71 : lw_okq (⟨"WorkMeterModel", "spells", "(IIIIIIII)Z"⟩, 15) := ⟨⟨by decide +kernel, by decide +kernel⟩, xv6 (i := 92) rfl, xv7 (i := 176) rfl, xv7 (i := 177) rfl⟩
theorem lw_p72 : lw_okq (⟨"WorkMeterModel", "wordEnd", "()I"⟩, 15) := ⟨⟨by decide +kernel, by decide +kernel⟩, xv6 (i := 92) rfl, xv7 (i := 180) rfl, xv7 (i := 181) rfl⟩
theorem lw_p73 : lw_okq (⟨"WorkMeterModel", "wrong", "(II)V"⟩, 15) := ⟨⟨by decide +kernel, by decide +kernel⟩, xv6 (i := 92) rfl, xv7 (i := 186) rfl, xv7 (i := 187) rfl⟩
theorem lw_p74 : lw_okq (⟨"WorkMeterModel", "tableLine", "()V"⟩, 15) := ⟨⟨by decide +kernel, by decide +kernel⟩, xv6 (i := 92) rfl, xv7 (i := 190) rfl, xv7 (i := 191) rfl⟩
theorem lw_p75 : lw_okq (⟨"WorkMeterModel", "number", "(II)I"⟩, 15) := ⟨⟨by decide +kernel, by decide +kernel⟩, xv6 (i := 92) rfl, xv7 (i := 194) rfl, xv7 (i := 195) rfl⟩
theorem lw_p76 : lw_okq (⟨"WorkMeterModel", "isDigitNext", "()Z"⟩, 15) := ⟨⟨by decide +kernel, by decide +kernel⟩, xv6 (i := 92) rfl, xv7 (i := 201) rfl, xv7 (i := 202) rfl⟩
theorem lw_p77 : lw_okq (⟨"WorkMeterModel", "must", "(C)V"⟩, 15) := ⟨⟨by decide +kernel, by decide +kernel⟩, xv6 (i := 92) rfl, xv7 (i := 205) rfl, xv7 (i := 206) rfl⟩
theorem lw_p78 : lw_okq (⟨"WorkMeterModel", "isSwitch", "(II)Z"⟩, 15) := ⟨⟨by decide +kernel, by decide +kernel⟩, xv6 (i := 92) rfl, xv7 (i := 209) rfl, xv7 (i := 210) rfl⟩
theorem lw_p79 : lw_okq (⟨"WorkMeterModel", "seasonLine", "()V"⟩, 15) := ⟨⟨by decide +kernel, by decide +kernel⟩, xv6 (i := 92) rfl, xv7 (i := 213) rfl, xv7 (i := 214) rfl⟩
def lw_privs_5 : List (MethodName × Nat) := [(⟨"WorkMeterModel", "specials", "()I"⟩, 15), (⟨"WorkMeterModel", "nextTime", "()I"⟩, 15), (⟨"WorkMeterModel", "comes", "(I)V"⟩, 15), (⟨"WorkMeterModel", "clears", "()V"⟩, 15), (⟨"WorkMeterModel", "blanks", "()V"⟩, 15), (⟨"WorkMeterModel", "line", "()V"⟩, 15), (⟨"WorkMeterModel", "word", "()I"⟩, 15), (⟨"WorkMeterModel", "spells", "(IIIIIIII)Z"⟩, 15), (⟨"WorkMeterModel", "wordEnd", "()I"⟩, 15), (⟨"WorkMeterModel", "wrong", "(II)V"⟩, 15), (⟨"WorkMeterModel", "tableLine", "()V"⟩, 15), (⟨"WorkMeterModel", "number", "(II)I"⟩, 15), (⟨"WorkMeterModel", "isDigitNext", "()Z"⟩, 15), (⟨"WorkMeterModel", "must", "(C)V"⟩, 15), (⟨"WorkMeterModel", "isSwitch", "(II)Z"⟩, 15), (⟨"WorkMeterModel", "seasonLine", "()V"⟩, 15)]
theorem lw_r5 : ∀ q ∈ lw_privs_5, lw_okq q := List.forall_mem_cons.mpr ⟨lw_p64, List.forall_mem_cons.mpr ⟨lw_p65, List.forall_mem_cons.mpr ⟨lw_p66, List.forall_mem_cons.mpr ⟨lw_p67, List.forall_mem_cons.mpr ⟨lw_p68, List.forall_mem_cons.mpr ⟨lw_p69, List.forall_mem_cons.mpr ⟨lw_p70, List.forall_mem_cons.mpr ⟨lw_p71, List.forall_mem_cons.mpr ⟨lw_p72, List.forall_mem_cons.mpr ⟨lw_p73, List.forall_mem_cons.mpr ⟨lw_p74, List.forall_mem_cons.mpr ⟨lw_p75, List.forall_mem_cons.mpr ⟨lw_p76, List.forall_mem_cons.mpr ⟨lw_p77, List.forall_mem_cons.mpr ⟨lw_p78, List.forall_mem_cons.mpr ⟨lw_p79, fun _ h => absurd h List.not_mem_nil⟩⟩⟩⟩⟩⟩⟩⟩⟩⟩⟩⟩⟩⟩⟩⟩
theorem lw_p80 : lw_okq (⟨"WorkMeterModel", "specialLine", "()V"⟩, 15) := ⟨⟨by decide +kernel, by decide +kernel⟩, xv6 (i := 92) rfl, xv7 (i := 217) rfl, xv7 (i := 218) rfl⟩
theorem lw_p81 : lw_okq (⟨"WorkMeterModel", "lockedFor", "()J"⟩, 15) := ⟨⟨by decide +kernel, by decide +kernel⟩, xv6 (i := 92) rfl, xv7 (i := 230) rfl, xv7 (i := 231) rfl⟩
theorem lw_p82 : lw_okq (⟨"WorkMeterModel", "billMany", "()I"⟩, 15) := ⟨⟨by decide +kernel, by decide +kernel⟩, xv6 (i := 92) rfl, xv8 (i := 35) rfl, xv8 (i := 36) rfl⟩
theorem lw_p83 : lw_okq (⟨"WorkMeterModel", "billAt", "(I)I"⟩, 15) := ⟨⟨by decide +kernel, by decide +kernel⟩, xv6 (i := 92) rfl, xv8 (i := 43) rfl, xv8 (i := 44) rfl⟩
theorem lw_p84 : lw_okq (⟨"WorkMeterModel", "seen", "(I)J"⟩, 15) := ⟨⟨by decide +kernel, by decide +kernel⟩, xv6 (i := 92) rfl, xv8 (i := 98) rfl, xv8 (i := 99) rfl⟩
theorem lw_p85 : lw_okq (⟨"WorkMeterModel", "greatestOfAll", "()J"⟩, 15) := ⟨⟨by decide +kernel, by decide +kernel⟩, xv6 (i := 92) rfl, xv8 (i := 102) rfl, xv8 (i := 103) rfl⟩
theorem lw_p86 : lw_okq (⟨"WorkMeterModel", "costFrom", "(II)J"⟩, 15) := ⟨⟨by decide +kernel, by decide +kernel⟩, xv6 (i := 92) rfl, xv8 (i := 110) rfl, xv8 (i := 111) rfl⟩
theorem lw_p87 : lw_okq (⟨"WorkMeterModel", "costOfDay", "(III)J"⟩, 15) := ⟨⟨by decide +kernel, by decide +kernel⟩, xv6 (i := 92) rfl, xv8 (i := 114) rfl, xv8 (i := 115) rfl⟩
def lw_privs_6 : List (MethodName × Nat) := [(⟨"WorkMeterModel", "specialLine", "()V"⟩, 15), (⟨"WorkMeterModel", "lockedFor", "()J"⟩, 15), (⟨"WorkMeterModel", "billMany", "()I"⟩, 15), (⟨"WorkMeterModel", "billAt", "(I)I"⟩, 15), (⟨"WorkMeterModel", "seen", "(I)J"⟩, 15), (⟨"WorkMeterModel", "greatestOfAll", "()J"⟩, 15), (⟨"WorkMeterModel", "costFrom", "(II)J"⟩, 15), (⟨"WorkMeterModel", "costOfDay", "(III)J"⟩, 15)]
theorem lw_r6 : ∀ q ∈ lw_privs_6, lw_okq q := List.forall_mem_cons.mpr ⟨lw_p80, List.forall_mem_cons.mpr ⟨lw_p81, List.forall_mem_cons.mpr ⟨lw_p82, List.forall_mem_cons.mpr ⟨lw_p83, List.forall_mem_cons.mpr ⟨lw_p84, List.forall_mem_cons.mpr ⟨lw_p85, List.forall_mem_cons.mpr ⟨lw_p86, List.forall_mem_cons.mpr ⟨lw_p87, fun _ h => absurd h List.not_mem_nil⟩⟩⟩⟩⟩⟩⟩⟩
def lw_privs : List (MethodName × Nat) := lw_privs_1 ++ (lw_privs_2 ++ (lw_privs_3 ++ (lw_privs_4 ++ (lw_privs_5 ++ (lw_privs_6)))))
def lw_tbl : List Cond := k2_sels lw_privs ++ tables_1
theorem lw_privs_ok : ∀ q ∈ lw_privs, lw_okq q := by
  show ∀ q ∈ lw_privs_1 ++ (lw_privs_2 ++ (lw_privs_3 ++ (lw_privs_4 ++ (lw_privs_5 ++ (lw_privs_6))))), lw_okq q
  exact List.forall_mem_append.mpr ⟨lw_r1, List.forall_mem_append.mpr ⟨lw_r2, List.forall_mem_append.mpr ⟨lw_r3, List.forall_mem_append.mpr ⟨lw_r4, List.forall_mem_append.mpr ⟨lw_r5, lw_r6⟩⟩⟩⟩⟩

/-- a word that every method may take along -/
def xg (w : Jvm.Cond) : Bool := match w with
  | .arrayClass _ => true
  | w => w.onTables && w.keeps
def xTT : List Jvm.Cond := lw_tbl.filter xg
theorem xTT_ok : ∀ w ∈ xTT, (w.onTables && w.keeps) = true ∨ ∃ ty, w = .arrayClass ty := by
  intro w hw
  have h := (List.mem_filter.mp hw).2
  unfold xg at h
  split at h
  · exact .inr ⟨_, rfl⟩
  · exact .inl h
theorem xw1 {i : Nat} {w : Jvm.Cond} (h : tables_1_1[i]? = some w) (hg : xg w = true) : w ∈ xTT := List.mem_filter.mpr ⟨List.mem_append_right _ (List.mem_append_left _ (List.mem_of_getElem? h)), hg⟩
theorem xw2 {i : Nat} {w : Jvm.Cond} (h : tables_1_2[i]? = some w) (hg : xg w = true) : w ∈ xTT := List.mem_filter.mpr ⟨List.mem_append_right _ (List.mem_append_right _ (List.mem_append_left _ (List.mem_of_getElem? h))), hg⟩
theorem xw3 {i : Nat} {w : Jvm.Cond} (h : tables_1_3[i]? = some w) (hg : xg w = true) : w ∈ xTT := List.mem_filter.mpr ⟨List.mem_append_right _ (List.mem_append_right _ (List.mem_append_right _ (List.mem_append_left _ (List.mem_of_getElem? h)))), hg⟩
theorem xw4 {i : Nat} {w : Jvm.Cond} (h : tables_1_4[i]? = some w) (hg : xg w = true) : w ∈ xTT := List.mem_filter.mpr ⟨List.mem_append_right _ (List.mem_append_right _ (List.mem_append_right _ (List.mem_append_right _ (List.mem_append_left _ (List.mem_of_getElem? h))))), hg⟩
theorem xw5 {i : Nat} {w : Jvm.Cond} (h : tables_1_5[i]? = some w) (hg : xg w = true) : w ∈ xTT := List.mem_filter.mpr ⟨List.mem_append_right _ (List.mem_append_right _ (List.mem_append_right _ (List.mem_append_right _ (List.mem_append_right _ (List.mem_append_left _ (List.mem_of_getElem? h)))))), hg⟩
theorem xw6 {i : Nat} {w : Jvm.Cond} (h : tables_1_6[i]? = some w) (hg : xg w = true) : w ∈ xTT := List.mem_filter.mpr ⟨List.mem_append_right _ (List.mem_append_right _ (List.mem_append_right _ (List.mem_append_right _ (List.mem_append_right _ (List.mem_append_right _ (List.mem_append_left _ (List.mem_of_getElem? h))))))), hg⟩
theorem xw7 {i : Nat} {w : Jvm.Cond} (h : tables_1_7[i]? = some w) (hg : xg w = true) : w ∈ xTT := List.mem_filter.mpr ⟨List.mem_append_right _ (List.mem_append_right _ (List.mem_append_right _ (List.mem_append_right _ (List.mem_append_right _ (List.mem_append_right _ (List.mem_append_right _ (List.mem_append_left _ (List.mem_of_getElem? h)))))))), hg⟩
theorem xw8 {i : Nat} {w : Jvm.Cond} (h : tables_1_8[i]? = some w) (hg : xg w = true) : w ∈ xTT := List.mem_filter.mpr ⟨List.mem_append_right _ (List.mem_append_right _ (List.mem_append_right _ (List.mem_append_right _ (List.mem_append_right _ (List.mem_append_right _ (List.mem_append_right _ (List.mem_append_right _ (List.mem_of_getElem? h)))))))), hg⟩
theorem xwS {i : Nat} {w : Jvm.Cond} (h : (k2_sels lw_privs)[i]? = some w) (hg : xg w = true) : w ∈ xTT := List.mem_filter.mpr ⟨List.mem_append_left _ (List.mem_of_getElem? h), hg⟩
theorem q1 : (Jvm.Cond.initialized "WorkMeter") ∈ xTT := xw1 (i := 1) rfl rfl
theorem q2 : (Jvm.Cond.initialized "WorkMeter$Meter") ∈ xTT := xw1 (i := 2) rfl rfl
theorem q3 : (Jvm.Cond.initialized "WorkMeter$Settings") ∈ xTT := xw1 (i := 3) rfl rfl
theorem q4 : (Jvm.Cond.initialized "java/lang/System") ∈ xTT := xw1 (i := 4) rfl rfl
theorem q5 : (Jvm.Cond.initialized "WorkMeter$Calendar") ∈ xTT := xw1 (i := 5) rfl rfl
theorem q6 : (Jvm.Cond.initialized "java/util/Arrays") ∈ xTT := xw1 (i := 6) rfl rfl
theorem q7 : (Jvm.Cond.initialized "WorkMeter$Wave") ∈ xTT := xw1 (i := 7) rfl rfl
theorem q8 : (Jvm.Cond.initialized "WorkMeter$Registers") ∈ xTT := xw1 (i := 8) rfl rfl
theorem q9 : (Jvm.Cond.initialized "WorkMeter$Load") ∈ xTT := xw1 (i := 9) rfl rfl
theorem q10 : (Jvm.Cond.initialized "WorkMeter$Demand") ∈ xTT := xw1 (i := 10) rfl rfl
theorem q11 : (Jvm.Cond.initialized "WorkMeter$Marks") ∈ xTT := xw1 (i := 11) rfl rfl
theorem q12 : (Jvm.Cond.initialized "WorkMeter$Logbook") ∈ xTT := xw1 (i := 12) rfl rfl
theorem q13 : (Jvm.Cond.initialized "WorkMeter$Seal") ∈ xTT := xw1 (i := 13) rfl rfl
theorem q14 : (Jvm.Cond.initialized "WorkMeter$CalendarText") ∈ xTT := xw1 (i := 14) rfl rfl
theorem q15 : (Jvm.Cond.initialized "WorkMeterModel") ∈ xTT := xw1 (i := 15) rfl rfl
theorem q16 : (Jvm.Cond.initialized "java/lang/Math") ∈ xTT := xw1 (i := 16) rfl rfl
theorem q17 : (Jvm.Cond.initialized "java/lang/String") ∈ xTT := xw1 (i := 17) rfl rfl
theorem q18 : (Jvm.Cond.initialized "java/lang/StringLatin1") ∈ xTT := xw1 (i := 18) rfl rfl
theorem q19 : (Jvm.Cond.initialized "jdk/internal/util/Preconditions") ∈ xTT := xw1 (i := 19) rfl rfl
theorem q21 : (Jvm.Cond.classLink "WorkMeterLaw" (7 : Nat) "WorkMeter") ∈ xTT := xw1 (i := 21) rfl rfl
theorem q22 : (Jvm.Cond.instantiable "WorkMeter" (5 : Nat)) ∈ xTT := xw1 (i := 22) rfl rfl
theorem q23 : (Jvm.Cond.methodLink "WorkMeterLaw" (9 : Nat) ({ cls := "WorkMeter", name := "<init>", desc := "()V" } : Jvm.MethodName)) ∈ xTT := xw1 (i := 23) rfl rfl
theorem q24 : (Jvm.Cond.instanceMethod ({ cls := "WorkMeter", name := "<init>", desc := "()V" } : Jvm.MethodName)) ∈ xTT := xw1 (i := 24) rfl rfl
theorem q25 : (Jvm.Cond.code ({ cls := "WorkMeter", name := "<init>", desc := "()V" } : Jvm.MethodName) prog_1_method_1_code (1 : Nat) (Option.none : Option Jvm.ClassFile.FieldType)) ∈ xTT := xw1 (i := 25) rfl rfl
theorem q26 : (Jvm.Cond.methodLink "WorkMeter" (3 : Nat) ({ cls := "java/lang/Object", name := "<init>", desc := "()V" } : Jvm.MethodName)) ∈ xTT := xw1 (i := 26) rfl rfl
theorem q27 : (Jvm.Cond.instanceMethod ({ cls := "java/lang/Object", name := "<init>", desc := "()V" } : Jvm.MethodName)) ∈ xTT := xw1 (i := 27) rfl rfl
theorem q28 : (Jvm.Cond.code ({ cls := "java/lang/Object", name := "<init>", desc := "()V" } : Jvm.MethodName) object_method_1_code (1 : Nat) (Option.none : Option Jvm.ClassFile.FieldType)) ∈ xTT := xw1 (i := 28) rfl rfl
theorem q29 : (Jvm.Cond.classLink "WorkMeter" (9 : Nat) "WorkMeter$Meter") ∈ xTT := xw1 (i := 29) rfl rfl
theorem q30 : (Jvm.Cond.instantiable "WorkMeter$Meter" (16 : Nat)) ∈ xTT := xw1 (i := 30) rfl rfl
theorem q32 : (Jvm.Cond.instanceMethod ({ cls := "WorkMeter$Meter", name := "<init>", desc := "()V" } : Jvm.MethodName)) ∈ xTT := xw1 (i := 32) rfl rfl
theorem q33 : (Jvm.Cond.code ({ cls := "WorkMeter$Meter", name := "<init>", desc := "()V" } : Jvm.MethodName) prog_8_method_1_code (1 : Nat) (Option.none : Option Jvm.ClassFile.FieldType)) ∈ xTT := xw1 (i := 33) rfl rfl
theorem q34 : (Jvm.Cond.methodLink "WorkMeter$Meter" (3 : Nat) ({ cls := "java/lang/Object", name := "<init>", desc := "()V" } : Jvm.MethodName)) ∈ xTT := xw1 (i := 34) rfl rfl
theorem q35 : (Jvm.Cond.classLink "WorkMeter$Meter" (9 : Nat) "WorkMeter$Settings") ∈ xTT := xw1 (i := 35) rfl rfl
theorem q36 : (Jvm.Cond.instantiable "WorkMeter$Settings" (1 : Nat)) ∈ xTT := xw1 (i := 36) rfl rfl
theorem q37 : (Jvm.Cond.methodLink "WorkMeter$Meter" (11 : Nat) ({ cls := "WorkMeter$Settings", name := "<init>", desc := "()V" } : Jvm.MethodName)) ∈ xTT := xw1 (i := 37) rfl rfl
theorem q38 : (Jvm.Cond.instanceMethod ({ cls := "WorkMeter$Settings", name := "<init>", desc := "()V" } : Jvm.MethodName)) ∈ xTT := xw1 (i := 38) rfl rfl
theorem q39 : (Jvm.Cond.code ({ cls := "WorkMeter$Settings", name := "<init>", desc := "()V" } : Jvm.MethodName) prog_11_method_1_code (1 : Nat) (Option.none : Option Jvm.ClassFile.FieldType)) ∈ xTT := xw1 (i := 39) rfl rfl
theorem q40 : (Jvm.Cond.methodLink "WorkMeter$Settings" (3 : Nat) ({ cls := "java/lang/Object", name := "<init>", desc := "()V" } : Jvm.MethodName)) ∈ xTT := xw1 (i := 40) rfl rfl
theorem q41 : (Jvm.Cond.fieldLink "WorkMeter$Settings" (15 : Nat) "WorkMeter$Settings" "AT_FIRST" "[I") ∈ xTT := xw1 (i := 41) rfl rfl
theorem q43 : (Jvm.Cond.methodLink "WorkMeter$Settings" (18 : Nat) ({ cls := "java/lang/System", name := "arraycopy", desc := "(Ljava/lang/Object;ILjava/lang/Object;II)V" } : Jvm.MethodName)) ∈ xTT := xw1 (i := 43) rfl rfl
theorem q44 : (Jvm.Cond.static ({ cls := "java/lang/System", name := "arraycopy", desc := "(Ljava/lang/Object;ILjava/lang/Object;II)V" } : Jvm.MethodName)) ∈ xTT := xw1 (i := 44) rfl rfl
theorem q45 : (Jvm.Cond.native ({ cls := "java/lang/System", name := "arraycopy", desc := "(Ljava/lang/Object;ILjava/lang/Object;II)V" } : Jvm.MethodName)) ∈ xTT := xw1 (i := 45) rfl rfl
theorem q46 : (Jvm.Cond.fieldLink "WorkMeter$Settings" (11 : Nat) "WorkMeter$Settings" "values" "[I") ∈ xTT := xw1 (i := 46) rfl rfl
theorem q47 : (Jvm.Cond.laysFinal "WorkMeter$Settings" "WorkMeter$Settings" "values" "[I") ∈ xTT := xw1 (i := 47) rfl rfl
theorem q50 : (Jvm.Cond.arrayClass Jvm.ClassFile.FieldType.int) ∈ xTT := xw1 (i := 50) rfl rfl
theorem q51 : (Jvm.Cond.classLink "WorkMeter$Meter" (18 : Nat) "WorkMeter$Calendar") ∈ xTT := xw1 (i := 51) rfl rfl
theorem q52 : (Jvm.Cond.instantiable "WorkMeter$Calendar" (8 : Nat)) ∈ xTT := xw1 (i := 52) rfl rfl
theorem q53 : (Jvm.Cond.methodLink "WorkMeter$Meter" (20 : Nat) ({ cls := "WorkMeter$Calendar", name := "<init>", desc := "()V" } : Jvm.MethodName)) ∈ xTT := xw1 (i := 53) rfl rfl
theorem q54 : (Jvm.Cond.instanceMethod ({ cls := "WorkMeter$Calendar", name := "<init>", desc := "()V" } : Jvm.MethodName)) ∈ xTT := xw1 (i := 54) rfl rfl
theorem q55 : (Jvm.Cond.code ({ cls := "WorkMeter$Calendar", name := "<init>", desc := "()V" } : Jvm.MethodName) prog_2_method_1_code (1 : Nat) (Option.none : Option Jvm.ClassFile.FieldType)) ∈ xTT := xw1 (i := 55) rfl rfl
theorem q56 : (Jvm.Cond.methodLink "WorkMeter$Calendar" (5 : Nat) ({ cls := "java/lang/Object", name := "<init>", desc := "()V" } : Jvm.MethodName)) ∈ xTT := xw1 (i := 56) rfl rfl
theorem q57 : (Jvm.Cond.methodLink "WorkMeter$Calendar" (33 : Nat) ({ cls := "WorkMeter$Calendar", name := "clearAll", desc := "()V" } : Jvm.MethodName)) ∈ xTT := xw1 (i := 57) rfl rfl
theorem q58 : (Jvm.Cond.instanceMethod ({ cls := "WorkMeter$Calendar", name := "clearAll", desc := "()V" } : Jvm.MethodName)) ∈ xTT := xw1 (i := 58) rfl rfl
theorem q59 : (Jvm.Cond.selects "WorkMeter$Calendar" ({ cls := "WorkMeter$Calendar", name := "clearAll", desc := "()V" } : Jvm.MethodName) ({ cls := "WorkMeter$Calendar", name := "clearAll", desc := "()V" } : Jvm.MethodName)) ∈ xTT := xw1 (i := 59) rfl rfl
theorem q60 : (Jvm.Cond.code ({ cls := "WorkMeter$Calendar", name := "clearAll", desc := "()V" } : Jvm.MethodName) prog_2_method_2_code (1 : Nat) (Option.none : Option Jvm.ClassFile.FieldType)) ∈ xTT := xw1 (i := 60) rfl rfl
theorem q61 : (Jvm.Cond.methodLink "WorkMeter$Calendar" (36 : Nat) ({ cls := "java/util/Arrays", name := "fill", desc := "([II)V" } : Jvm.MethodName)) ∈ xTT := xw1 (i := 61) rfl rfl
theorem q62 : (Jvm.Cond.static ({ cls := "java/util/Arrays", name := "fill", desc := "([II)V" } : Jvm.MethodName)) ∈ xTT := xw1 (i := 62) rfl rfl
theorem q63 : (Jvm.Cond.code ({ cls := "java/util/Arrays", name := "fill", desc := "([II)V" } : Jvm.MethodName) prog_20_method_103_code (4 : Nat) (Option.none : Option Jvm.ClassFile.FieldType)) ∈ xTT := xw1 (i := 63) rfl rfl
theorem q64 : (Jvm.Cond.fieldLink "WorkMeter$Calendar" (11 : Nat) "WorkMeter$Calendar" "counts" "[I") ∈ xTT := xw1 (i := 64) rfl rfl
theorem q65 : (Jvm.Cond.fieldLink "WorkMeter$CalendarText" (113 : Nat) "WorkMeter$Calendar" "counts" "[I") ∈ xTT := xw1 (i := 65) rfl rfl
theorem q66 : (Jvm.Cond.fieldLink "WorkMeter" (250 : Nat) "WorkMeter$Calendar" "counts" "[I") ∈ xTT := xw1 (i := 66) rfl rfl
theorem q67 : (Jvm.Cond.fieldLink "WorkMeter$Calendar" (15 : Nat) "WorkMeter$Calendar" "seconds" "[I") ∈ xTT := xw1 (i := 67) rfl rfl
theorem q68 : (Jvm.Cond.fieldLink "WorkMeter" (253 : Nat) "WorkMeter$Calendar" "seconds" "[I") ∈ xTT := xw1 (i := 68) rfl rfl
theorem q69 : (Jvm.Cond.fieldLink "WorkMeter$Calendar" (18 : Nat) "WorkMeter$Calendar" "tariffs" "[I") ∈ xTT := xw1 (i := 69) rfl rfl
theorem q70 : (Jvm.Cond.fieldLink "WorkMeter" (256 : Nat) "WorkMeter$Calendar" "tariffs" "[I") ∈ xTT := xw1 (i := 70) rfl rfl
theorem q71 : (Jvm.Cond.fieldLink "WorkMeter$Calendar" (21 : Nat) "WorkMeter$Calendar" "begins" "[I") ∈ xTT := xw1 (i := 71) rfl rfl
theorem q72 : (Jvm.Cond.fieldLink "WorkMeter$CalendarText" (126 : Nat) "WorkMeter$Calendar" "begins" "[I") ∈ xTT := xw1 (i := 72) rfl rfl
theorem q73 : (Jvm.Cond.fieldLink "WorkMeter" (154 : Nat) "WorkMeter$Calendar" "begins" "[I") ∈ xTT := xw1 (i := 73) rfl rfl
theorem q74 : (Jvm.Cond.fieldLink "WorkMeter$Calendar" (24 : Nat) "WorkMeter$Calendar" "weeks" "[I") ∈ xTT := xw1 (i := 74) rfl rfl
theorem q75 : (Jvm.Cond.fieldLink "WorkMeter$CalendarText" (129 : Nat) "WorkMeter$Calendar" "weeks" "[I") ∈ xTT := xw1 (i := 75) rfl rfl
theorem q76 : (Jvm.Cond.fieldLink "WorkMeter" (157 : Nat) "WorkMeter$Calendar" "weeks" "[I") ∈ xTT := xw1 (i := 76) rfl rfl
theorem q77 : (Jvm.Cond.fieldLink "WorkMeter$Calendar" (27 : Nat) "WorkMeter$Calendar" "specialDays" "[I") ∈ xTT := xw1 (i := 77) rfl rfl
theorem q78 : (Jvm.Cond.fieldLink "WorkMeter$Calendar" (30 : Nat) "WorkMeter$Calendar" "specialTables" "[I") ∈ xTT := xw1 (i := 78) rfl rfl
theorem q79 : (Jvm.Cond.fieldLink "WorkMeter$Calendar" (42 : Nat) "WorkMeter$Calendar" "specials" "I") ∈ xTT := xw1 (i := 79) rfl rfl
theorem q80 : (Jvm.Cond.fieldLink "WorkMeter$CalendarText" (132 : Nat) "WorkMeter$Calendar" "specials" "I") ∈ xTT := xw1 (i := 80) rfl rfl
theorem q81 : (Jvm.Cond.fieldLink "WorkMeter" (415 : Nat) "WorkMeter$Calendar" "specials" "I") ∈ xTT := xw1 (i := 81) rfl rfl
theorem q82 : (Jvm.Cond.laysFinal "WorkMeter$Calendar" "WorkMeter$Calendar" "counts" "[I") ∈ xTT := xw1 (i := 82) rfl rfl
theorem q84 : (Jvm.Cond.laysFinal "WorkMeter$Calendar" "WorkMeter$Calendar" "seconds" "[I") ∈ xTT := xw1 (i := 84) rfl rfl
theorem q86 : (Jvm.Cond.laysFinal "WorkMeter$Calendar" "WorkMeter$Calendar" "tariffs" "[I") ∈ xTT := xw1 (i := 86) rfl rfl
theorem q88 : (Jvm.Cond.laysFinal "WorkMeter$Calendar" "WorkMeter$Calendar" "begins" "[I") ∈ xTT := xw1 (i := 88) rfl rfl
theorem q90 : (Jvm.Cond.laysFinal "WorkMeter$Calendar" "WorkMeter$Calendar" "weeks" "[I") ∈ xTT := xw1 (i := 90) rfl rfl
theorem q92 : (Jvm.Cond.laysFinal "WorkMeter$Calendar" "WorkMeter$Calendar" "specialDays" "[I") ∈ xTT := xw1 (i := 92) rfl rfl
theorem q94 : (Jvm.Cond.laysFinal "WorkMeter$Calendar" "WorkMeter$Calendar" "specialTables" "[I") ∈ xTT := xw1 (i := 94) rfl rfl
theorem q96 : (Jvm.Cond.lays "WorkMeter$Calendar" "WorkMeter$Calendar" "specials" "I") ∈ xTT := xw1 (i := 96) rfl rfl
theorem q99 : (Jvm.Cond.classLink "WorkMeter$Meter" (25 : Nat) "WorkMeter$Wave") ∈ xTT := xw1 (i := 99) rfl rfl
theorem q100 : (Jvm.Cond.instantiable "WorkMeter$Wave" (7 : Nat)) ∈ xTT := xw1 (i := 100) rfl rfl
theorem q102 : (Jvm.Cond.instanceMethod ({ cls := "WorkMeter$Wave", name := "<init>", desc := "()V" } : Jvm.MethodName)) ∈ xTT := xw1 (i := 102) rfl rfl
theorem q103 : (Jvm.Cond.code ({ cls := "WorkMeter$Wave", name := "<init>", desc := "()V" } : Jvm.MethodName) prog_12_method_1_code (1 : Nat) (Option.none : Option Jvm.ClassFile.FieldType)) ∈ xTT := xw1 (i := 103) rfl rfl
theorem q104 : (Jvm.Cond.methodLink "WorkMeter$Wave" (5 : Nat) ({ cls := "java/lang/Object", name := "<init>", desc := "()V" } : Jvm.MethodName)) ∈ xTT := xw1 (i := 104) rfl rfl
theorem q105 : (Jvm.Cond.fieldLink "WorkMeter$Wave" (11 : Nat) "WorkMeter$Wave" "u" "[I") ∈ xTT := xw1 (i := 105) rfl rfl
theorem q106 : (Jvm.Cond.fieldLink "WorkMeter$Wave" (15 : Nat) "WorkMeter$Wave" "i" "[I") ∈ xTT := xw1 (i := 106) rfl rfl
theorem q107 : (Jvm.Cond.fieldLink "WorkMeter$Wave" (18 : Nat) "WorkMeter$Wave" "sums" "[J") ∈ xTT := xw1 (i := 107) rfl rfl
theorem q108 : (Jvm.Cond.fieldLink "WorkMeter$Wave" (22 : Nat) "WorkMeter$Wave" "phases" "I") ∈ xTT := xw1 (i := 108) rfl rfl
theorem q109 : (Jvm.Cond.fieldLink "WorkMeter" (222 : Nat) "WorkMeter$Wave" "phases" "I") ∈ xTT := xw1 (i := 109) rfl rfl
theorem q110 : (Jvm.Cond.fieldLink "WorkMeter$Wave" (26 : Nat) "WorkMeter$Wave" "samples" "I") ∈ xTT := xw1 (i := 110) rfl rfl
theorem q111 : (Jvm.Cond.fieldLink "WorkMeter" (412 : Nat) "WorkMeter$Wave" "samples" "I") ∈ xTT := xw1 (i := 111) rfl rfl
theorem q112 : (Jvm.Cond.fieldLink "WorkMeter$Wave" (35 : Nat) "WorkMeter$Wave" "come" "I") ∈ xTT := xw1 (i := 112) rfl rfl
theorem q113 : (Jvm.Cond.fieldLink "WorkMeter" (56 : Nat) "WorkMeter$Wave" "come" "I") ∈ xTT := xw1 (i := 113) rfl rfl
theorem q114 : (Jvm.Cond.fieldLink "WorkMeter$Meter" (193 : Nat) "WorkMeter$Wave" "come" "I") ∈ xTT := xw1 (i := 114) rfl rfl
theorem q115 : (Jvm.Cond.fieldLink "WorkMeter$Wave" (38 : Nat) "WorkMeter$Wave" "apparent" "J") ∈ xTT := xw1 (i := 115) rfl rfl
theorem q116 : (Jvm.Cond.fieldLink "WorkMeter$Meter" (283 : Nat) "WorkMeter$Wave" "apparent" "J") ∈ xTT := xw1 (i := 116) rfl rfl
theorem q117 : (Jvm.Cond.laysFinal "WorkMeter$Wave" "WorkMeter$Wave" "u" "[I") ∈ xTT := xw1 (i := 117) rfl rfl
theorem q119 : (Jvm.Cond.laysFinal "WorkMeter$Wave" "WorkMeter$Wave" "i" "[I") ∈ xTT := xw1 (i := 119) rfl rfl
theorem q121 : (Jvm.Cond.laysFinal "WorkMeter$Wave" "WorkMeter$Wave" "sums" "[J") ∈ xTT := xw1 (i := 121) rfl rfl
theorem q123 : (Jvm.Cond.lays "WorkMeter$Wave" "WorkMeter$Wave" "phases" "I") ∈ xTT := xw1 (i := 123) rfl rfl
theorem q125 : (Jvm.Cond.lays "WorkMeter$Wave" "WorkMeter$Wave" "samples" "I") ∈ xTT := xw1 (i := 125) rfl rfl
theorem q127 : (Jvm.Cond.lays "WorkMeter$Wave" "WorkMeter$Wave" "come" "I") ∈ xTT := xw1 (i := 127) rfl rfl
theorem q129 : (Jvm.Cond.lays "WorkMeter$Wave" "WorkMeter$Wave" "apparent" "J") ∈ xTT := xw1 (i := 129) rfl rfl
theorem q132 : (Jvm.Cond.arrayClass Jvm.ClassFile.FieldType.long) ∈ xTT := xw1 (i := 132) rfl rfl
theorem q133 : (Jvm.Cond.classLink "WorkMeter$Meter" (32 : Nat) "WorkMeter$Registers") ∈ xTT := xw1 (i := 133) rfl rfl
theorem q134 : (Jvm.Cond.instantiable "WorkMeter$Registers" (4 : Nat)) ∈ xTT := xw1 (i := 134) rfl rfl
theorem q136 : (Jvm.Cond.instanceMethod ({ cls := "WorkMeter$Registers", name := "<init>", desc := "()V" } : Jvm.MethodName)) ∈ xTT := xw1 (i := 136) rfl rfl
theorem q137 : (Jvm.Cond.code ({ cls := "WorkMeter$Registers", name := "<init>", desc := "()V" } : Jvm.MethodName) prog_9_method_1_code (1 : Nat) (Option.none : Option Jvm.ClassFile.FieldType)) ∈ xTT := xw1 (i := 137) rfl rfl
theorem q138 : (Jvm.Cond.methodLink "WorkMeter$Registers" (5 : Nat) ({ cls := "java/lang/Object", name := "<init>", desc := "()V" } : Jvm.MethodName)) ∈ xTT := xw1 (i := 138) rfl rfl
theorem q139 : (Jvm.Cond.fieldLink "WorkMeter$Registers" (11 : Nat) "WorkMeter$Registers" "raw" "[J") ∈ xTT := xw1 (i := 139) rfl rfl
theorem q140 : (Jvm.Cond.fieldLink "WorkMeter$Registers" (15 : Nat) "WorkMeter$Registers" "atBill" "[J") ∈ xTT := xw1 (i := 140) rfl rfl
theorem q141 : (Jvm.Cond.fieldLink "WorkMeter$Registers" (18 : Nat) "WorkMeter$Registers" "rows" "[J") ∈ xTT := xw1 (i := 141) rfl rfl
theorem q142 : (Jvm.Cond.fieldLink "WorkMeter$Registers" (27 : Nat) "WorkMeter$Registers" "bills" "I") ∈ xTT := xw1 (i := 142) rfl rfl
theorem q143 : (Jvm.Cond.fieldLink "WorkMeter" (217 : Nat) "WorkMeter$Registers" "bills" "I") ∈ xTT := xw1 (i := 143) rfl rfl
theorem q144 : (Jvm.Cond.laysFinal "WorkMeter$Registers" "WorkMeter$Registers" "raw" "[J") ∈ xTT := xw1 (i := 144) rfl rfl
theorem q146 : (Jvm.Cond.laysFinal "WorkMeter$Registers" "WorkMeter$Registers" "atBill" "[J") ∈ xTT := xw1 (i := 146) rfl rfl
theorem q148 : (Jvm.Cond.laysFinal "WorkMeter$Registers" "WorkMeter$Registers" "rows" "[J") ∈ xTT := xw1 (i := 148) rfl rfl
theorem q150 : (Jvm.Cond.lays "WorkMeter$Registers" "WorkMeter$Registers" "bills" "I") ∈ xTT := xw1 (i := 150) rfl rfl
theorem q153 : (Jvm.Cond.classLink "WorkMeter$Meter" (39 : Nat) "WorkMeter$Load") ∈ xTT := xw1 (i := 153) rfl rfl
theorem q154 : (Jvm.Cond.instantiable "WorkMeter$Load" (10 : Nat)) ∈ xTT := xw1 (i := 154) rfl rfl
theorem q156 : (Jvm.Cond.instanceMethod ({ cls := "WorkMeter$Load", name := "<init>", desc := "()V" } : Jvm.MethodName)) ∈ xTT := xw1 (i := 156) rfl rfl
theorem q157 : (Jvm.Cond.code ({ cls := "WorkMeter$Load", name := "<init>", desc := "()V" } : Jvm.MethodName) prog_5_method_1_code (1 : Nat) (Option.none : Option Jvm.ClassFile.FieldType)) ∈ xTT := xw1 (i := 157) rfl rfl
theorem q158 : (Jvm.Cond.methodLink "WorkMeter$Load" (3 : Nat) ({ cls := "java/lang/Object", name := "<init>", desc := "()V" } : Jvm.MethodName)) ∈ xTT := xw1 (i := 158) rfl rfl
theorem q159 : (Jvm.Cond.fieldLink "WorkMeter$Load" (11 : Nat) "WorkMeter$Load" "lines" "[J") ∈ xTT := xw1 (i := 159) rfl rfl
theorem q160 : (Jvm.Cond.fieldLink "WorkMeter$Load" (15 : Nat) "WorkMeter$Load" "lostSums" "[J") ∈ xTT := xw1 (i := 160) rfl rfl
theorem q161 : (Jvm.Cond.fieldLink "WorkMeter" (365 : Nat) "WorkMeter$Load" "lostSums" "[J") ∈ xTT := xw1 (i := 161) rfl rfl
theorem q162 : (Jvm.Cond.fieldLink "WorkMeter$Load" (24 : Nat) "WorkMeter$Load" "count" "I") ∈ xTT := xw1 (i := 162) rfl rfl
theorem q163 : (Jvm.Cond.fieldLink "WorkMeter" (411 : Nat) "WorkMeter$Load" "count" "I") ∈ xTT := xw1 (i := 163) rfl rfl
theorem q164 : (Jvm.Cond.fieldLink "WorkMeter$Load" (28 : Nat) "WorkMeter$Load" "imported" "J") ∈ xTT := xw1 (i := 164) rfl rfl
theorem q165 : (Jvm.Cond.fieldLink "WorkMeter" (281 : Nat) "WorkMeter$Load" "imported" "J") ∈ xTT := xw1 (i := 165) rfl rfl
theorem q166 : (Jvm.Cond.fieldLink "WorkMeter$Load" (32 : Nat) "WorkMeter$Load" "exported" "J") ∈ xTT := xw1 (i := 166) rfl rfl
theorem q167 : (Jvm.Cond.fieldLink "WorkMeter" (284 : Nat) "WorkMeter$Load" "exported" "J") ∈ xTT := xw1 (i := 167) rfl rfl
theorem q168 : (Jvm.Cond.fieldLink "WorkMeter$Load" (35 : Nat) "WorkMeter$Load" "apparent" "J") ∈ xTT := xw1 (i := 168) rfl rfl
theorem q169 : (Jvm.Cond.fieldLink "WorkMeter" (287 : Nat) "WorkMeter$Load" "apparent" "J") ∈ xTT := xw1 (i := 169) rfl rfl
theorem q170 : (Jvm.Cond.fieldLink "WorkMeter$Load" (38 : Nat) "WorkMeter$Load" "metered" "I") ∈ xTT := xw1 (i := 170) rfl rfl
theorem q171 : (Jvm.Cond.fieldLink "WorkMeter" (290 : Nat) "WorkMeter$Load" "metered" "I") ∈ xTT := xw1 (i := 171) rfl rfl
theorem q172 : (Jvm.Cond.fieldLink "WorkMeter$Load" (41 : Nat) "WorkMeter$Load" "off" "I") ∈ xTT := xw1 (i := 172) rfl rfl
theorem q173 : (Jvm.Cond.fieldLink "WorkMeter" (293 : Nat) "WorkMeter$Load" "off" "I") ∈ xTT := xw1 (i := 173) rfl rfl
theorem q174 : (Jvm.Cond.fieldLink "WorkMeter$Load" (44 : Nat) "WorkMeter$Load" "marksOn" "I") ∈ xTT := xw1 (i := 174) rfl rfl
theorem q175 : (Jvm.Cond.fieldLink "WorkMeter$Load" (47 : Nat) "WorkMeter$Load" "began" "I") ∈ xTT := xw1 (i := 175) rfl rfl
theorem q176 : (Jvm.Cond.fieldLink "WorkMeter$Meter" (179 : Nat) "WorkMeter$Load" "began" "I") ∈ xTT := xw1 (i := 176) rfl rfl
theorem q177 : (Jvm.Cond.laysFinal "WorkMeter$Load" "WorkMeter$Load" "lines" "[J") ∈ xTT := xw1 (i := 177) rfl rfl
theorem q179 : (Jvm.Cond.laysFinal "WorkMeter$Load" "WorkMeter$Load" "lostSums" "[J") ∈ xTT := xw1 (i := 179) rfl rfl
theorem q181 : (Jvm.Cond.lays "WorkMeter$Load" "WorkMeter$Load" "count" "I") ∈ xTT := xw1 (i := 181) rfl rfl
theorem q183 : (Jvm.Cond.lays "WorkMeter$Load" "WorkMeter$Load" "imported" "J") ∈ xTT := xw1 (i := 183) rfl rfl
theorem q185 : (Jvm.Cond.lays "WorkMeter$Load" "WorkMeter$Load" "exported" "J") ∈ xTT := xw1 (i := 185) rfl rfl
theorem q187 : (Jvm.Cond.lays "WorkMeter$Load" "WorkMeter$Load" "apparent" "J") ∈ xTT := xw1 (i := 187) rfl rfl
theorem q189 : (Jvm.Cond.lays "WorkMeter$Load" "WorkMeter$Load" "metered" "I") ∈ xTT := xw1 (i := 189) rfl rfl
theorem q191 : (Jvm.Cond.lays "WorkMeter$Load" "WorkMeter$Load" "off" "I") ∈ xTT := xw1 (i := 191) rfl rfl
theorem q193 : (Jvm.Cond.lays "WorkMeter$Load" "WorkMeter$Load" "marksOn" "I") ∈ xTT := xw1 (i := 193) rfl rfl
theorem q195 : (Jvm.Cond.lays "WorkMeter$Load" "WorkMeter$Load" "began" "I") ∈ xTT := xw1 (i := 195) rfl rfl
theorem q198 : (Jvm.Cond.classLink "WorkMeter$Meter" (46 : Nat) "WorkMeter$Demand") ∈ xTT := xw1 (i := 198) rfl rfl
theorem q199 : (Jvm.Cond.instantiable "WorkMeter$Demand" (4 : Nat)) ∈ xTT := xw1 (i := 199) rfl rfl
theorem q200 : (Jvm.Cond.methodLink "WorkMeter$Meter" (48 : Nat) ({ cls := "WorkMeter$Demand", name := "<init>", desc := "()V" } : Jvm.MethodName)) ∈ xTT := xw1 (i := 200) rfl rfl
theorem q201 : (Jvm.Cond.instanceMethod ({ cls := "WorkMeter$Demand", name := "<init>", desc := "()V" } : Jvm.MethodName)) ∈ xTT := xw1 (i := 201) rfl rfl
theorem q202 : (Jvm.Cond.code ({ cls := "WorkMeter$Demand", name := "<init>", desc := "()V" } : Jvm.MethodName) prog_4_method_1_code (1 : Nat) (Option.none : Option Jvm.ClassFile.FieldType)) ∈ xTT := xw1 (i := 202) rfl rfl
theorem q203 : (Jvm.Cond.methodLink "WorkMeter$Demand" (3 : Nat) ({ cls := "java/lang/Object", name := "<init>", desc := "()V" } : Jvm.MethodName)) ∈ xTT := xw1 (i := 203) rfl rfl
theorem q204 : (Jvm.Cond.constantLong "WorkMeter$Demand" (19 : Nat) (-1 : Int64)) ∈ xTT := xw1 (i := 204) rfl rfl
theorem q205 : (Jvm.Cond.methodLink "WorkMeter$Demand" (29 : Nat) ({ cls := "WorkMeter$Demand", name := "clearMost", desc := "()V" } : Jvm.MethodName)) ∈ xTT := xw1 (i := 205) rfl rfl
theorem q206 : (Jvm.Cond.instanceMethod ({ cls := "WorkMeter$Demand", name := "clearMost", desc := "()V" } : Jvm.MethodName)) ∈ xTT := xw1 (i := 206) rfl rfl
theorem q207 : (Jvm.Cond.selects "WorkMeter$Demand" ({ cls := "WorkMeter$Demand", name := "clearMost", desc := "()V" } : Jvm.MethodName) ({ cls := "WorkMeter$Demand", name := "clearMost", desc := "()V" } : Jvm.MethodName)) ∈ xTT := xw1 (i := 207) rfl rfl
theorem q208 : (Jvm.Cond.code ({ cls := "WorkMeter$Demand", name := "clearMost", desc := "()V" } : Jvm.MethodName) prog_4_method_2_code (1 : Nat) (Option.none : Option Jvm.ClassFile.FieldType)) ∈ xTT := xw1 (i := 208) rfl rfl
theorem q209 : (Jvm.Cond.methodLink "WorkMeter$Demand" (32 : Nat) ({ cls := "java/util/Arrays", name := "fill", desc := "([JJ)V" } : Jvm.MethodName)) ∈ xTT := xw1 (i := 209) rfl rfl
theorem q210 : (Jvm.Cond.static ({ cls := "java/util/Arrays", name := "fill", desc := "([JJ)V" } : Jvm.MethodName)) ∈ xTT := xw1 (i := 210) rfl rfl
theorem q211 : (Jvm.Cond.code ({ cls := "java/util/Arrays", name := "fill", desc := "([JJ)V" } : Jvm.MethodName) prog_20_method_101_code (5 : Nat) (Option.none : Option Jvm.ClassFile.FieldType)) ∈ xTT := xw1 (i := 211) rfl rfl
theorem q212 : (Jvm.Cond.methodLink "WorkMeter$Demand" (38 : Nat) ({ cls := "java/util/Arrays", name := "fill", desc := "([II)V" } : Jvm.MethodName)) ∈ xTT := xw1 (i := 212) rfl rfl
theorem q213 : (Jvm.Cond.fieldLink "WorkMeter$Demand" (9 : Nat) "WorkMeter$Demand" "most" "[J") ∈ xTT := xw1 (i := 213) rfl rfl
theorem q214 : (Jvm.Cond.fieldLink "WorkMeter$Registers" (47 : Nat) "WorkMeter$Demand" "most" "[J") ∈ xTT := xw1 (i := 214) rfl rfl
theorem q215 : (Jvm.Cond.fieldLink "WorkMeter" (314 : Nat) "WorkMeter$Demand" "most" "[J") ∈ xTT := xw1 (i := 215) rfl rfl
theorem q216 : (Jvm.Cond.fieldLink "WorkMeter$Demand" (15 : Nat) "WorkMeter$Demand" "mostTimes" "[I") ∈ xTT := xw1 (i := 216) rfl rfl
theorem q217 : (Jvm.Cond.fieldLink "WorkMeter" (318 : Nat) "WorkMeter$Demand" "mostTimes" "[I") ∈ xTT := xw1 (i := 217) rfl rfl
theorem q218 : (Jvm.Cond.fieldLink "WorkMeter$Demand" (21 : Nat) "WorkMeter$Demand" "latest" "J") ∈ xTT := xw1 (i := 218) rfl rfl
theorem q219 : (Jvm.Cond.fieldLink "WorkMeter" (306 : Nat) "WorkMeter$Demand" "latest" "J") ∈ xTT := xw1 (i := 219) rfl rfl
theorem q220 : (Jvm.Cond.fieldLink "WorkMeter$Demand" (25 : Nat) "WorkMeter$Demand" "latestTime" "I") ∈ xTT := xw1 (i := 220) rfl rfl
theorem q221 : (Jvm.Cond.fieldLink "WorkMeter" (311 : Nat) "WorkMeter$Demand" "latestTime" "I") ∈ xTT := xw1 (i := 221) rfl rfl
theorem q222 : (Jvm.Cond.laysFinal "WorkMeter$Demand" "WorkMeter$Demand" "most" "[J") ∈ xTT := xw1 (i := 222) rfl rfl
theorem q224 : (Jvm.Cond.laysFinal "WorkMeter$Demand" "WorkMeter$Demand" "mostTimes" "[I") ∈ xTT := xw1 (i := 224) rfl rfl
theorem q226 : (Jvm.Cond.lays "WorkMeter$Demand" "WorkMeter$Demand" "latest" "J") ∈ xTT := xw1 (i := 226) rfl rfl
theorem q228 : (Jvm.Cond.lays "WorkMeter$Demand" "WorkMeter$Demand" "latestTime" "I") ∈ xTT := xw1 (i := 228) rfl rfl
theorem q231 : (Jvm.Cond.classLink "WorkMeter$Meter" (53 : Nat) "WorkMeter$Marks") ∈ xTT := xw1 (i := 231) rfl rfl
theorem q232 : (Jvm.Cond.instantiable "WorkMeter$Marks" (4 : Nat)) ∈ xTT := xw1 (i := 232) rfl rfl
theorem q234 : (Jvm.Cond.instanceMethod ({ cls := "WorkMeter$Marks", name := "<init>", desc := "()V" } : Jvm.MethodName)) ∈ xTT := xw1 (i := 234) rfl rfl
theorem q235 : (Jvm.Cond.code ({ cls := "WorkMeter$Marks", name := "<init>", desc := "()V" } : Jvm.MethodName) prog_7_method_1_code (1 : Nat) (Option.none : Option Jvm.ClassFile.FieldType)) ∈ xTT := xw1 (i := 235) rfl rfl
theorem q236 : (Jvm.Cond.methodLink "WorkMeter$Marks" (1 : Nat) ({ cls := "java/lang/Object", name := "<init>", desc := "()V" } : Jvm.MethodName)) ∈ xTT := xw1 (i := 236) rfl rfl
theorem q237 : (Jvm.Cond.fieldLink "WorkMeter$Marks" (9 : Nat) "WorkMeter$Marks" "comings" "[I") ∈ xTT := xw1 (i := 237) rfl rfl
theorem q238 : (Jvm.Cond.fieldLink "WorkMeter" (262 : Nat) "WorkMeter$Marks" "comings" "[I") ∈ xTT := xw1 (i := 238) rfl rfl
theorem q239 : (Jvm.Cond.fieldLink "WorkMeter$Marks" (13 : Nat) "WorkMeter$Marks" "seconds" "[I") ∈ xTT := xw1 (i := 239) rfl rfl
theorem q240 : (Jvm.Cond.fieldLink "WorkMeter" (265 : Nat) "WorkMeter$Marks" "seconds" "[I") ∈ xTT := xw2 (i := 0) rfl rfl
theorem q241 : (Jvm.Cond.fieldLink "WorkMeter$Marks" (16 : Nat) "WorkMeter$Marks" "lengths" "[I") ∈ xTT := xw2 (i := 1) rfl rfl
theorem q242 : (Jvm.Cond.fieldLink "WorkMeter" (266 : Nat) "WorkMeter$Marks" "lengths" "[I") ∈ xTT := xw2 (i := 2) rfl rfl
theorem q243 : (Jvm.Cond.fieldLink "WorkMeter$Marks" (25 : Nat) "WorkMeter$Marks" "on" "I") ∈ xTT := xw2 (i := 3) rfl rfl
theorem q244 : (Jvm.Cond.fieldLink "WorkMeter$Meter" (202 : Nat) "WorkMeter$Marks" "on" "I") ∈ xTT := xw2 (i := 4) rfl rfl
theorem q245 : (Jvm.Cond.fieldLink "WorkMeter" (351 : Nat) "WorkMeter$Marks" "on" "I") ∈ xTT := xw2 (i := 5) rfl rfl
theorem q246 : (Jvm.Cond.laysFinal "WorkMeter$Marks" "WorkMeter$Marks" "comings" "[I") ∈ xTT := xw2 (i := 6) rfl rfl
theorem q248 : (Jvm.Cond.laysFinal "WorkMeter$Marks" "WorkMeter$Marks" "seconds" "[I") ∈ xTT := xw2 (i := 8) rfl rfl
theorem q250 : (Jvm.Cond.laysFinal "WorkMeter$Marks" "WorkMeter$Marks" "lengths" "[I") ∈ xTT := xw2 (i := 10) rfl rfl
theorem q252 : (Jvm.Cond.lays "WorkMeter$Marks" "WorkMeter$Marks" "on" "I") ∈ xTT := xw2 (i := 12) rfl rfl
theorem q255 : (Jvm.Cond.classLink "WorkMeter$Meter" (60 : Nat) "WorkMeter$Logbook") ∈ xTT := xw2 (i := 15) rfl rfl
theorem q256 : (Jvm.Cond.instantiable "WorkMeter$Logbook" (2 : Nat)) ∈ xTT := xw2 (i := 16) rfl rfl
theorem q258 : (Jvm.Cond.instanceMethod ({ cls := "WorkMeter$Logbook", name := "<init>", desc := "()V" } : Jvm.MethodName)) ∈ xTT := xw2 (i := 18) rfl rfl
theorem q259 : (Jvm.Cond.code ({ cls := "WorkMeter$Logbook", name := "<init>", desc := "()V" } : Jvm.MethodName) prog_6_method_1_code (1 : Nat) (Option.none : Option Jvm.ClassFile.FieldType)) ∈ xTT := xw2 (i := 19) rfl rfl
theorem q260 : (Jvm.Cond.methodLink "WorkMeter$Logbook" (1 : Nat) ({ cls := "java/lang/Object", name := "<init>", desc := "()V" } : Jvm.MethodName)) ∈ xTT := xw2 (i := 20) rfl rfl
theorem q261 : (Jvm.Cond.fieldLink "WorkMeter$Logbook" (9 : Nat) "WorkMeter$Logbook" "lines" "[I") ∈ xTT := xw2 (i := 21) rfl rfl
theorem q262 : (Jvm.Cond.fieldLink "WorkMeter$Logbook" (19 : Nat) "WorkMeter$Logbook" "count" "I") ∈ xTT := xw2 (i := 22) rfl rfl
theorem q263 : (Jvm.Cond.fieldLink "WorkMeter" (408 : Nat) "WorkMeter$Logbook" "count" "I") ∈ xTT := xw2 (i := 23) rfl rfl
theorem q264 : (Jvm.Cond.laysFinal "WorkMeter$Logbook" "WorkMeter$Logbook" "lines" "[I") ∈ xTT := xw2 (i := 24) rfl rfl
theorem q266 : (Jvm.Cond.lays "WorkMeter$Logbook" "WorkMeter$Logbook" "count" "I") ∈ xTT := xw2 (i := 26) rfl rfl
theorem q269 : (Jvm.Cond.classLink "WorkMeter$Meter" (67 : Nat) "WorkMeter$Seal") ∈ xTT := xw2 (i := 29) rfl rfl
theorem q270 : (Jvm.Cond.instantiable "WorkMeter$Seal" (5 : Nat)) ∈ xTT := xw2 (i := 30) rfl rfl
theorem q272 : (Jvm.Cond.instanceMethod ({ cls := "WorkMeter$Seal", name := "<init>", desc := "()V" } : Jvm.MethodName)) ∈ xTT := xw2 (i := 32) rfl rfl
theorem q273 : (Jvm.Cond.code ({ cls := "WorkMeter$Seal", name := "<init>", desc := "()V" } : Jvm.MethodName) prog_10_method_1_code (1 : Nat) (Option.none : Option Jvm.ClassFile.FieldType)) ∈ xTT := xw2 (i := 33) rfl rfl
theorem q274 : (Jvm.Cond.methodLink "WorkMeter$Seal" (1 : Nat) ({ cls := "java/lang/Object", name := "<init>", desc := "()V" } : Jvm.MethodName)) ∈ xTT := xw2 (i := 34) rfl rfl
theorem q275 : (Jvm.Cond.fieldLink "WorkMeter$Seal" (7 : Nat) "WorkMeter$Seal" "closed" "Z") ∈ xTT := xw2 (i := 35) rfl rfl
theorem q276 : (Jvm.Cond.fieldLink "WorkMeter$Meter" (152 : Nat) "WorkMeter$Seal" "closed" "Z") ∈ xTT := xw2 (i := 36) rfl rfl
theorem q277 : (Jvm.Cond.fieldLink "WorkMeter" (418 : Nat) "WorkMeter$Seal" "closed" "Z") ∈ xTT := xw2 (i := 37) rfl rfl
theorem q278 : (Jvm.Cond.fieldLink "WorkMeter$Seal" (13 : Nat) "WorkMeter$Seal" "code" "I") ∈ xTT := xw2 (i := 38) rfl rfl
theorem q279 : (Jvm.Cond.fieldLink "WorkMeter$Meter" (159 : Nat) "WorkMeter$Seal" "code" "I") ∈ xTT := xw2 (i := 39) rfl rfl
theorem q280 : (Jvm.Cond.fieldLink "WorkMeter$Seal" (17 : Nat) "WorkMeter$Seal" "wrong" "I") ∈ xTT := xw2 (i := 40) rfl rfl
theorem q281 : (Jvm.Cond.fieldLink "WorkMeter$Meter" (168 : Nat) "WorkMeter$Seal" "wrong" "I") ∈ xTT := xw2 (i := 41) rfl rfl
theorem q282 : (Jvm.Cond.fieldLink "WorkMeter" (421 : Nat) "WorkMeter$Seal" "wrong" "I") ∈ xTT := xw2 (i := 42) rfl rfl
theorem q283 : (Jvm.Cond.fieldLink "WorkMeter$Seal" (20 : Nat) "WorkMeter$Seal" "refused" "I") ∈ xTT := xw2 (i := 43) rfl rfl
theorem q284 : (Jvm.Cond.fieldLink "WorkMeter" (427 : Nat) "WorkMeter$Seal" "refused" "I") ∈ xTT := xw2 (i := 44) rfl rfl
theorem q285 : (Jvm.Cond.fieldLink "WorkMeter$Seal" (23 : Nat) "WorkMeter$Seal" "lockedUntil" "I") ∈ xTT := xw2 (i := 45) rfl rfl
theorem q286 : (Jvm.Cond.lays "WorkMeter$Seal" "WorkMeter$Seal" "closed" "Z") ∈ xTT := xw2 (i := 46) rfl rfl
theorem q288 : (Jvm.Cond.lays "WorkMeter$Seal" "WorkMeter$Seal" "code" "I") ∈ xTT := xw2 (i := 48) rfl rfl
theorem q290 : (Jvm.Cond.lays "WorkMeter$Seal" "WorkMeter$Seal" "wrong" "I") ∈ xTT := xw2 (i := 50) rfl rfl
theorem q292 : (Jvm.Cond.lays "WorkMeter$Seal" "WorkMeter$Seal" "refused" "I") ∈ xTT := xw2 (i := 52) rfl rfl
theorem q294 : (Jvm.Cond.lays "WorkMeter$Seal" "WorkMeter$Seal" "lockedUntil" "I") ∈ xTT := xw2 (i := 54) rfl rfl
theorem q297 : (Jvm.Cond.fieldLink "WorkMeter$Meter" (12 : Nat) "WorkMeter$Meter" "settings" "LWorkMeter$Settings;") ∈ xTT := xw2 (i := 57) rfl rfl
theorem q298 : (Jvm.Cond.fieldLink "WorkMeter" (121 : Nat) "WorkMeter$Meter" "settings" "LWorkMeter$Settings;") ∈ xTT := xw2 (i := 58) rfl rfl
theorem q299 : (Jvm.Cond.fieldLink "WorkMeter$Meter" (21 : Nat) "WorkMeter$Meter" "calendar" "LWorkMeter$Calendar;") ∈ xTT := xw2 (i := 59) rfl rfl
theorem q300 : (Jvm.Cond.fieldLink "WorkMeter" (77 : Nat) "WorkMeter$Meter" "calendar" "LWorkMeter$Calendar;") ∈ xTT := xw2 (i := 60) rfl rfl
theorem q301 : (Jvm.Cond.fieldLink "WorkMeter$Meter" (28 : Nat) "WorkMeter$Meter" "wave" "LWorkMeter$Wave;") ∈ xTT := xw2 (i := 61) rfl rfl
theorem q302 : (Jvm.Cond.fieldLink "WorkMeter" (39 : Nat) "WorkMeter$Meter" "wave" "LWorkMeter$Wave;") ∈ xTT := xw2 (i := 62) rfl rfl
theorem q303 : (Jvm.Cond.fieldLink "WorkMeter$Meter" (35 : Nat) "WorkMeter$Meter" "registers" "LWorkMeter$Registers;") ∈ xTT := xw2 (i := 63) rfl rfl
theorem q304 : (Jvm.Cond.fieldLink "WorkMeter" (213 : Nat) "WorkMeter$Meter" "registers" "LWorkMeter$Registers;") ∈ xTT := xw2 (i := 64) rfl rfl
theorem q305 : (Jvm.Cond.fieldLink "WorkMeter$Meter" (42 : Nat) "WorkMeter$Meter" "load" "LWorkMeter$Load;") ∈ xTT := xw2 (i := 65) rfl rfl
theorem q306 : (Jvm.Cond.fieldLink "WorkMeter" (269 : Nat) "WorkMeter$Meter" "load" "LWorkMeter$Load;") ∈ xTT := xw2 (i := 66) rfl rfl
theorem q307 : (Jvm.Cond.fieldLink "WorkMeter$Meter" (49 : Nat) "WorkMeter$Meter" "demand" "LWorkMeter$Demand;") ∈ xTT := xw2 (i := 67) rfl rfl
theorem q308 : (Jvm.Cond.fieldLink "WorkMeter" (302 : Nat) "WorkMeter$Meter" "demand" "LWorkMeter$Demand;") ∈ xTT := xw2 (i := 68) rfl rfl
theorem q309 : (Jvm.Cond.fieldLink "WorkMeter$Meter" (56 : Nat) "WorkMeter$Meter" "marks" "LWorkMeter$Marks;") ∈ xTT := xw2 (i := 69) rfl rfl
theorem q310 : (Jvm.Cond.fieldLink "WorkMeter" (182 : Nat) "WorkMeter$Meter" "marks" "LWorkMeter$Marks;") ∈ xTT := xw2 (i := 70) rfl rfl
theorem q311 : (Jvm.Cond.fieldLink "WorkMeter$Meter" (63 : Nat) "WorkMeter$Meter" "logbook" "LWorkMeter$Logbook;") ∈ xTT := xw2 (i := 71) rfl rfl
theorem q312 : (Jvm.Cond.fieldLink "WorkMeter" (189 : Nat) "WorkMeter$Meter" "logbook" "LWorkMeter$Logbook;") ∈ xTT := xw2 (i := 72) rfl rfl
theorem q313 : (Jvm.Cond.fieldLink "WorkMeter$Meter" (70 : Nat) "WorkMeter$Meter" "seal" "LWorkMeter$Seal;") ∈ xTT := xw2 (i := 73) rfl rfl
theorem q314 : (Jvm.Cond.fieldLink "WorkMeter" (29 : Nat) "WorkMeter$Meter" "seal" "LWorkMeter$Seal;") ∈ xTT := xw2 (i := 74) rfl rfl
theorem q315 : (Jvm.Cond.fieldLink "WorkMeter$Meter" (102 : Nat) "WorkMeter$Meter" "time" "I") ∈ xTT := xw2 (i := 75) rfl rfl
theorem q316 : (Jvm.Cond.fieldLink "WorkMeter" (173 : Nat) "WorkMeter$Meter" "time" "I") ∈ xTT := xw2 (i := 76) rfl rfl
theorem q317 : (Jvm.Cond.fieldLink "WorkMeter$Meter" (106 : Nat) "WorkMeter$Meter" "credit" "J") ∈ xTT := xw2 (i := 77) rfl rfl
theorem q318 : (Jvm.Cond.fieldLink "WorkMeter" (206 : Nat) "WorkMeter$Meter" "credit" "J") ∈ xTT := xw2 (i := 78) rfl rfl
theorem q319 : (Jvm.Cond.fieldLink "WorkMeter$Meter" (110 : Nat) "WorkMeter$Meter" "prepaid" "Z") ∈ xTT := xw2 (i := 79) rfl rfl
theorem q320 : (Jvm.Cond.fieldLink "WorkMeter" (197 : Nat) "WorkMeter$Meter" "prepaid" "Z") ∈ xTT := xw2 (i := 80) rfl rfl
theorem q321 : (Jvm.Cond.fieldLink "WorkMeter$Meter" (114 : Nat) "WorkMeter$Meter" "open" "Z") ∈ xTT := xw2 (i := 81) rfl rfl
theorem q322 : (Jvm.Cond.fieldLink "WorkMeter" (354 : Nat) "WorkMeter$Meter" "open" "Z") ∈ xTT := xw2 (i := 82) rfl rfl
theorem q323 : (Jvm.Cond.fieldLink "WorkMeter$Meter" (117 : Nat) "WorkMeter$Meter" "metered" "I") ∈ xTT := xw2 (i := 83) rfl rfl
theorem q324 : (Jvm.Cond.fieldLink "WorkMeter" (401 : Nat) "WorkMeter$Meter" "metered" "I") ∈ xTT := xw2 (i := 84) rfl rfl
theorem q325 : (Jvm.Cond.fieldLink "WorkMeter$Meter" (120 : Nat) "WorkMeter$Meter" "creep" "I") ∈ xTT := xw2 (i := 85) rfl rfl
theorem q326 : (Jvm.Cond.fieldLink "WorkMeter" (402 : Nat) "WorkMeter$Meter" "creep" "I") ∈ xTT := xw2 (i := 86) rfl rfl
theorem q327 : (Jvm.Cond.fieldLink "WorkMeter$Meter" (123 : Nat) "WorkMeter$Meter" "offSeconds" "I") ∈ xTT := xw2 (i := 87) rfl rfl
theorem q328 : (Jvm.Cond.fieldLink "WorkMeter" (405 : Nat) "WorkMeter$Meter" "offSeconds" "I") ∈ xTT := xw2 (i := 88) rfl rfl
theorem q329 : (Jvm.Cond.laysFinal "WorkMeter$Meter" "WorkMeter$Meter" "settings" "LWorkMeter$Settings;") ∈ xTT := xw2 (i := 89) rfl rfl
theorem q331 : (Jvm.Cond.laysFinal "WorkMeter$Meter" "WorkMeter$Meter" "calendar" "LWorkMeter$Calendar;") ∈ xTT := xw2 (i := 91) rfl rfl
theorem q333 : (Jvm.Cond.laysFinal "WorkMeter$Meter" "WorkMeter$Meter" "wave" "LWorkMeter$Wave;") ∈ xTT := xw2 (i := 93) rfl rfl
theorem q335 : (Jvm.Cond.laysFinal "WorkMeter$Meter" "WorkMeter$Meter" "registers" "LWorkMeter$Registers;") ∈ xTT := xw2 (i := 95) rfl rfl
theorem q337 : (Jvm.Cond.laysFinal "WorkMeter$Meter" "WorkMeter$Meter" "load" "LWorkMeter$Load;") ∈ xTT := xw2 (i := 97) rfl rfl
theorem q339 : (Jvm.Cond.laysFinal "WorkMeter$Meter" "WorkMeter$Meter" "demand" "LWorkMeter$Demand;") ∈ xTT := xw2 (i := 99) rfl rfl
theorem q341 : (Jvm.Cond.laysFinal "WorkMeter$Meter" "WorkMeter$Meter" "marks" "LWorkMeter$Marks;") ∈ xTT := xw2 (i := 101) rfl rfl
theorem q343 : (Jvm.Cond.laysFinal "WorkMeter$Meter" "WorkMeter$Meter" "logbook" "LWorkMeter$Logbook;") ∈ xTT := xw2 (i := 103) rfl rfl
theorem q345 : (Jvm.Cond.laysFinal "WorkMeter$Meter" "WorkMeter$Meter" "seal" "LWorkMeter$Seal;") ∈ xTT := xw2 (i := 105) rfl rfl
theorem q347 : (Jvm.Cond.lays "WorkMeter$Meter" "WorkMeter$Meter" "time" "I") ∈ xTT := xw2 (i := 107) rfl rfl
theorem q349 : (Jvm.Cond.lays "WorkMeter$Meter" "WorkMeter$Meter" "credit" "J") ∈ xTT := xw2 (i := 109) rfl rfl
theorem q351 : (Jvm.Cond.lays "WorkMeter$Meter" "WorkMeter$Meter" "prepaid" "Z") ∈ xTT := xw2 (i := 111) rfl rfl
theorem q353 : (Jvm.Cond.lays "WorkMeter$Meter" "WorkMeter$Meter" "open" "Z") ∈ xTT := xw2 (i := 113) rfl rfl
theorem q355 : (Jvm.Cond.lays "WorkMeter$Meter" "WorkMeter$Meter" "metered" "I") ∈ xTT := xw2 (i := 115) rfl rfl
theorem q357 : (Jvm.Cond.lays "WorkMeter$Meter" "WorkMeter$Meter" "creep" "I") ∈ xTT := xw2 (i := 117) rfl rfl
theorem q359 : (Jvm.Cond.lays "WorkMeter$Meter" "WorkMeter$Meter" "offSeconds" "I") ∈ xTT := xw2 (i := 119) rfl rfl
theorem q362 : (Jvm.Cond.classLink "WorkMeter" (22 : Nat) "WorkMeter$CalendarText") ∈ xTT := xw2 (i := 122) rfl rfl
theorem q363 : (Jvm.Cond.instantiable "WorkMeter$CalendarText" (11 : Nat)) ∈ xTT := xw2 (i := 123) rfl rfl
theorem q365 : (Jvm.Cond.instanceMethod ({ cls := "WorkMeter$CalendarText", name := "<init>", desc := "()V" } : Jvm.MethodName)) ∈ xTT := xw2 (i := 125) rfl rfl
theorem q366 : (Jvm.Cond.code ({ cls := "WorkMeter$CalendarText", name := "<init>", desc := "()V" } : Jvm.MethodName) prog_3_method_1_code (1 : Nat) (Option.none : Option Jvm.ClassFile.FieldType)) ∈ xTT := xw2 (i := 126) rfl rfl
theorem q367 : (Jvm.Cond.methodLink "WorkMeter$CalendarText" (3 : Nat) ({ cls := "java/lang/Object", name := "<init>", desc := "()V" } : Jvm.MethodName)) ∈ xTT := xw2 (i := 127) rfl rfl
theorem q368 : (Jvm.Cond.classLink "WorkMeter$CalendarText" (15 : Nat) "WorkMeter$Calendar") ∈ xTT := xw2 (i := 128) rfl rfl
theorem q369 : (Jvm.Cond.methodLink "WorkMeter$CalendarText" (17 : Nat) ({ cls := "WorkMeter$Calendar", name := "<init>", desc := "()V" } : Jvm.MethodName)) ∈ xTT := xw2 (i := 129) rfl rfl
theorem q370 : (Jvm.Cond.fieldLink "WorkMeter$CalendarText" (11 : Nat) "WorkMeter$CalendarText" "tape" "[I") ∈ xTT := xw2 (i := 130) rfl rfl
theorem q371 : (Jvm.Cond.fieldLink "WorkMeter$CalendarText" (18 : Nat) "WorkMeter$CalendarText" "draft" "LWorkMeter$Calendar;") ∈ xTT := xw2 (i := 131) rfl rfl
theorem q372 : (Jvm.Cond.fieldLink "WorkMeter" (110 : Nat) "WorkMeter$CalendarText" "draft" "LWorkMeter$Calendar;") ∈ xTT := xw2 (i := 132) rfl rfl
theorem q373 : (Jvm.Cond.fieldLink "WorkMeter$CalendarText" (22 : Nat) "WorkMeter$CalendarText" "prices" "[I") ∈ xTT := xw2 (i := 133) rfl rfl
theorem q374 : (Jvm.Cond.fieldLink "WorkMeter" (125 : Nat) "WorkMeter$CalendarText" "prices" "[I") ∈ xTT := xw2 (i := 134) rfl rfl
theorem q375 : (Jvm.Cond.fieldLink "WorkMeter$CalendarText" (29 : Nat) "WorkMeter$CalendarText" "length" "I") ∈ xTT := xw2 (i := 135) rfl rfl
theorem q376 : (Jvm.Cond.fieldLink "WorkMeter" (97 : Nat) "WorkMeter$CalendarText" "length" "I") ∈ xTT := xw2 (i := 136) rfl rfl
theorem q377 : (Jvm.Cond.fieldLink "WorkMeter$CalendarText" (32 : Nat) "WorkMeter$CalendarText" "fault" "I") ∈ xTT := xw2 (i := 137) rfl rfl
theorem q378 : (Jvm.Cond.fieldLink "WorkMeter" (135 : Nat) "WorkMeter$CalendarText" "fault" "I") ∈ xTT := xw2 (i := 138) rfl rfl
theorem q379 : (Jvm.Cond.fieldLink "WorkMeter$CalendarText" (25 : Nat) "WorkMeter$CalendarText" "faultPlace" "I") ∈ xTT := xw2 (i := 139) rfl rfl
theorem q380 : (Jvm.Cond.fieldLink "WorkMeter" (138 : Nat) "WorkMeter$CalendarText" "faultPlace" "I") ∈ xTT := xw2 (i := 140) rfl rfl
theorem q381 : (Jvm.Cond.fieldLink "WorkMeter$CalendarText" (38 : Nat) "WorkMeter$CalendarText" "priced" "Z") ∈ xTT := xw2 (i := 141) rfl rfl
theorem q382 : (Jvm.Cond.fieldLink "WorkMeter" (117 : Nat) "WorkMeter$CalendarText" "priced" "Z") ∈ xTT := xw2 (i := 142) rfl rfl
theorem q383 : (Jvm.Cond.fieldLink "WorkMeter$CalendarText" (42 : Nat) "WorkMeter$CalendarText" "place" "I") ∈ xTT := xw2 (i := 143) rfl rfl
theorem q384 : (Jvm.Cond.fieldLink "WorkMeter$CalendarText" (116 : Nat) "WorkMeter$CalendarText" "tokenPlace" "I") ∈ xTT := xw2 (i := 144) rfl rfl
theorem q385 : (Jvm.Cond.fieldLink "WorkMeter$CalendarText" (45 : Nat) "WorkMeter$CalendarText" "tablesTold" "I") ∈ xTT := xw2 (i := 145) rfl rfl
theorem q386 : (Jvm.Cond.fieldLink "WorkMeter$CalendarText" (48 : Nat) "WorkMeter$CalendarText" "seasonsTold" "I") ∈ xTT := xw2 (i := 146) rfl rfl
theorem q387 : (Jvm.Cond.laysFinal "WorkMeter$CalendarText" "WorkMeter$CalendarText" "tape" "[I") ∈ xTT := xw2 (i := 147) rfl rfl
theorem q389 : (Jvm.Cond.laysFinal "WorkMeter$CalendarText" "WorkMeter$CalendarText" "draft" "LWorkMeter$Calendar;") ∈ xTT := xw2 (i := 149) rfl rfl
theorem q391 : (Jvm.Cond.laysFinal "WorkMeter$CalendarText" "WorkMeter$CalendarText" "prices" "[I") ∈ xTT := xw2 (i := 151) rfl rfl
theorem q393 : (Jvm.Cond.lays "WorkMeter$CalendarText" "WorkMeter$CalendarText" "length" "I") ∈ xTT := xw2 (i := 153) rfl rfl
theorem q395 : (Jvm.Cond.lays "WorkMeter$CalendarText" "WorkMeter$CalendarText" "fault" "I") ∈ xTT := xw2 (i := 155) rfl rfl
theorem q397 : (Jvm.Cond.lays "WorkMeter$CalendarText" "WorkMeter$CalendarText" "faultPlace" "I") ∈ xTT := xw2 (i := 157) rfl rfl
theorem q399 : (Jvm.Cond.lays "WorkMeter$CalendarText" "WorkMeter$CalendarText" "priced" "Z") ∈ xTT := xw2 (i := 159) rfl rfl
theorem q401 : (Jvm.Cond.lays "WorkMeter$CalendarText" "WorkMeter$CalendarText" "place" "I") ∈ xTT := xw2 (i := 161) rfl rfl
theorem q403 : (Jvm.Cond.lays "WorkMeter$CalendarText" "WorkMeter$CalendarText" "tokenPlace" "I") ∈ xTT := xw2 (i := 163) rfl rfl
theorem q405 : (Jvm.Cond.lays "WorkMeter$CalendarText" "WorkMeter$CalendarText" "tablesTold" "I") ∈ xTT := xw2 (i := 165) rfl rfl
theorem q407 : (Jvm.Cond.lays "WorkMeter$CalendarText" "WorkMeter$CalendarText" "seasonsTold" "I") ∈ xTT := xw2 (i := 167) rfl rfl
theorem q410 : (Jvm.Cond.fieldLink "WorkMeter" (12 : Nat) "WorkMeter" "now" "LWorkMeter$Meter;") ∈ xTT := xw2 (i := 170) rfl rfl
theorem q411 : (Jvm.Cond.fieldLink "WorkMeter" (16 : Nat) "WorkMeter" "kept" "LWorkMeter$Meter;") ∈ xTT := xw2 (i := 171) rfl rfl
theorem q412 : (Jvm.Cond.fieldLink "WorkMeter" (19 : Nat) "WorkMeter" "thought" "LWorkMeter$Meter;") ∈ xTT := xw2 (i := 172) rfl rfl
theorem q413 : (Jvm.Cond.fieldLink "WorkMeter" (25 : Nat) "WorkMeter" "text" "LWorkMeter$CalendarText;") ∈ xTT := xw2 (i := 173) rfl rfl
theorem q414 : (Jvm.Cond.fieldLink "WorkMeter" (383 : Nat) "WorkMeter" "imageIs" "Z") ∈ xTT := xw2 (i := 174) rfl rfl
theorem q415 : (Jvm.Cond.laysFinal "WorkMeter" "WorkMeter" "now" "LWorkMeter$Meter;") ∈ xTT := xw2 (i := 175) rfl rfl
theorem q417 : (Jvm.Cond.laysFinal "WorkMeter" "WorkMeter" "kept" "LWorkMeter$Meter;") ∈ xTT := xw2 (i := 177) rfl rfl
theorem q419 : (Jvm.Cond.laysFinal "WorkMeter" "WorkMeter" "thought" "LWorkMeter$Meter;") ∈ xTT := xw2 (i := 179) rfl rfl
theorem q421 : (Jvm.Cond.laysFinal "WorkMeter" "WorkMeter" "text" "LWorkMeter$CalendarText;") ∈ xTT := xw2 (i := 181) rfl rfl
theorem q423 : (Jvm.Cond.lays "WorkMeter" "WorkMeter" "imageIs" "Z") ∈ xTT := xw2 (i := 183) rfl rfl
theorem q426 : (Jvm.Cond.methodLink "WorkMeterLaw" (13 : Nat) ({ cls := "WorkMeter", name := "phases", desc := "(II)Z" } : Jvm.MethodName)) ∈ xTT := xw2 (i := 186) rfl rfl
theorem q427 : (Jvm.Cond.instanceMethod ({ cls := "WorkMeter", name := "phases", desc := "(II)Z" } : Jvm.MethodName)) ∈ xTT := xw2 (i := 187) rfl rfl
theorem q428 : (Jvm.Cond.selects "WorkMeter" ({ cls := "WorkMeter", name := "phases", desc := "(II)Z" } : Jvm.MethodName) ({ cls := "WorkMeter", name := "phases", desc := "(II)Z" } : Jvm.MethodName)) ∈ xTT := xw2 (i := 188) rfl rfl
theorem q429 : (Jvm.Cond.code ({ cls := "WorkMeter", name := "phases", desc := "(II)Z" } : Jvm.MethodName) prog_1_method_2_code (3 : Nat) (Option.some Jvm.ClassFile.FieldType.boolean)) ∈ xTT := xw2 (i := 189) rfl rfl
theorem q430 : (Jvm.Cond.methodLink "WorkMeter" (33 : Nat) ({ cls := "WorkMeter$Seal", name := "refuses", desc := "()Z" } : Jvm.MethodName)) ∈ xTT := xw2 (i := 190) rfl rfl
theorem q431 : (Jvm.Cond.instanceMethod ({ cls := "WorkMeter$Seal", name := "refuses", desc := "()Z" } : Jvm.MethodName)) ∈ xTT := xw2 (i := 191) rfl rfl
theorem q432 : (Jvm.Cond.selects "WorkMeter$Seal" ({ cls := "WorkMeter$Seal", name := "refuses", desc := "()Z" } : Jvm.MethodName) ({ cls := "WorkMeter$Seal", name := "refuses", desc := "()Z" } : Jvm.MethodName)) ∈ xTT := xw2 (i := 192) rfl rfl
theorem q433 : (Jvm.Cond.code ({ cls := "WorkMeter$Seal", name := "refuses", desc := "()Z" } : Jvm.MethodName) prog_10_method_3_code (1 : Nat) (Option.some Jvm.ClassFile.FieldType.boolean)) ∈ xTT := xw2 (i := 193) rfl rfl
theorem q434 : (Jvm.Cond.methodLink "WorkMeter" (43 : Nat) ({ cls := "WorkMeter$Wave", name := "tellShape", desc := "(II)Z" } : Jvm.MethodName)) ∈ xTT := xw2 (i := 194) rfl rfl
theorem q435 : (Jvm.Cond.instanceMethod ({ cls := "WorkMeter$Wave", name := "tellShape", desc := "(II)Z" } : Jvm.MethodName)) ∈ xTT := xw2 (i := 195) rfl rfl
theorem q436 : (Jvm.Cond.selects "WorkMeter$Wave" ({ cls := "WorkMeter$Wave", name := "tellShape", desc := "(II)Z" } : Jvm.MethodName) ({ cls := "WorkMeter$Wave", name := "tellShape", desc := "(II)Z" } : Jvm.MethodName)) ∈ xTT := xw2 (i := 196) rfl rfl
theorem q437 : (Jvm.Cond.code ({ cls := "WorkMeter$Wave", name := "tellShape", desc := "(II)Z" } : Jvm.MethodName) prog_12_method_3_code (3 : Nat) (Option.some Jvm.ClassFile.FieldType.boolean)) ∈ xTT := xw2 (i := 197) rfl rfl
theorem q438 : (Jvm.Cond.methodLink "WorkMeter$Wave" (42 : Nat) ({ cls := "java/util/Arrays", name := "fill", desc := "([JJ)V" } : Jvm.MethodName)) ∈ xTT := xw2 (i := 198) rfl rfl
theorem q439 : (Jvm.Cond.methodLink "WorkMeterLaw" (18 : Nat) ({ cls := "WorkMeter", name := "sample", desc := "(II)I" } : Jvm.MethodName)) ∈ xTT := xw2 (i := 199) rfl rfl
theorem q440 : (Jvm.Cond.instanceMethod ({ cls := "WorkMeter", name := "sample", desc := "(II)I" } : Jvm.MethodName)) ∈ xTT := xw2 (i := 200) rfl rfl
theorem q441 : (Jvm.Cond.selects "WorkMeter" ({ cls := "WorkMeter", name := "sample", desc := "(II)I" } : Jvm.MethodName) ({ cls := "WorkMeter", name := "sample", desc := "(II)I" } : Jvm.MethodName)) ∈ xTT := xw2 (i := 201) rfl rfl
theorem q442 : (Jvm.Cond.code ({ cls := "WorkMeter", name := "sample", desc := "(II)I" } : Jvm.MethodName) prog_1_method_3_code (3 : Nat) (Option.some Jvm.ClassFile.FieldType.int)) ∈ xTT := xw2 (i := 202) rfl rfl
theorem q443 : (Jvm.Cond.methodLink "WorkMeter" (49 : Nat) ({ cls := "WorkMeter$Wave", name := "takeSample", desc := "(II)Z" } : Jvm.MethodName)) ∈ xTT := xw2 (i := 203) rfl rfl
theorem q444 : (Jvm.Cond.instanceMethod ({ cls := "WorkMeter$Wave", name := "takeSample", desc := "(II)Z" } : Jvm.MethodName)) ∈ xTT := xw2 (i := 204) rfl rfl
theorem q445 : (Jvm.Cond.selects "WorkMeter$Wave" ({ cls := "WorkMeter$Wave", name := "takeSample", desc := "(II)Z" } : Jvm.MethodName) ({ cls := "WorkMeter$Wave", name := "takeSample", desc := "(II)Z" } : Jvm.MethodName)) ∈ xTT := xw2 (i := 205) rfl rfl
theorem q446 : (Jvm.Cond.code ({ cls := "WorkMeter$Wave", name := "takeSample", desc := "(II)Z" } : Jvm.MethodName) prog_12_method_4_code (3 : Nat) (Option.some Jvm.ClassFile.FieldType.boolean)) ∈ xTT := xw2 (i := 206) rfl rfl
theorem q447 : (Jvm.Cond.methodLink "WorkMeter$Wave" (48 : Nat) ({ cls := "WorkMeter$Wave", name := "sumUp", desc := "()V" } : Jvm.MethodName)) ∈ xTT := xw2 (i := 207) rfl rfl
theorem q449 : (Jvm.Cond.instanceMethod ({ cls := "WorkMeter$Wave", name := "sumUp", desc := "()V" } : Jvm.MethodName)) ∈ xTT := xw2 (i := 209) rfl rfl
theorem q450 : (Jvm.Cond.code ({ cls := "WorkMeter$Wave", name := "sumUp", desc := "()V" } : Jvm.MethodName) prog_12_method_5_code (6 : Nat) (Option.none : Option Jvm.ClassFile.FieldType)) ∈ xTT := xw2 (i := 210) rfl rfl
theorem q451 : (Jvm.Cond.methodLink "WorkMeter$Wave" (51 : Nat) ({ cls := "WorkMeter$Wave", name := "addTo", desc := "(III)V" } : Jvm.MethodName)) ∈ xTT := xw2 (i := 211) rfl rfl
theorem q453 : (Jvm.Cond.instanceMethod ({ cls := "WorkMeter$Wave", name := "addTo", desc := "(III)V" } : Jvm.MethodName)) ∈ xTT := xw2 (i := 213) rfl rfl
theorem q454 : (Jvm.Cond.code ({ cls := "WorkMeter$Wave", name := "addTo", desc := "(III)V" } : Jvm.MethodName) prog_12_method_6_code (4 : Nat) (Option.none : Option Jvm.ClassFile.FieldType)) ∈ xTT := xw2 (i := 214) rfl rfl
theorem q455 : (Jvm.Cond.methodLink "WorkMeter$Wave" (55 : Nat) ({ cls := "WorkMeter$Wave", name := "apparentOf", desc := "(I)J" } : Jvm.MethodName)) ∈ xTT := xw2 (i := 215) rfl rfl
theorem q457 : (Jvm.Cond.instanceMethod ({ cls := "WorkMeter$Wave", name := "apparentOf", desc := "(I)J" } : Jvm.MethodName)) ∈ xTT := xw2 (i := 217) rfl rfl
theorem q458 : (Jvm.Cond.code ({ cls := "WorkMeter$Wave", name := "apparentOf", desc := "(I)J" } : Jvm.MethodName) prog_12_method_9_code (6 : Nat) (Option.some Jvm.ClassFile.FieldType.long)) ∈ xTT := xw2 (i := 218) rfl rfl
theorem q459 : (Jvm.Cond.methodLink "WorkMeter$Wave" (59 : Nat) ({ cls := "WorkMeter$Wave", name := "wholeRoot", desc := "(J)J" } : Jvm.MethodName)) ∈ xTT := xw2 (i := 219) rfl rfl
theorem q460 : (Jvm.Cond.static ({ cls := "WorkMeter$Wave", name := "wholeRoot", desc := "(J)J" } : Jvm.MethodName)) ∈ xTT := xw2 (i := 220) rfl rfl
theorem q461 : (Jvm.Cond.code ({ cls := "WorkMeter$Wave", name := "wholeRoot", desc := "(J)J" } : Jvm.MethodName) prog_12_method_14_code (7 : Nat) (Option.some Jvm.ClassFile.FieldType.long)) ∈ xTT := xw2 (i := 221) rfl rfl
theorem q462 : (Jvm.Cond.methodLink "WorkMeter" (52 : Nat) ({ cls := "WorkMeter$Meter", name := "meterTimes", desc := "(I)V" } : Jvm.MethodName)) ∈ xTT := xw2 (i := 222) rfl rfl
theorem q463 : (Jvm.Cond.instanceMethod ({ cls := "WorkMeter$Meter", name := "meterTimes", desc := "(I)V" } : Jvm.MethodName)) ∈ xTT := xw2 (i := 223) rfl rfl
theorem q464 : (Jvm.Cond.selects "WorkMeter$Meter" ({ cls := "WorkMeter$Meter", name := "meterTimes", desc := "(I)V" } : Jvm.MethodName) ({ cls := "WorkMeter$Meter", name := "meterTimes", desc := "(I)V" } : Jvm.MethodName)) ∈ xTT := xw2 (i := 224) rfl rfl
theorem q465 : (Jvm.Cond.code ({ cls := "WorkMeter$Meter", name := "meterTimes", desc := "(I)V" } : Jvm.MethodName) prog_8_method_11_code (4 : Nat) (Option.none : Option Jvm.ClassFile.FieldType)) ∈ xTT := xw2 (i := 225) rfl rfl
theorem q466 : (Jvm.Cond.methodLink "WorkMeter$Meter" (214 : Nat) ({ cls := "WorkMeter$Meter", name := "meterStretch", desc := "(I)I" } : Jvm.MethodName)) ∈ xTT := xw2 (i := 226) rfl rfl
theorem q468 : (Jvm.Cond.instanceMethod ({ cls := "WorkMeter$Meter", name := "meterStretch", desc := "(I)I" } : Jvm.MethodName)) ∈ xTT := xw2 (i := 228) rfl rfl
theorem q469 : (Jvm.Cond.code ({ cls := "WorkMeter$Meter", name := "meterStretch", desc := "(I)I" } : Jvm.MethodName) prog_8_method_13_code (5 : Nat) (Option.some Jvm.ClassFile.FieldType.int)) ∈ xTT := xw2 (i := 229) rfl rfl
theorem q470 : (Jvm.Cond.methodLink "WorkMeter$Meter" (208 : Nat) ({ cls := "WorkMeter$Calendar", name := "tariffOn", desc := "(I)I" } : Jvm.MethodName)) ∈ xTT := xw2 (i := 230) rfl rfl
theorem q471 : (Jvm.Cond.instanceMethod ({ cls := "WorkMeter$Calendar", name := "tariffOn", desc := "(I)I" } : Jvm.MethodName)) ∈ xTT := xw2 (i := 231) rfl rfl
theorem q472 : (Jvm.Cond.selects "WorkMeter$Calendar" ({ cls := "WorkMeter$Calendar", name := "tariffOn", desc := "(I)I" } : Jvm.MethodName) ({ cls := "WorkMeter$Calendar", name := "tariffOn", desc := "(I)I" } : Jvm.MethodName)) ∈ xTT := xw2 (i := 232) rfl rfl
theorem q473 : (Jvm.Cond.code ({ cls := "WorkMeter$Calendar", name := "tariffOn", desc := "(I)I" } : Jvm.MethodName) prog_2_method_15_code (2 : Nat) (Option.some Jvm.ClassFile.FieldType.int)) ∈ xTT := xw2 (i := 233) rfl rfl
theorem q474 : (Jvm.Cond.constant "WorkMeter$Calendar" (67 : Nat) (86400 : Int32)) ∈ xTT := xw2 (i := 234) rfl rfl
theorem q475 : (Jvm.Cond.methodLink "WorkMeter$Calendar" (68 : Nat) ({ cls := "WorkMeter$Calendar", name := "tableFor", desc := "(I)I" } : Jvm.MethodName)) ∈ xTT := xw2 (i := 235) rfl rfl
theorem q476 : (Jvm.Cond.instanceMethod ({ cls := "WorkMeter$Calendar", name := "tableFor", desc := "(I)I" } : Jvm.MethodName)) ∈ xTT := xw2 (i := 236) rfl rfl
theorem q477 : (Jvm.Cond.selects "WorkMeter$Calendar" ({ cls := "WorkMeter$Calendar", name := "tableFor", desc := "(I)I" } : Jvm.MethodName) ({ cls := "WorkMeter$Calendar", name := "tableFor", desc := "(I)I" } : Jvm.MethodName)) ∈ xTT := xw2 (i := 237) rfl rfl
theorem q478 : (Jvm.Cond.code ({ cls := "WorkMeter$Calendar", name := "tableFor", desc := "(I)I" } : Jvm.MethodName) prog_2_method_13_code (3 : Nat) (Option.some Jvm.ClassFile.FieldType.int)) ∈ xTT := xw2 (i := 238) rfl rfl
theorem q479 : (Jvm.Cond.methodLink "WorkMeter$Calendar" (60 : Nat) ({ cls := "WorkMeter$Calendar", name := "specialPlace", desc := "(I)I" } : Jvm.MethodName)) ∈ xTT := xw2 (i := 239) rfl rfl
theorem q481 : (Jvm.Cond.instanceMethod ({ cls := "WorkMeter$Calendar", name := "specialPlace", desc := "(I)I" } : Jvm.MethodName)) ∈ xTT := xw3 (i := 1) rfl rfl
theorem q482 : (Jvm.Cond.code ({ cls := "WorkMeter$Calendar", name := "specialPlace", desc := "(I)I" } : Jvm.MethodName) prog_2_method_8_code (3 : Nat) (Option.some Jvm.ClassFile.FieldType.int)) ∈ xTT := xw3 (i := 2) rfl rfl
theorem q483 : (Jvm.Cond.methodLink "WorkMeter$Calendar" (64 : Nat) ({ cls := "WorkMeter$Calendar", name := "seasonOf", desc := "(I)I" } : Jvm.MethodName)) ∈ xTT := xw3 (i := 3) rfl rfl
theorem q485 : (Jvm.Cond.instanceMethod ({ cls := "WorkMeter$Calendar", name := "seasonOf", desc := "(I)I" } : Jvm.MethodName)) ∈ xTT := xw3 (i := 5) rfl rfl
theorem q486 : (Jvm.Cond.code ({ cls := "WorkMeter$Calendar", name := "seasonOf", desc := "(I)I" } : Jvm.MethodName) prog_2_method_12_code (5 : Nat) (Option.some Jvm.ClassFile.FieldType.int)) ∈ xTT := xw3 (i := 6) rfl rfl
theorem q487 : (Jvm.Cond.methodLink "WorkMeter$Calendar" (71 : Nat) ({ cls := "WorkMeter$Calendar", name := "tariffIn", desc := "(II)I" } : Jvm.MethodName)) ∈ xTT := xw3 (i := 7) rfl rfl
theorem q489 : (Jvm.Cond.instanceMethod ({ cls := "WorkMeter$Calendar", name := "tariffIn", desc := "(II)I" } : Jvm.MethodName)) ∈ xTT := xw3 (i := 9) rfl rfl
theorem q490 : (Jvm.Cond.code ({ cls := "WorkMeter$Calendar", name := "tariffIn", desc := "(II)I" } : Jvm.MethodName) prog_2_method_14_code (4 : Nat) (Option.some Jvm.ClassFile.FieldType.int)) ∈ xTT := xw3 (i := 10) rfl rfl
theorem q491 : (Jvm.Cond.methodLink "WorkMeter$Calendar" (52 : Nat) ({ cls := "WorkMeter$Calendar", name := "switchesBefore", desc := "(II)I" } : Jvm.MethodName)) ∈ xTT := xw3 (i := 11) rfl rfl
theorem q493 : (Jvm.Cond.instanceMethod ({ cls := "WorkMeter$Calendar", name := "switchesBefore", desc := "(II)I" } : Jvm.MethodName)) ∈ xTT := xw3 (i := 13) rfl rfl
theorem q494 : (Jvm.Cond.code ({ cls := "WorkMeter$Calendar", name := "switchesBefore", desc := "(II)I" } : Jvm.MethodName) prog_2_method_7_code (5 : Nat) (Option.some Jvm.ClassFile.FieldType.int)) ∈ xTT := xw3 (i := 14) rfl rfl
theorem q495 : (Jvm.Cond.methodLink "WorkMeter$Meter" (217 : Nat) ({ cls := "WorkMeter$Settings", name := "low", desc := "()I" } : Jvm.MethodName)) ∈ xTT := xw3 (i := 15) rfl rfl
theorem q496 : (Jvm.Cond.instanceMethod ({ cls := "WorkMeter$Settings", name := "low", desc := "()I" } : Jvm.MethodName)) ∈ xTT := xw3 (i := 16) rfl rfl
theorem q497 : (Jvm.Cond.selects "WorkMeter$Settings" ({ cls := "WorkMeter$Settings", name := "low", desc := "()I" } : Jvm.MethodName) ({ cls := "WorkMeter$Settings", name := "low", desc := "()I" } : Jvm.MethodName)) ∈ xTT := xw3 (i := 17) rfl rfl
theorem q498 : (Jvm.Cond.code ({ cls := "WorkMeter$Settings", name := "low", desc := "()I" } : Jvm.MethodName) prog_11_method_8_code (1 : Nat) (Option.some Jvm.ClassFile.FieldType.int)) ∈ xTT := xw3 (i := 18) rfl rfl
theorem q499 : (Jvm.Cond.methodLink "WorkMeter$Meter" (220 : Nat) ({ cls := "WorkMeter$Wave", name := "marksSeen", desc := "(I)I" } : Jvm.MethodName)) ∈ xTT := xw3 (i := 19) rfl rfl
theorem q500 : (Jvm.Cond.instanceMethod ({ cls := "WorkMeter$Wave", name := "marksSeen", desc := "(I)I" } : Jvm.MethodName)) ∈ xTT := xw3 (i := 20) rfl rfl
theorem q501 : (Jvm.Cond.selects "WorkMeter$Wave" ({ cls := "WorkMeter$Wave", name := "marksSeen", desc := "(I)I" } : Jvm.MethodName) ({ cls := "WorkMeter$Wave", name := "marksSeen", desc := "(I)I" } : Jvm.MethodName)) ∈ xTT := xw3 (i := 21) rfl rfl
theorem q502 : (Jvm.Cond.code ({ cls := "WorkMeter$Wave", name := "marksSeen", desc := "(I)I" } : Jvm.MethodName) prog_12_method_15_code (13 : Nat) (Option.some Jvm.ClassFile.FieldType.int)) ∈ xTT := xw3 (i := 22) rfl rfl
theorem q503 : (Jvm.Cond.methodLink "WorkMeter$Meter" (223 : Nat) ({ cls := "WorkMeter$Meter", name := "stretch", desc := "(III)I" } : Jvm.MethodName)) ∈ xTT := xw3 (i := 23) rfl rfl
theorem q505 : (Jvm.Cond.instanceMethod ({ cls := "WorkMeter$Meter", name := "stretch", desc := "(III)I" } : Jvm.MethodName)) ∈ xTT := xw3 (i := 25) rfl rfl
theorem q506 : (Jvm.Cond.code ({ cls := "WorkMeter$Meter", name := "stretch", desc := "(III)I" } : Jvm.MethodName) prog_8_method_14_code (6 : Nat) (Option.some Jvm.ClassFile.FieldType.int)) ∈ xTT := xw3 (i := 26) rfl rfl
theorem q507 : (Jvm.Cond.constant "WorkMeter$Meter" (243 : Nat) (2000000000 : Int32)) ∈ xTT := xw3 (i := 27) rfl rfl
theorem q508 : (Jvm.Cond.methodLink "WorkMeter$Meter" (142 : Nat) ({ cls := "WorkMeter$Settings", name := "blockLength", desc := "()I" } : Jvm.MethodName)) ∈ xTT := xw3 (i := 28) rfl rfl
theorem q509 : (Jvm.Cond.instanceMethod ({ cls := "WorkMeter$Settings", name := "blockLength", desc := "()I" } : Jvm.MethodName)) ∈ xTT := xw3 (i := 29) rfl rfl
theorem q510 : (Jvm.Cond.selects "WorkMeter$Settings" ({ cls := "WorkMeter$Settings", name := "blockLength", desc := "()I" } : Jvm.MethodName) ({ cls := "WorkMeter$Settings", name := "blockLength", desc := "()I" } : Jvm.MethodName)) ∈ xTT := xw3 (i := 30) rfl rfl
theorem q511 : (Jvm.Cond.code ({ cls := "WorkMeter$Settings", name := "blockLength", desc := "()I" } : Jvm.MethodName) prog_11_method_13_code (1 : Nat) (Option.some Jvm.ClassFile.FieldType.int)) ∈ xTT := xw3 (i := 31) rfl rfl
theorem q512 : (Jvm.Cond.methodLink "WorkMeter$Settings" (34 : Nat) ({ cls := "java/lang/Math", name := "max", desc := "(II)I" } : Jvm.MethodName)) ∈ xTT := xw3 (i := 32) rfl rfl
theorem q513 : (Jvm.Cond.static ({ cls := "java/lang/Math", name := "max", desc := "(II)I" } : Jvm.MethodName)) ∈ xTT := xw3 (i := 33) rfl rfl
theorem q514 : (Jvm.Cond.code ({ cls := "java/lang/Math", name := "max", desc := "(II)I" } : Jvm.MethodName) prog_15_method_65_code (2 : Nat) (Option.some Jvm.ClassFile.FieldType.int)) ∈ xTT := xw3 (i := 34) rfl rfl
theorem q515 : (Jvm.Cond.methodLink "WorkMeter$Meter" (196 : Nat) ({ cls := "java/lang/Math", name := "min", desc := "(II)I" } : Jvm.MethodName)) ∈ xTT := xw3 (i := 35) rfl rfl
theorem q516 : (Jvm.Cond.static ({ cls := "java/lang/Math", name := "min", desc := "(II)I" } : Jvm.MethodName)) ∈ xTT := xw3 (i := 36) rfl rfl
theorem q517 : (Jvm.Cond.code ({ cls := "java/lang/Math", name := "min", desc := "(II)I" } : Jvm.MethodName) prog_15_method_69_code (2 : Nat) (Option.some Jvm.ClassFile.FieldType.int)) ∈ xTT := xw3 (i := 37) rfl rfl
theorem q518 : (Jvm.Cond.methodLink "WorkMeter$Meter" (244 : Nat) ({ cls := "WorkMeter$Calendar", name := "heldUntil", desc := "(I)I" } : Jvm.MethodName)) ∈ xTT := xw3 (i := 38) rfl rfl
theorem q519 : (Jvm.Cond.instanceMethod ({ cls := "WorkMeter$Calendar", name := "heldUntil", desc := "(I)I" } : Jvm.MethodName)) ∈ xTT := xw3 (i := 39) rfl rfl
theorem q520 : (Jvm.Cond.selects "WorkMeter$Calendar" ({ cls := "WorkMeter$Calendar", name := "heldUntil", desc := "(I)I" } : Jvm.MethodName) ({ cls := "WorkMeter$Calendar", name := "heldUntil", desc := "(I)I" } : Jvm.MethodName)) ∈ xTT := xw3 (i := 40) rfl rfl
theorem q521 : (Jvm.Cond.code ({ cls := "WorkMeter$Calendar", name := "heldUntil", desc := "(I)I" } : Jvm.MethodName) prog_2_method_16_code (6 : Nat) (Option.some Jvm.ClassFile.FieldType.int)) ∈ xTT := xw3 (i := 41) rfl rfl
theorem q522 : (Jvm.Cond.methodLink "WorkMeter$Meter" (233 : Nat) ({ cls := "WorkMeter$Settings", name := "delay", desc := "()I" } : Jvm.MethodName)) ∈ xTT := xw3 (i := 42) rfl rfl
theorem q523 : (Jvm.Cond.instanceMethod ({ cls := "WorkMeter$Settings", name := "delay", desc := "()I" } : Jvm.MethodName)) ∈ xTT := xw3 (i := 43) rfl rfl
theorem q524 : (Jvm.Cond.selects "WorkMeter$Settings" ({ cls := "WorkMeter$Settings", name := "delay", desc := "()I" } : Jvm.MethodName) ({ cls := "WorkMeter$Settings", name := "delay", desc := "()I" } : Jvm.MethodName)) ∈ xTT := xw3 (i := 44) rfl rfl
theorem q525 : (Jvm.Cond.code ({ cls := "WorkMeter$Settings", name := "delay", desc := "()I" } : Jvm.MethodName) prog_11_method_9_code (1 : Nat) (Option.some Jvm.ClassFile.FieldType.int)) ∈ xTT := xw3 (i := 45) rfl rfl
theorem q526 : (Jvm.Cond.methodLink "WorkMeter$Meter" (247 : Nat) ({ cls := "WorkMeter$Marks", name := "secondsToTurn", desc := "(III)I" } : Jvm.MethodName)) ∈ xTT := xw3 (i := 46) rfl rfl
theorem q527 : (Jvm.Cond.instanceMethod ({ cls := "WorkMeter$Marks", name := "secondsToTurn", desc := "(III)I" } : Jvm.MethodName)) ∈ xTT := xw3 (i := 47) rfl rfl
theorem q528 : (Jvm.Cond.selects "WorkMeter$Marks" ({ cls := "WorkMeter$Marks", name := "secondsToTurn", desc := "(III)I" } : Jvm.MethodName) ({ cls := "WorkMeter$Marks", name := "secondsToTurn", desc := "(III)I" } : Jvm.MethodName)) ∈ xTT := xw3 (i := 48) rfl rfl
theorem q529 : (Jvm.Cond.code ({ cls := "WorkMeter$Marks", name := "secondsToTurn", desc := "(III)I" } : Jvm.MethodName) prog_7_method_6_code (7 : Nat) (Option.some Jvm.ClassFile.FieldType.int)) ∈ xTT := xw3 (i := 49) rfl rfl
theorem q530 : (Jvm.Cond.methodLink "WorkMeter$Marks" (35 : Nat) ({ cls := "WorkMeter$Marks", name := "isOn", desc := "(I)Z" } : Jvm.MethodName)) ∈ xTT := xw3 (i := 50) rfl rfl
theorem q531 : (Jvm.Cond.instanceMethod ({ cls := "WorkMeter$Marks", name := "isOn", desc := "(I)Z" } : Jvm.MethodName)) ∈ xTT := xw3 (i := 51) rfl rfl
theorem q532 : (Jvm.Cond.selects "WorkMeter$Marks" ({ cls := "WorkMeter$Marks", name := "isOn", desc := "(I)Z" } : Jvm.MethodName) ({ cls := "WorkMeter$Marks", name := "isOn", desc := "(I)Z" } : Jvm.MethodName)) ∈ xTT := xw3 (i := 52) rfl rfl
theorem q533 : (Jvm.Cond.code ({ cls := "WorkMeter$Marks", name := "isOn", desc := "(I)Z" } : Jvm.MethodName) prog_7_method_3_code (2 : Nat) (Option.some Jvm.ClassFile.FieldType.boolean)) ∈ xTT := xw3 (i := 53) rfl rfl
theorem q534 : (Jvm.Cond.methodLink "WorkMeter$Marks" (43 : Nat) ({ cls := "java/lang/Math", name := "max", desc := "(II)I" } : Jvm.MethodName)) ∈ xTT := xw3 (i := 54) rfl rfl
theorem q535 : (Jvm.Cond.methodLink "WorkMeter$Marks" (49 : Nat) ({ cls := "java/lang/Math", name := "min", desc := "(II)I" } : Jvm.MethodName)) ∈ xTT := xw3 (i := 55) rfl rfl
theorem q536 : (Jvm.Cond.methodLink "WorkMeter$Meter" (250 : Nat) ({ cls := "WorkMeter$Meter", name := "secondsToOpen", desc := "(II)I" } : Jvm.MethodName)) ∈ xTT := xw3 (i := 56) rfl rfl
theorem q538 : (Jvm.Cond.instanceMethod ({ cls := "WorkMeter$Meter", name := "secondsToOpen", desc := "(II)I" } : Jvm.MethodName)) ∈ xTT := xw3 (i := 58) rfl rfl
theorem q539 : (Jvm.Cond.code ({ cls := "WorkMeter$Meter", name := "secondsToOpen", desc := "(II)I" } : Jvm.MethodName) prog_8_method_16_code (12 : Nat) (Option.some Jvm.ClassFile.FieldType.int)) ∈ xTT := xw3 (i := 59) rfl rfl
theorem q540 : (Jvm.Cond.methodLink "WorkMeter$Meter" (256 : Nat) ({ cls := "WorkMeter$Wave", name := "active", desc := "()J" } : Jvm.MethodName)) ∈ xTT := xw3 (i := 60) rfl rfl
theorem q541 : (Jvm.Cond.instanceMethod ({ cls := "WorkMeter$Wave", name := "active", desc := "()J" } : Jvm.MethodName)) ∈ xTT := xw3 (i := 61) rfl rfl
theorem q542 : (Jvm.Cond.selects "WorkMeter$Wave" ({ cls := "WorkMeter$Wave", name := "active", desc := "()J" } : Jvm.MethodName) ({ cls := "WorkMeter$Wave", name := "active", desc := "()J" } : Jvm.MethodName)) ∈ xTT := xw3 (i := 62) rfl rfl
theorem q543 : (Jvm.Cond.code ({ cls := "WorkMeter$Wave", name := "active", desc := "()J" } : Jvm.MethodName) prog_12_method_7_code (1 : Nat) (Option.some Jvm.ClassFile.FieldType.long)) ∈ xTT := xw3 (i := 63) rfl rfl
theorem q544 : (Jvm.Cond.methodLink "WorkMeter$Meter" (267 : Nat) ({ cls := "WorkMeter$Settings", name := "priceOf", desc := "(I)I" } : Jvm.MethodName)) ∈ xTT := xw3 (i := 64) rfl rfl
theorem q545 : (Jvm.Cond.instanceMethod ({ cls := "WorkMeter$Settings", name := "priceOf", desc := "(I)I" } : Jvm.MethodName)) ∈ xTT := xw3 (i := 65) rfl rfl
theorem q546 : (Jvm.Cond.selects "WorkMeter$Settings" ({ cls := "WorkMeter$Settings", name := "priceOf", desc := "(I)I" } : Jvm.MethodName) ({ cls := "WorkMeter$Settings", name := "priceOf", desc := "(I)I" } : Jvm.MethodName)) ∈ xTT := xw3 (i := 66) rfl rfl
theorem q547 : (Jvm.Cond.code ({ cls := "WorkMeter$Settings", name := "priceOf", desc := "(I)I" } : Jvm.MethodName) prog_11_method_11_code (2 : Nat) (Option.some Jvm.ClassFile.FieldType.int)) ∈ xTT := xw3 (i := 67) rfl rfl
theorem q548 : (Jvm.Cond.methodLink "WorkMeter$Meter" (270 : Nat) ({ cls := "WorkMeter$Meter", name := "isCreeping", desc := "()Z" } : Jvm.MethodName)) ∈ xTT := xw3 (i := 68) rfl rfl
theorem q550 : (Jvm.Cond.instanceMethod ({ cls := "WorkMeter$Meter", name := "isCreeping", desc := "()Z" } : Jvm.MethodName)) ∈ xTT := xw3 (i := 70) rfl rfl
theorem q551 : (Jvm.Cond.code ({ cls := "WorkMeter$Meter", name := "isCreeping", desc := "()Z" } : Jvm.MethodName) prog_8_method_15_code (6 : Nat) (Option.some Jvm.ClassFile.FieldType.boolean)) ∈ xTT := xw3 (i := 71) rfl rfl
theorem q552 : (Jvm.Cond.methodLink "WorkMeter$Meter" (253 : Nat) ({ cls := "WorkMeter$Settings", name := "start", desc := "()I" } : Jvm.MethodName)) ∈ xTT := xw3 (i := 72) rfl rfl
theorem q553 : (Jvm.Cond.instanceMethod ({ cls := "WorkMeter$Settings", name := "start", desc := "()I" } : Jvm.MethodName)) ∈ xTT := xw3 (i := 73) rfl rfl
theorem q554 : (Jvm.Cond.selects "WorkMeter$Settings" ({ cls := "WorkMeter$Settings", name := "start", desc := "()I" } : Jvm.MethodName) ({ cls := "WorkMeter$Settings", name := "start", desc := "()I" } : Jvm.MethodName)) ∈ xTT := xw3 (i := 74) rfl rfl
theorem q555 : (Jvm.Cond.code ({ cls := "WorkMeter$Settings", name := "start", desc := "()I" } : Jvm.MethodName) prog_11_method_7_code (1 : Nat) (Option.some Jvm.ClassFile.FieldType.int)) ∈ xTT := xw3 (i := 75) rfl rfl
theorem q556 : (Jvm.Cond.methodLink "WorkMeter$Meter" (260 : Nat) ({ cls := "WorkMeter$Wave", name := "reactive", desc := "()J" } : Jvm.MethodName)) ∈ xTT := xw3 (i := 76) rfl rfl
theorem q557 : (Jvm.Cond.instanceMethod ({ cls := "WorkMeter$Wave", name := "reactive", desc := "()J" } : Jvm.MethodName)) ∈ xTT := xw3 (i := 77) rfl rfl
theorem q558 : (Jvm.Cond.selects "WorkMeter$Wave" ({ cls := "WorkMeter$Wave", name := "reactive", desc := "()J" } : Jvm.MethodName) ({ cls := "WorkMeter$Wave", name := "reactive", desc := "()J" } : Jvm.MethodName)) ∈ xTT := xw3 (i := 78) rfl rfl
theorem q559 : (Jvm.Cond.code ({ cls := "WorkMeter$Wave", name := "reactive", desc := "()J" } : Jvm.MethodName) prog_12_method_8_code (1 : Nat) (Option.some Jvm.ClassFile.FieldType.long)) ∈ xTT := xw3 (i := 79) rfl rfl
theorem q560 : (Jvm.Cond.methodLink "WorkMeter$Meter" (263 : Nat) ({ cls := "java/lang/Math", name := "abs", desc := "(J)J" } : Jvm.MethodName)) ∈ xTT := xw3 (i := 80) rfl rfl
theorem q561 : (Jvm.Cond.static ({ cls := "java/lang/Math", name := "abs", desc := "(J)J" } : Jvm.MethodName)) ∈ xTT := xw3 (i := 81) rfl rfl
theorem q562 : (Jvm.Cond.code ({ cls := "java/lang/Math", name := "abs", desc := "(J)J" } : Jvm.MethodName) prog_15_method_61_code (2 : Nat) (Option.some Jvm.ClassFile.FieldType.long)) ∈ xTT := xw3 (i := 82) rfl rfl
theorem q563 : (Jvm.Cond.methodLink "WorkMeter$Meter" (273 : Nat) ({ cls := "WorkMeter$Registers", name := "importOf", desc := "(I)J" } : Jvm.MethodName)) ∈ xTT := xw3 (i := 83) rfl rfl
theorem q564 : (Jvm.Cond.instanceMethod ({ cls := "WorkMeter$Registers", name := "importOf", desc := "(I)J" } : Jvm.MethodName)) ∈ xTT := xw3 (i := 84) rfl rfl
theorem q565 : (Jvm.Cond.selects "WorkMeter$Registers" ({ cls := "WorkMeter$Registers", name := "importOf", desc := "(I)J" } : Jvm.MethodName) ({ cls := "WorkMeter$Registers", name := "importOf", desc := "(I)J" } : Jvm.MethodName)) ∈ xTT := xw3 (i := 85) rfl rfl
theorem q566 : (Jvm.Cond.code ({ cls := "WorkMeter$Registers", name := "importOf", desc := "(I)J" } : Jvm.MethodName) prog_9_method_4_code (2 : Nat) (Option.some Jvm.ClassFile.FieldType.long)) ∈ xTT := xw3 (i := 86) rfl rfl
theorem q567 : (Jvm.Cond.methodLink "WorkMeter$Meter" (134 : Nat) ({ cls := "WorkMeter$Settings", name := "unit", desc := "()I" } : Jvm.MethodName)) ∈ xTT := xw3 (i := 87) rfl rfl
theorem q568 : (Jvm.Cond.instanceMethod ({ cls := "WorkMeter$Settings", name := "unit", desc := "()I" } : Jvm.MethodName)) ∈ xTT := xw3 (i := 88) rfl rfl
theorem q569 : (Jvm.Cond.selects "WorkMeter$Settings" ({ cls := "WorkMeter$Settings", name := "unit", desc := "()I" } : Jvm.MethodName) ({ cls := "WorkMeter$Settings", name := "unit", desc := "()I" } : Jvm.MethodName)) ∈ xTT := xw3 (i := 89) rfl rfl
theorem q570 : (Jvm.Cond.code ({ cls := "WorkMeter$Settings", name := "unit", desc := "()I" } : Jvm.MethodName) prog_11_method_12_code (1 : Nat) (Option.some Jvm.ClassFile.FieldType.int)) ∈ xTT := xw3 (i := 90) rfl rfl
theorem q571 : (Jvm.Cond.methodLink "WorkMeter$Meter" (277 : Nat) ({ cls := "java/lang/Math", name := "min", desc := "(JJ)J" } : Jvm.MethodName)) ∈ xTT := xw3 (i := 91) rfl rfl
theorem q572 : (Jvm.Cond.static ({ cls := "java/lang/Math", name := "min", desc := "(JJ)J" } : Jvm.MethodName)) ∈ xTT := xw3 (i := 92) rfl rfl
theorem q573 : (Jvm.Cond.code ({ cls := "java/lang/Math", name := "min", desc := "(JJ)J" } : Jvm.MethodName) prog_15_method_70_code (4 : Nat) (Option.some Jvm.ClassFile.FieldType.long)) ∈ xTT := xw3 (i := 93) rfl rfl
theorem q574 : (Jvm.Cond.methodLink "WorkMeter$Meter" (280 : Nat) ({ cls := "java/lang/Math", name := "max", desc := "(JJ)J" } : Jvm.MethodName)) ∈ xTT := xw3 (i := 94) rfl rfl
theorem q575 : (Jvm.Cond.static ({ cls := "java/lang/Math", name := "max", desc := "(JJ)J" } : Jvm.MethodName)) ∈ xTT := xw3 (i := 95) rfl rfl
theorem q576 : (Jvm.Cond.code ({ cls := "java/lang/Math", name := "max", desc := "(JJ)J" } : Jvm.MethodName) prog_15_method_66_code (4 : Nat) (Option.some Jvm.ClassFile.FieldType.long)) ∈ xTT := xw3 (i := 96) rfl rfl
theorem q577 : (Jvm.Cond.methodLink "WorkMeter$Meter" (227 : Nat) ({ cls := "WorkMeter$Meter", name := "meterPower", desc := "(II)V" } : Jvm.MethodName)) ∈ xTT := xw3 (i := 97) rfl rfl
theorem q579 : (Jvm.Cond.instanceMethod ({ cls := "WorkMeter$Meter", name := "meterPower", desc := "(II)V" } : Jvm.MethodName)) ∈ xTT := xw3 (i := 99) rfl rfl
theorem q580 : (Jvm.Cond.code ({ cls := "WorkMeter$Meter", name := "meterPower", desc := "(II)V" } : Jvm.MethodName) prog_8_method_17_code (11 : Nat) (Option.none : Option Jvm.ClassFile.FieldType)) ∈ xTT := xw3 (i := 100) rfl rfl
theorem q581 : (Jvm.Cond.methodLink "WorkMeter$Meter" (286 : Nat) ({ cls := "WorkMeter$Registers", name := "count", desc := "(IJJJ)V" } : Jvm.MethodName)) ∈ xTT := xw3 (i := 101) rfl rfl
theorem q582 : (Jvm.Cond.instanceMethod ({ cls := "WorkMeter$Registers", name := "count", desc := "(IJJJ)V" } : Jvm.MethodName)) ∈ xTT := xw3 (i := 102) rfl rfl
theorem q583 : (Jvm.Cond.selects "WorkMeter$Registers" ({ cls := "WorkMeter$Registers", name := "count", desc := "(IJJJ)V" } : Jvm.MethodName) ({ cls := "WorkMeter$Registers", name := "count", desc := "(IJJJ)V" } : Jvm.MethodName)) ∈ xTT := xw3 (i := 103) rfl rfl
theorem q584 : (Jvm.Cond.code ({ cls := "WorkMeter$Registers", name := "count", desc := "(IJJJ)V" } : Jvm.MethodName) prog_9_method_3_code (9 : Nat) (Option.none : Option Jvm.ClassFile.FieldType)) ∈ xTT := xw3 (i := 104) rfl rfl
theorem q585 : (Jvm.Cond.methodLink "WorkMeter$Registers" (31 : Nat) ({ cls := "WorkMeter$Wave", name := "quadrantOf", desc := "(JJ)I" } : Jvm.MethodName)) ∈ xTT := xw3 (i := 105) rfl rfl
theorem q586 : (Jvm.Cond.static ({ cls := "WorkMeter$Wave", name := "quadrantOf", desc := "(JJ)I" } : Jvm.MethodName)) ∈ xTT := xw3 (i := 106) rfl rfl
theorem q587 : (Jvm.Cond.code ({ cls := "WorkMeter$Wave", name := "quadrantOf", desc := "(JJ)I" } : Jvm.MethodName) prog_12_method_10_code (4 : Nat) (Option.some Jvm.ClassFile.FieldType.int)) ∈ xTT := xw3 (i := 107) rfl rfl
theorem q588 : (Jvm.Cond.methodLink "WorkMeter$Registers" (37 : Nat) ({ cls := "java/lang/Math", name := "abs", desc := "(J)J" } : Jvm.MethodName)) ∈ xTT := xw3 (i := 108) rfl rfl
theorem q589 : (Jvm.Cond.methodLink "WorkMeter$Meter" (290 : Nat) ({ cls := "WorkMeter$Load", name := "addPower", desc := "(JJ)V" } : Jvm.MethodName)) ∈ xTT := xw3 (i := 109) rfl rfl
theorem q590 : (Jvm.Cond.instanceMethod ({ cls := "WorkMeter$Load", name := "addPower", desc := "(JJ)V" } : Jvm.MethodName)) ∈ xTT := xw3 (i := 110) rfl rfl
theorem q591 : (Jvm.Cond.selects "WorkMeter$Load" ({ cls := "WorkMeter$Load", name := "addPower", desc := "(JJ)V" } : Jvm.MethodName) ({ cls := "WorkMeter$Load", name := "addPower", desc := "(JJ)V" } : Jvm.MethodName)) ∈ xTT := xw3 (i := 111) rfl rfl
theorem q592 : (Jvm.Cond.code ({ cls := "WorkMeter$Load", name := "addPower", desc := "(JJ)V" } : Jvm.MethodName) prog_5_method_5_code (5 : Nat) (Option.none : Option Jvm.ClassFile.FieldType)) ∈ xTT := xw3 (i := 112) rfl rfl
theorem q593 : (Jvm.Cond.methodLink "WorkMeter$Meter" (230 : Nat) ({ cls := "WorkMeter$Meter", name := "settleSwitch", desc := "()V" } : Jvm.MethodName)) ∈ xTT := xw3 (i := 113) rfl rfl
theorem q594 : (Jvm.Cond.instanceMethod ({ cls := "WorkMeter$Meter", name := "settleSwitch", desc := "()V" } : Jvm.MethodName)) ∈ xTT := xw3 (i := 114) rfl rfl
theorem q595 : (Jvm.Cond.selects "WorkMeter$Meter" ({ cls := "WorkMeter$Meter", name := "settleSwitch", desc := "()V" } : Jvm.MethodName) ({ cls := "WorkMeter$Meter", name := "settleSwitch", desc := "()V" } : Jvm.MethodName)) ∈ xTT := xw3 (i := 115) rfl rfl
theorem q596 : (Jvm.Cond.code ({ cls := "WorkMeter$Meter", name := "settleSwitch", desc := "()V" } : Jvm.MethodName) prog_8_method_9_code (2 : Nat) (Option.none : Option Jvm.ClassFile.FieldType)) ∈ xTT := xw3 (i := 116) rfl rfl
theorem q597 : (Jvm.Cond.methodLink "WorkMeter$Meter" (165 : Nat) ({ cls := "WorkMeter$Meter", name := "note", desc := "(II)V" } : Jvm.MethodName)) ∈ xTT := xw3 (i := 117) rfl rfl
theorem q598 : (Jvm.Cond.instanceMethod ({ cls := "WorkMeter$Meter", name := "note", desc := "(II)V" } : Jvm.MethodName)) ∈ xTT := xw3 (i := 118) rfl rfl
theorem q599 : (Jvm.Cond.selects "WorkMeter$Meter" ({ cls := "WorkMeter$Meter", name := "note", desc := "(II)V" } : Jvm.MethodName) ({ cls := "WorkMeter$Meter", name := "note", desc := "(II)V" } : Jvm.MethodName)) ∈ xTT := xw3 (i := 119) rfl rfl
theorem q600 : (Jvm.Cond.code ({ cls := "WorkMeter$Meter", name := "note", desc := "(II)V" } : Jvm.MethodName) prog_8_method_3_code (3 : Nat) (Option.none : Option Jvm.ClassFile.FieldType)) ∈ xTT := xw3 (i := 120) rfl rfl
theorem q601 : (Jvm.Cond.methodLink "WorkMeter$Meter" (126 : Nat) ({ cls := "WorkMeter$Logbook", name := "add", desc := "(III)V" } : Jvm.MethodName)) ∈ xTT := xw3 (i := 121) rfl rfl
theorem q602 : (Jvm.Cond.instanceMethod ({ cls := "WorkMeter$Logbook", name := "add", desc := "(III)V" } : Jvm.MethodName)) ∈ xTT := xw3 (i := 122) rfl rfl
theorem q603 : (Jvm.Cond.selects "WorkMeter$Logbook" ({ cls := "WorkMeter$Logbook", name := "add", desc := "(III)V" } : Jvm.MethodName) ({ cls := "WorkMeter$Logbook", name := "add", desc := "(III)V" } : Jvm.MethodName)) ∈ xTT := xw3 (i := 123) rfl rfl
theorem q604 : (Jvm.Cond.code ({ cls := "WorkMeter$Logbook", name := "add", desc := "(III)V" } : Jvm.MethodName) prog_6_method_5_code (5 : Nat) (Option.none : Option Jvm.ClassFile.FieldType)) ∈ xTT := xw3 (i := 124) rfl rfl
theorem q605 : (Jvm.Cond.methodLink "WorkMeter$Meter" (236 : Nat) ({ cls := "WorkMeter$Marks", name := "passSeconds", desc := "(IIILWorkMeter$Logbook;I)V" } : Jvm.MethodName)) ∈ xTT := xw3 (i := 125) rfl rfl
theorem q606 : (Jvm.Cond.instanceMethod ({ cls := "WorkMeter$Marks", name := "passSeconds", desc := "(IIILWorkMeter$Logbook;I)V" } : Jvm.MethodName)) ∈ xTT := xw3 (i := 126) rfl rfl
theorem q607 : (Jvm.Cond.selects "WorkMeter$Marks" ({ cls := "WorkMeter$Marks", name := "passSeconds", desc := "(IIILWorkMeter$Logbook;I)V" } : Jvm.MethodName) ({ cls := "WorkMeter$Marks", name := "passSeconds", desc := "(IIILWorkMeter$Logbook;I)V" } : Jvm.MethodName)) ∈ xTT := xw3 (i := 127) rfl rfl
theorem q608 : (Jvm.Cond.code ({ cls := "WorkMeter$Marks", name := "passSeconds", desc := "(IIILWorkMeter$Logbook;I)V" } : Jvm.MethodName) prog_7_method_7_code (9 : Nat) (Option.none : Option Jvm.ClassFile.FieldType)) ∈ xTT := xw3 (i := 128) rfl rfl
theorem q609 : (Jvm.Cond.methodLink "WorkMeter$Marks" (39 : Nat) ({ cls := "WorkMeter$Marks", name := "turn", desc := "(IZLWorkMeter$Logbook;I)V" } : Jvm.MethodName)) ∈ xTT := xw3 (i := 129) rfl rfl
theorem q610 : (Jvm.Cond.instanceMethod ({ cls := "WorkMeter$Marks", name := "turn", desc := "(IZLWorkMeter$Logbook;I)V" } : Jvm.MethodName)) ∈ xTT := xw3 (i := 130) rfl rfl
theorem q611 : (Jvm.Cond.selects "WorkMeter$Marks" ({ cls := "WorkMeter$Marks", name := "turn", desc := "(IZLWorkMeter$Logbook;I)V" } : Jvm.MethodName) ({ cls := "WorkMeter$Marks", name := "turn", desc := "(IZLWorkMeter$Logbook;I)V" } : Jvm.MethodName)) ∈ xTT := xw3 (i := 131) rfl rfl
theorem q612 : (Jvm.Cond.code ({ cls := "WorkMeter$Marks", name := "turn", desc := "(IZLWorkMeter$Logbook;I)V" } : Jvm.MethodName) prog_7_method_4_code (5 : Nat) (Option.none : Option Jvm.ClassFile.FieldType)) ∈ xTT := xw3 (i := 132) rfl rfl
theorem q613 : (Jvm.Cond.methodLink "WorkMeter$Marks" (29 : Nat) ({ cls := "WorkMeter$Logbook", name := "add", desc := "(III)V" } : Jvm.MethodName)) ∈ xTT := xw3 (i := 133) rfl rfl
theorem q614 : (Jvm.Cond.methodLink "WorkMeter$Meter" (240 : Nat) ({ cls := "WorkMeter$Load", name := "addMetered", desc := "(II)V" } : Jvm.MethodName)) ∈ xTT := xw3 (i := 134) rfl rfl
theorem q615 : (Jvm.Cond.instanceMethod ({ cls := "WorkMeter$Load", name := "addMetered", desc := "(II)V" } : Jvm.MethodName)) ∈ xTT := xw3 (i := 135) rfl rfl
theorem q616 : (Jvm.Cond.selects "WorkMeter$Load" ({ cls := "WorkMeter$Load", name := "addMetered", desc := "(II)V" } : Jvm.MethodName) ({ cls := "WorkMeter$Load", name := "addMetered", desc := "(II)V" } : Jvm.MethodName)) ∈ xTT := xw3 (i := 136) rfl rfl
theorem q617 : (Jvm.Cond.code ({ cls := "WorkMeter$Load", name := "addMetered", desc := "(II)V" } : Jvm.MethodName) prog_5_method_6_code (3 : Nat) (Option.none : Option Jvm.ClassFile.FieldType)) ∈ xTT := xw3 (i := 137) rfl rfl
theorem q618 : (Jvm.Cond.methodLink "WorkMeter$Meter" (211 : Nat) ({ cls := "WorkMeter$Meter", name := "endBlockIfDue", desc := "(I)V" } : Jvm.MethodName)) ∈ xTT := xw3 (i := 138) rfl rfl
theorem q620 : (Jvm.Cond.instanceMethod ({ cls := "WorkMeter$Meter", name := "endBlockIfDue", desc := "(I)V" } : Jvm.MethodName)) ∈ xTT := xw3 (i := 140) rfl rfl
theorem q621 : (Jvm.Cond.code ({ cls := "WorkMeter$Meter", name := "endBlockIfDue", desc := "(I)V" } : Jvm.MethodName) prog_8_method_18_code (3 : Nat) (Option.none : Option Jvm.ClassFile.FieldType)) ∈ xTT := xw3 (i := 141) rfl rfl
theorem q622 : (Jvm.Cond.methodLink "WorkMeter$Meter" (145 : Nat) ({ cls := "WorkMeter$Load", name := "endBlock", desc := "(III)V" } : Jvm.MethodName)) ∈ xTT := xw3 (i := 142) rfl rfl
theorem q623 : (Jvm.Cond.instanceMethod ({ cls := "WorkMeter$Load", name := "endBlock", desc := "(III)V" } : Jvm.MethodName)) ∈ xTT := xw3 (i := 143) rfl rfl
theorem q624 : (Jvm.Cond.selects "WorkMeter$Load" ({ cls := "WorkMeter$Load", name := "endBlock", desc := "(III)V" } : Jvm.MethodName) ({ cls := "WorkMeter$Load", name := "endBlock", desc := "(III)V" } : Jvm.MethodName)) ∈ xTT := xw3 (i := 144) rfl rfl
theorem q625 : (Jvm.Cond.code ({ cls := "WorkMeter$Load", name := "endBlock", desc := "(III)V" } : Jvm.MethodName) prog_5_method_9_code (5 : Nat) (Option.none : Option Jvm.ClassFile.FieldType)) ∈ xTT := xw3 (i := 145) rfl rfl
theorem q626 : (Jvm.Cond.methodLink "WorkMeter$Load" (56 : Nat) ({ cls := "WorkMeter$Load", name := "statusSoFar", desc := "(I)I" } : Jvm.MethodName)) ∈ xTT := xw3 (i := 146) rfl rfl
theorem q627 : (Jvm.Cond.instanceMethod ({ cls := "WorkMeter$Load", name := "statusSoFar", desc := "(I)I" } : Jvm.MethodName)) ∈ xTT := xw3 (i := 147) rfl rfl
theorem q628 : (Jvm.Cond.selects "WorkMeter$Load" ({ cls := "WorkMeter$Load", name := "statusSoFar", desc := "(I)I" } : Jvm.MethodName) ({ cls := "WorkMeter$Load", name := "statusSoFar", desc := "(I)I" } : Jvm.MethodName)) ∈ xTT := xw3 (i := 148) rfl rfl
theorem q629 : (Jvm.Cond.code ({ cls := "WorkMeter$Load", name := "statusSoFar", desc := "(I)I" } : Jvm.MethodName) prog_5_method_8_code (3 : Nat) (Option.some Jvm.ClassFile.FieldType.int)) ∈ xTT := xw3 (i := 149) rfl rfl
theorem q630 : (Jvm.Cond.methodLink "WorkMeter$Load" (60 : Nat) ({ cls := "WorkMeter$Load", name := "addLine", desc := "(II)V" } : Jvm.MethodName)) ∈ xTT := xw3 (i := 150) rfl rfl
theorem q632 : (Jvm.Cond.instanceMethod ({ cls := "WorkMeter$Load", name := "addLine", desc := "(II)V" } : Jvm.MethodName)) ∈ xTT := xw3 (i := 152) rfl rfl
theorem q633 : (Jvm.Cond.code ({ cls := "WorkMeter$Load", name := "addLine", desc := "(II)V" } : Jvm.MethodName) prog_5_method_10_code (5 : Nat) (Option.none : Option Jvm.ClassFile.FieldType)) ∈ xTT := xw3 (i := 153) rfl rfl
theorem q634 : (Jvm.Cond.methodLink "WorkMeter$Meter" (294 : Nat) ({ cls := "WorkMeter$Settings", name := "window", desc := "()I" } : Jvm.MethodName)) ∈ xTT := xw3 (i := 154) rfl rfl
theorem q635 : (Jvm.Cond.instanceMethod ({ cls := "WorkMeter$Settings", name := "window", desc := "()I" } : Jvm.MethodName)) ∈ xTT := xw3 (i := 155) rfl rfl
theorem q636 : (Jvm.Cond.selects "WorkMeter$Settings" ({ cls := "WorkMeter$Settings", name := "window", desc := "()I" } : Jvm.MethodName) ({ cls := "WorkMeter$Settings", name := "window", desc := "()I" } : Jvm.MethodName)) ∈ xTT := xw3 (i := 156) rfl rfl
theorem q637 : (Jvm.Cond.code ({ cls := "WorkMeter$Settings", name := "window", desc := "()I" } : Jvm.MethodName) prog_11_method_10_code (1 : Nat) (Option.some Jvm.ClassFile.FieldType.int)) ∈ xTT := xw3 (i := 157) rfl rfl
theorem q638 : (Jvm.Cond.methodLink "WorkMeter$Meter" (297 : Nat) ({ cls := "WorkMeter$Demand", name := "blockEnded", desc := "(LWorkMeter$Load;III)V" } : Jvm.MethodName)) ∈ xTT := xw3 (i := 158) rfl rfl
theorem q639 : (Jvm.Cond.instanceMethod ({ cls := "WorkMeter$Demand", name := "blockEnded", desc := "(LWorkMeter$Load;III)V" } : Jvm.MethodName)) ∈ xTT := xw3 (i := 159) rfl rfl
theorem q640 : (Jvm.Cond.selects "WorkMeter$Demand" ({ cls := "WorkMeter$Demand", name := "blockEnded", desc := "(LWorkMeter$Load;III)V" } : Jvm.MethodName) ({ cls := "WorkMeter$Demand", name := "blockEnded", desc := "(LWorkMeter$Load;III)V" } : Jvm.MethodName)) ∈ xTT := xw3 (i := 160) rfl rfl
theorem q641 : (Jvm.Cond.code ({ cls := "WorkMeter$Demand", name := "blockEnded", desc := "(LWorkMeter$Load;III)V" } : Jvm.MethodName) prog_4_method_4_code (5 : Nat) (Option.none : Option Jvm.ClassFile.FieldType)) ∈ xTT := xw3 (i := 161) rfl rfl
theorem q642 : (Jvm.Cond.methodLink "WorkMeter$Demand" (47 : Nat) ({ cls := "WorkMeter$Demand", name := "windowIsWhole", desc := "(LWorkMeter$Load;II)Z" } : Jvm.MethodName)) ∈ xTT := xw3 (i := 162) rfl rfl
theorem q643 : (Jvm.Cond.static ({ cls := "WorkMeter$Demand", name := "windowIsWhole", desc := "(LWorkMeter$Load;II)Z" } : Jvm.MethodName)) ∈ xTT := xw3 (i := 163) rfl rfl
theorem q644 : (Jvm.Cond.code ({ cls := "WorkMeter$Demand", name := "windowIsWhole", desc := "(LWorkMeter$Load;II)Z" } : Jvm.MethodName) prog_4_method_5_code (4 : Nat) (Option.some Jvm.ClassFile.FieldType.boolean)) ∈ xTT := xw3 (i := 164) rfl rfl
theorem q645 : (Jvm.Cond.methodLink "WorkMeter$Demand" (60 : Nat) ({ cls := "WorkMeter$Load", name := "linesKept", desc := "()I" } : Jvm.MethodName)) ∈ xTT := xw3 (i := 165) rfl rfl
theorem q646 : (Jvm.Cond.instanceMethod ({ cls := "WorkMeter$Load", name := "linesKept", desc := "()I" } : Jvm.MethodName)) ∈ xTT := xw3 (i := 166) rfl rfl
theorem q647 : (Jvm.Cond.selects "WorkMeter$Load" ({ cls := "WorkMeter$Load", name := "linesKept", desc := "()I" } : Jvm.MethodName) ({ cls := "WorkMeter$Load", name := "linesKept", desc := "()I" } : Jvm.MethodName)) ∈ xTT := xw3 (i := 167) rfl rfl
theorem q648 : (Jvm.Cond.code ({ cls := "WorkMeter$Load", name := "linesKept", desc := "()I" } : Jvm.MethodName) prog_5_method_3_code (1 : Nat) (Option.some Jvm.ClassFile.FieldType.int)) ∈ xTT := xw3 (i := 168) rfl rfl
theorem q649 : (Jvm.Cond.methodLink "WorkMeter$Load" (50 : Nat) ({ cls := "java/lang/Math", name := "min", desc := "(II)I" } : Jvm.MethodName)) ∈ xTT := xw3 (i := 169) rfl rfl
theorem q650 : (Jvm.Cond.methodLink "WorkMeter$Demand" (57 : Nat) ({ cls := "WorkMeter$Load", name := "field", desc := "(II)J" } : Jvm.MethodName)) ∈ xTT := xw3 (i := 170) rfl rfl
theorem q651 : (Jvm.Cond.instanceMethod ({ cls := "WorkMeter$Load", name := "field", desc := "(II)J" } : Jvm.MethodName)) ∈ xTT := xw3 (i := 171) rfl rfl
theorem q652 : (Jvm.Cond.selects "WorkMeter$Load" ({ cls := "WorkMeter$Load", name := "field", desc := "(II)J" } : Jvm.MethodName) ({ cls := "WorkMeter$Load", name := "field", desc := "(II)J" } : Jvm.MethodName)) ∈ xTT := xw3 (i := 172) rfl rfl
theorem q653 : (Jvm.Cond.code ({ cls := "WorkMeter$Load", name := "field", desc := "(II)J" } : Jvm.MethodName) prog_5_method_4_code (3 : Nat) (Option.some Jvm.ClassFile.FieldType.long)) ∈ xTT := xw3 (i := 173) rfl rfl
theorem q654 : (Jvm.Cond.constantLong "WorkMeter$Demand" (64 : Nat) (192 : Int64)) ∈ xTT := xw3 (i := 174) rfl rfl
theorem q655 : (Jvm.Cond.methodLink "WorkMeter$Demand" (51 : Nat) ({ cls := "WorkMeter$Load", name := "importOf", desc := "(II)J" } : Jvm.MethodName)) ∈ xTT := xw3 (i := 175) rfl rfl
theorem q656 : (Jvm.Cond.instanceMethod ({ cls := "WorkMeter$Load", name := "importOf", desc := "(II)J" } : Jvm.MethodName)) ∈ xTT := xw3 (i := 176) rfl rfl
theorem q657 : (Jvm.Cond.selects "WorkMeter$Load" ({ cls := "WorkMeter$Load", name := "importOf", desc := "(II)J" } : Jvm.MethodName) ({ cls := "WorkMeter$Load", name := "importOf", desc := "(II)J" } : Jvm.MethodName)) ∈ xTT := xw3 (i := 177) rfl rfl
theorem q658 : (Jvm.Cond.code ({ cls := "WorkMeter$Load", name := "importOf", desc := "(II)J" } : Jvm.MethodName) prog_5_method_11_code (6 : Nat) (Option.some Jvm.ClassFile.FieldType.long)) ∈ xTT := xw3 (i := 178) rfl rfl
theorem q659 : (Jvm.Cond.methodLink "WorkMeter$Load" (64 : Nat) ({ cls := "WorkMeter$Load", name := "field", desc := "(II)J" } : Jvm.MethodName)) ∈ xTT := xw3 (i := 179) rfl rfl
theorem q660 : (Jvm.Cond.methodLink "WorkMeterLaw" (23 : Nat) ({ cls := "WorkMeter", name := "again", desc := "(I)J" } : Jvm.MethodName)) ∈ xTT := xw3 (i := 180) rfl rfl
theorem q661 : (Jvm.Cond.instanceMethod ({ cls := "WorkMeter", name := "again", desc := "(I)J" } : Jvm.MethodName)) ∈ xTT := xw3 (i := 181) rfl rfl
theorem q662 : (Jvm.Cond.selects "WorkMeter" ({ cls := "WorkMeter", name := "again", desc := "(I)J" } : Jvm.MethodName) ({ cls := "WorkMeter", name := "again", desc := "(I)J" } : Jvm.MethodName)) ∈ xTT := xw3 (i := 182) rfl rfl
theorem q663 : (Jvm.Cond.code ({ cls := "WorkMeter", name := "again", desc := "(I)J" } : Jvm.MethodName) prog_1_method_4_code (2 : Nat) (Option.some Jvm.ClassFile.FieldType.long)) ∈ xTT := xw3 (i := 183) rfl rfl
theorem q664 : (Jvm.Cond.constantLong "WorkMeter" (60 : Nat) (-1 : Int64)) ∈ xTT := xw3 (i := 184) rfl rfl
theorem q665 : (Jvm.Cond.methodLink "WorkMeter" (62 : Nat) ({ cls := "WorkMeter$Meter", name := "totalReading", desc := "(I)J" } : Jvm.MethodName)) ∈ xTT := xw3 (i := 185) rfl rfl
theorem q666 : (Jvm.Cond.instanceMethod ({ cls := "WorkMeter$Meter", name := "totalReading", desc := "(I)J" } : Jvm.MethodName)) ∈ xTT := xw3 (i := 186) rfl rfl
theorem q667 : (Jvm.Cond.selects "WorkMeter$Meter" ({ cls := "WorkMeter$Meter", name := "totalReading", desc := "(I)J" } : Jvm.MethodName) ({ cls := "WorkMeter$Meter", name := "totalReading", desc := "(I)J" } : Jvm.MethodName)) ∈ xTT := xw3 (i := 187) rfl rfl
theorem q668 : (Jvm.Cond.code ({ cls := "WorkMeter$Meter", name := "totalReading", desc := "(I)J" } : Jvm.MethodName) prog_8_method_4_code (2 : Nat) (Option.some Jvm.ClassFile.FieldType.long)) ∈ xTT := xw3 (i := 188) rfl rfl
theorem q669 : (Jvm.Cond.methodLink "WorkMeter$Meter" (130 : Nat) ({ cls := "WorkMeter$Registers", name := "sum", desc := "(II)J" } : Jvm.MethodName)) ∈ xTT := xw3 (i := 189) rfl rfl
theorem q670 : (Jvm.Cond.instanceMethod ({ cls := "WorkMeter$Registers", name := "sum", desc := "(II)J" } : Jvm.MethodName)) ∈ xTT := xw3 (i := 190) rfl rfl
theorem q671 : (Jvm.Cond.selects "WorkMeter$Registers" ({ cls := "WorkMeter$Registers", name := "sum", desc := "(II)J" } : Jvm.MethodName) ({ cls := "WorkMeter$Registers", name := "sum", desc := "(II)J" } : Jvm.MethodName)) ∈ xTT := xw3 (i := 191) rfl rfl
theorem q672 : (Jvm.Cond.code ({ cls := "WorkMeter$Registers", name := "sum", desc := "(II)J" } : Jvm.MethodName) prog_9_method_5_code (3 : Nat) (Option.some Jvm.ClassFile.FieldType.long)) ∈ xTT := xw3 (i := 192) rfl rfl
theorem q673 : (Jvm.Cond.methodLink "WorkMeter$Registers" (43 : Nat) ({ cls := "WorkMeter$Registers", name := "sumIn", desc := "([JII)J" } : Jvm.MethodName)) ∈ xTT := xw3 (i := 193) rfl rfl
theorem q674 : (Jvm.Cond.static ({ cls := "WorkMeter$Registers", name := "sumIn", desc := "([JII)J" } : Jvm.MethodName)) ∈ xTT := xw3 (i := 194) rfl rfl
theorem q675 : (Jvm.Cond.code ({ cls := "WorkMeter$Registers", name := "sumIn", desc := "([JII)J" } : Jvm.MethodName) prog_9_method_6_code (6 : Nat) (Option.some Jvm.ClassFile.FieldType.long)) ∈ xTT := xw3 (i := 195) rfl rfl
theorem q676 : (Jvm.Cond.methodLink "WorkMeterLaw" (28 : Nat) ({ cls := "WorkMeter", name := "set", desc := "(II)Z" } : Jvm.MethodName)) ∈ xTT := xw3 (i := 196) rfl rfl
theorem q677 : (Jvm.Cond.instanceMethod ({ cls := "WorkMeter", name := "set", desc := "(II)Z" } : Jvm.MethodName)) ∈ xTT := xw3 (i := 197) rfl rfl
theorem q678 : (Jvm.Cond.selects "WorkMeter" ({ cls := "WorkMeter", name := "set", desc := "(II)Z" } : Jvm.MethodName) ({ cls := "WorkMeter", name := "set", desc := "(II)Z" } : Jvm.MethodName)) ∈ xTT := xw3 (i := 198) rfl rfl
theorem q679 : (Jvm.Cond.code ({ cls := "WorkMeter", name := "set", desc := "(II)Z" } : Jvm.MethodName) prog_1_method_5_code (3 : Nat) (Option.some Jvm.ClassFile.FieldType.boolean)) ∈ xTT := xw3 (i := 199) rfl rfl
theorem q680 : (Jvm.Cond.methodLink "WorkMeter" (66 : Nat) ({ cls := "WorkMeter$Meter", name := "tellSetting", desc := "(II)Z" } : Jvm.MethodName)) ∈ xTT := xw3 (i := 200) rfl rfl
theorem q681 : (Jvm.Cond.instanceMethod ({ cls := "WorkMeter$Meter", name := "tellSetting", desc := "(II)Z" } : Jvm.MethodName)) ∈ xTT := xw3 (i := 201) rfl rfl
theorem q682 : (Jvm.Cond.selects "WorkMeter$Meter" ({ cls := "WorkMeter$Meter", name := "tellSetting", desc := "(II)Z" } : Jvm.MethodName) ({ cls := "WorkMeter$Meter", name := "tellSetting", desc := "(II)Z" } : Jvm.MethodName)) ∈ xTT := xw3 (i := 202) rfl rfl
theorem q683 : (Jvm.Cond.code ({ cls := "WorkMeter$Meter", name := "tellSetting", desc := "(II)Z" } : Jvm.MethodName) prog_8_method_5_code (3 : Nat) (Option.some Jvm.ClassFile.FieldType.boolean)) ∈ xTT := xw3 (i := 203) rfl rfl
theorem q684 : (Jvm.Cond.methodLink "WorkMeter$Meter" (138 : Nat) ({ cls := "WorkMeter$Settings", name := "canBe", desc := "(II)Z" } : Jvm.MethodName)) ∈ xTT := xw3 (i := 204) rfl rfl
theorem q685 : (Jvm.Cond.instanceMethod ({ cls := "WorkMeter$Settings", name := "canBe", desc := "(II)Z" } : Jvm.MethodName)) ∈ xTT := xw3 (i := 205) rfl rfl
theorem q686 : (Jvm.Cond.selects "WorkMeter$Settings" ({ cls := "WorkMeter$Settings", name := "canBe", desc := "(II)Z" } : Jvm.MethodName) ({ cls := "WorkMeter$Settings", name := "canBe", desc := "(II)Z" } : Jvm.MethodName)) ∈ xTT := xw3 (i := 206) rfl rfl
theorem q687 : (Jvm.Cond.code ({ cls := "WorkMeter$Settings", name := "canBe", desc := "(II)Z" } : Jvm.MethodName) prog_11_method_3_code (4 : Nat) (Option.some Jvm.ClassFile.FieldType.boolean)) ∈ xTT := xw3 (i := 207) rfl rfl
theorem q688 : (Jvm.Cond.methodLink "WorkMeter$Settings" (24 : Nat) ({ cls := "WorkMeter$Settings", name := "placeOf", desc := "(I)I" } : Jvm.MethodName)) ∈ xTT := xw3 (i := 208) rfl rfl
theorem q689 : (Jvm.Cond.static ({ cls := "WorkMeter$Settings", name := "placeOf", desc := "(I)I" } : Jvm.MethodName)) ∈ xTT := xw3 (i := 209) rfl rfl
theorem q690 : (Jvm.Cond.code ({ cls := "WorkMeter$Settings", name := "placeOf", desc := "(I)I" } : Jvm.MethodName) prog_11_method_14_code (1 : Nat) (Option.some Jvm.ClassFile.FieldType.int)) ∈ xTT := xw3 (i := 210) rfl rfl
theorem q691 : (Jvm.Cond.fieldLink "WorkMeter$Settings" (28 : Nat) "WorkMeter$Settings" "LEAST" "[I") ∈ xTT := xw3 (i := 211) rfl rfl
theorem q693 : (Jvm.Cond.fieldLink "WorkMeter$Settings" (31 : Nat) "WorkMeter$Settings" "MOST" "[I") ∈ xTT := xw3 (i := 213) rfl rfl
theorem q695 : (Jvm.Cond.methodLink "WorkMeter$Meter" (148 : Nat) ({ cls := "WorkMeter$Settings", name := "tell", desc := "(II)V" } : Jvm.MethodName)) ∈ xTT := xw3 (i := 215) rfl rfl
theorem q696 : (Jvm.Cond.instanceMethod ({ cls := "WorkMeter$Settings", name := "tell", desc := "(II)V" } : Jvm.MethodName)) ∈ xTT := xw3 (i := 216) rfl rfl
theorem q697 : (Jvm.Cond.selects "WorkMeter$Settings" ({ cls := "WorkMeter$Settings", name := "tell", desc := "(II)V" } : Jvm.MethodName) ({ cls := "WorkMeter$Settings", name := "tell", desc := "(II)V" } : Jvm.MethodName)) ∈ xTT := xw3 (i := 217) rfl rfl
theorem q698 : (Jvm.Cond.code ({ cls := "WorkMeter$Settings", name := "tell", desc := "(II)V" } : Jvm.MethodName) prog_11_method_4_code (4 : Nat) (Option.none : Option Jvm.ClassFile.FieldType)) ∈ xTT := xw3 (i := 218) rfl rfl
theorem q699 : (Jvm.Cond.methodLink "WorkMeterLaw" (32 : Nat) ({ cls := "WorkMeter", name := "table", desc := "(III)I" } : Jvm.MethodName)) ∈ xTT := xw3 (i := 219) rfl rfl
theorem q700 : (Jvm.Cond.instanceMethod ({ cls := "WorkMeter", name := "table", desc := "(III)I" } : Jvm.MethodName)) ∈ xTT := xw3 (i := 220) rfl rfl
theorem q701 : (Jvm.Cond.selects "WorkMeter" ({ cls := "WorkMeter", name := "table", desc := "(III)I" } : Jvm.MethodName) ({ cls := "WorkMeter", name := "table", desc := "(III)I" } : Jvm.MethodName)) ∈ xTT := xw3 (i := 221) rfl rfl
theorem q702 : (Jvm.Cond.code ({ cls := "WorkMeter", name := "table", desc := "(III)I" } : Jvm.MethodName) prog_1_method_6_code (4 : Nat) (Option.some Jvm.ClassFile.FieldType.int)) ∈ xTT := xw3 (i := 222) rfl rfl
theorem q703 : (Jvm.Cond.methodLink "WorkMeter" (69 : Nat) ({ cls := "WorkMeter", name := "isTable", desc := "(I)Z" } : Jvm.MethodName)) ∈ xTT := xw3 (i := 223) rfl rfl
theorem q704 : (Jvm.Cond.static ({ cls := "WorkMeter", name := "isTable", desc := "(I)Z" } : Jvm.MethodName)) ∈ xTT := xw3 (i := 224) rfl rfl
theorem q705 : (Jvm.Cond.code ({ cls := "WorkMeter", name := "isTable", desc := "(I)Z" } : Jvm.MethodName) prog_1_method_54_code (1 : Nat) (Option.some Jvm.ClassFile.FieldType.boolean)) ∈ xTT := xw3 (i := 225) rfl rfl
theorem q706 : (Jvm.Cond.methodLink "WorkMeter" (73 : Nat) ({ cls := "WorkMeter", name := "isTariff", desc := "(I)Z" } : Jvm.MethodName)) ∈ xTT := xw3 (i := 226) rfl rfl
theorem q707 : (Jvm.Cond.static ({ cls := "WorkMeter", name := "isTariff", desc := "(I)Z" } : Jvm.MethodName)) ∈ xTT := xw3 (i := 227) rfl rfl
theorem q708 : (Jvm.Cond.code ({ cls := "WorkMeter", name := "isTariff", desc := "(I)Z" } : Jvm.MethodName) prog_1_method_55_code (1 : Nat) (Option.some Jvm.ClassFile.FieldType.boolean)) ∈ xTT := xw3 (i := 228) rfl rfl
theorem q709 : (Jvm.Cond.constant "WorkMeter" (76 : Nat) (86400 : Int32)) ∈ xTT := xw3 (i := 229) rfl rfl
theorem q710 : (Jvm.Cond.methodLink "WorkMeter" (81 : Nat) ({ cls := "WorkMeter$Calendar", name := "putSwitch", desc := "(III)I" } : Jvm.MethodName)) ∈ xTT := xw3 (i := 230) rfl rfl
theorem q711 : (Jvm.Cond.instanceMethod ({ cls := "WorkMeter$Calendar", name := "putSwitch", desc := "(III)I" } : Jvm.MethodName)) ∈ xTT := xw3 (i := 231) rfl rfl
theorem q712 : (Jvm.Cond.selects "WorkMeter$Calendar" ({ cls := "WorkMeter$Calendar", name := "putSwitch", desc := "(III)I" } : Jvm.MethodName) ({ cls := "WorkMeter$Calendar", name := "putSwitch", desc := "(III)I" } : Jvm.MethodName)) ∈ xTT := xw3 (i := 232) rfl rfl
theorem q713 : (Jvm.Cond.code ({ cls := "WorkMeter$Calendar", name := "putSwitch", desc := "(III)I" } : Jvm.MethodName) prog_2_method_5_code (7 : Nat) (Option.some Jvm.ClassFile.FieldType.int)) ∈ xTT := xw3 (i := 233) rfl rfl
theorem q714 : (Jvm.Cond.methodLink "WorkMeter$Calendar" (56 : Nat) ({ cls := "WorkMeter$Calendar", name := "hasSwitch", desc := "(II)Z" } : Jvm.MethodName)) ∈ xTT := xw3 (i := 234) rfl rfl
theorem q715 : (Jvm.Cond.instanceMethod ({ cls := "WorkMeter$Calendar", name := "hasSwitch", desc := "(II)Z" } : Jvm.MethodName)) ∈ xTT := xw3 (i := 235) rfl rfl
theorem q716 : (Jvm.Cond.selects "WorkMeter$Calendar" ({ cls := "WorkMeter$Calendar", name := "hasSwitch", desc := "(II)Z" } : Jvm.MethodName) ({ cls := "WorkMeter$Calendar", name := "hasSwitch", desc := "(II)Z" } : Jvm.MethodName)) ∈ xTT := xw3 (i := 236) rfl rfl
theorem q717 : (Jvm.Cond.code ({ cls := "WorkMeter$Calendar", name := "hasSwitch", desc := "(II)Z" } : Jvm.MethodName) prog_2_method_4_code (5 : Nat) (Option.some Jvm.ClassFile.FieldType.boolean)) ∈ xTT := xw3 (i := 237) rfl rfl
theorem q718 : (Jvm.Cond.methodLink "WorkMeterLaw" (37 : Nat) ({ cls := "WorkMeter", name := "wipe", desc := "(I)I" } : Jvm.MethodName)) ∈ xTT := xw3 (i := 238) rfl rfl
theorem q719 : (Jvm.Cond.instanceMethod ({ cls := "WorkMeter", name := "wipe", desc := "(I)I" } : Jvm.MethodName)) ∈ xTT := xw3 (i := 239) rfl rfl
theorem q720 : (Jvm.Cond.selects "WorkMeter" ({ cls := "WorkMeter", name := "wipe", desc := "(I)I" } : Jvm.MethodName) ({ cls := "WorkMeter", name := "wipe", desc := "(I)I" } : Jvm.MethodName)) ∈ xTT := xw4 (i := 0) rfl rfl
theorem q721 : (Jvm.Cond.code ({ cls := "WorkMeter", name := "wipe", desc := "(I)I" } : Jvm.MethodName) prog_1_method_7_code (2 : Nat) (Option.some Jvm.ClassFile.FieldType.int)) ∈ xTT := xw4 (i := 1) rfl rfl
theorem q722 : (Jvm.Cond.methodLink "WorkMeter" (87 : Nat) ({ cls := "WorkMeter$Calendar", name := "dropSwitches", desc := "(I)I" } : Jvm.MethodName)) ∈ xTT := xw4 (i := 2) rfl rfl
theorem q723 : (Jvm.Cond.instanceMethod ({ cls := "WorkMeter$Calendar", name := "dropSwitches", desc := "(I)I" } : Jvm.MethodName)) ∈ xTT := xw4 (i := 3) rfl rfl
theorem q724 : (Jvm.Cond.selects "WorkMeter$Calendar" ({ cls := "WorkMeter$Calendar", name := "dropSwitches", desc := "(I)I" } : Jvm.MethodName) ({ cls := "WorkMeter$Calendar", name := "dropSwitches", desc := "(I)I" } : Jvm.MethodName)) ∈ xTT := xw4 (i := 4) rfl rfl
theorem q725 : (Jvm.Cond.code ({ cls := "WorkMeter$Calendar", name := "dropSwitches", desc := "(I)I" } : Jvm.MethodName) prog_2_method_6_code (3 : Nat) (Option.some Jvm.ClassFile.FieldType.int)) ∈ xTT := xw4 (i := 5) rfl rfl
theorem q726 : (Jvm.Cond.methodLink "WorkMeterLaw" (42 : Nat) ({ cls := "WorkMeter", name := "feed", desc := "(IIIII)I" } : Jvm.MethodName)) ∈ xTT := xw4 (i := 6) rfl rfl
theorem q727 : (Jvm.Cond.instanceMethod ({ cls := "WorkMeter", name := "feed", desc := "(IIIII)I" } : Jvm.MethodName)) ∈ xTT := xw4 (i := 7) rfl rfl
theorem q728 : (Jvm.Cond.selects "WorkMeter" ({ cls := "WorkMeter", name := "feed", desc := "(IIIII)I" } : Jvm.MethodName) ({ cls := "WorkMeter", name := "feed", desc := "(IIIII)I" } : Jvm.MethodName)) ∈ xTT := xw4 (i := 8) rfl rfl
theorem q729 : (Jvm.Cond.code ({ cls := "WorkMeter", name := "feed", desc := "(IIIII)I" } : Jvm.MethodName) prog_1_method_8_code (6 : Nat) (Option.some Jvm.ClassFile.FieldType.int)) ∈ xTT := xw4 (i := 9) rfl rfl
theorem q730 : (Jvm.Cond.methodLink "WorkMeter" (91 : Nat) ({ cls := "WorkMeter$CalendarText", name := "hasRoom", desc := "()Z" } : Jvm.MethodName)) ∈ xTT := xw4 (i := 10) rfl rfl
theorem q731 : (Jvm.Cond.instanceMethod ({ cls := "WorkMeter$CalendarText", name := "hasRoom", desc := "()Z" } : Jvm.MethodName)) ∈ xTT := xw4 (i := 11) rfl rfl
theorem q732 : (Jvm.Cond.selects "WorkMeter$CalendarText" ({ cls := "WorkMeter$CalendarText", name := "hasRoom", desc := "()Z" } : Jvm.MethodName) ({ cls := "WorkMeter$CalendarText", name := "hasRoom", desc := "()Z" } : Jvm.MethodName)) ∈ xTT := xw4 (i := 12) rfl rfl
theorem q733 : (Jvm.Cond.code ({ cls := "WorkMeter$CalendarText", name := "hasRoom", desc := "()Z" } : Jvm.MethodName) prog_3_method_2_code (1 : Nat) (Option.some Jvm.ClassFile.FieldType.boolean)) ∈ xTT := xw4 (i := 13) rfl rfl
theorem q734 : (Jvm.Cond.methodLink "WorkMeter" (94 : Nat) ({ cls := "WorkMeter$CalendarText", name := "putBytes", desc := "(I)V" } : Jvm.MethodName)) ∈ xTT := xw4 (i := 14) rfl rfl
theorem q735 : (Jvm.Cond.instanceMethod ({ cls := "WorkMeter$CalendarText", name := "putBytes", desc := "(I)V" } : Jvm.MethodName)) ∈ xTT := xw4 (i := 15) rfl rfl
theorem q736 : (Jvm.Cond.selects "WorkMeter$CalendarText" ({ cls := "WorkMeter$CalendarText", name := "putBytes", desc := "(I)V" } : Jvm.MethodName) ({ cls := "WorkMeter$CalendarText", name := "putBytes", desc := "(I)V" } : Jvm.MethodName)) ∈ xTT := xw4 (i := 16) rfl rfl
theorem q737 : (Jvm.Cond.code ({ cls := "WorkMeter$CalendarText", name := "putBytes", desc := "(I)V" } : Jvm.MethodName) prog_3_method_3_code (3 : Nat) (Option.none : Option Jvm.ClassFile.FieldType)) ∈ xTT := xw4 (i := 17) rfl rfl
theorem q738 : (Jvm.Cond.methodLink "WorkMeterLaw" (47 : Nat) ({ cls := "WorkMeter", name := "end", desc := "(I)Z" } : Jvm.MethodName)) ∈ xTT := xw4 (i := 18) rfl rfl
theorem q739 : (Jvm.Cond.instanceMethod ({ cls := "WorkMeter", name := "end", desc := "(I)Z" } : Jvm.MethodName)) ∈ xTT := xw4 (i := 19) rfl rfl
theorem q740 : (Jvm.Cond.selects "WorkMeter" ({ cls := "WorkMeter", name := "end", desc := "(I)Z" } : Jvm.MethodName) ({ cls := "WorkMeter", name := "end", desc := "(I)Z" } : Jvm.MethodName)) ∈ xTT := xw4 (i := 20) rfl rfl
theorem q741 : (Jvm.Cond.code ({ cls := "WorkMeter", name := "end", desc := "(I)Z" } : Jvm.MethodName) prog_1_method_9_code (2 : Nat) (Option.some Jvm.ClassFile.FieldType.boolean)) ∈ xTT := xw4 (i := 21) rfl rfl
theorem q742 : (Jvm.Cond.methodLink "WorkMeter" (100 : Nat) ({ cls := "WorkMeter$CalendarText", name := "cutTo", desc := "(I)Z" } : Jvm.MethodName)) ∈ xTT := xw4 (i := 22) rfl rfl
theorem q743 : (Jvm.Cond.instanceMethod ({ cls := "WorkMeter$CalendarText", name := "cutTo", desc := "(I)Z" } : Jvm.MethodName)) ∈ xTT := xw4 (i := 23) rfl rfl
theorem q744 : (Jvm.Cond.selects "WorkMeter$CalendarText" ({ cls := "WorkMeter$CalendarText", name := "cutTo", desc := "(I)Z" } : Jvm.MethodName) ({ cls := "WorkMeter$CalendarText", name := "cutTo", desc := "(I)Z" } : Jvm.MethodName)) ∈ xTT := xw4 (i := 24) rfl rfl
theorem q745 : (Jvm.Cond.code ({ cls := "WorkMeter$CalendarText", name := "cutTo", desc := "(I)Z" } : Jvm.MethodName) prog_3_method_4_code (2 : Nat) (Option.some Jvm.ClassFile.FieldType.boolean)) ∈ xTT := xw4 (i := 25) rfl rfl
theorem q746 : (Jvm.Cond.methodLink "WorkMeterLaw" (52 : Nat) ({ cls := "WorkMeter", name := "calendar", desc := "()I" } : Jvm.MethodName)) ∈ xTT := xw4 (i := 26) rfl rfl
theorem q747 : (Jvm.Cond.instanceMethod ({ cls := "WorkMeter", name := "calendar", desc := "()I" } : Jvm.MethodName)) ∈ xTT := xw4 (i := 27) rfl rfl
theorem q748 : (Jvm.Cond.selects "WorkMeter" ({ cls := "WorkMeter", name := "calendar", desc := "()I" } : Jvm.MethodName) ({ cls := "WorkMeter", name := "calendar", desc := "()I" } : Jvm.MethodName)) ∈ xTT := xw4 (i := 28) rfl rfl
theorem q749 : (Jvm.Cond.code ({ cls := "WorkMeter", name := "calendar", desc := "()I" } : Jvm.MethodName) prog_1_method_10_code (2 : Nat) (Option.some Jvm.ClassFile.FieldType.int)) ∈ xTT := xw4 (i := 29) rfl rfl
theorem q750 : (Jvm.Cond.methodLink "WorkMeter" (103 : Nat) ({ cls := "WorkMeter$CalendarText", name := "forget", desc := "()V" } : Jvm.MethodName)) ∈ xTT := xw4 (i := 30) rfl rfl
theorem q751 : (Jvm.Cond.instanceMethod ({ cls := "WorkMeter$CalendarText", name := "forget", desc := "()V" } : Jvm.MethodName)) ∈ xTT := xw4 (i := 31) rfl rfl
theorem q752 : (Jvm.Cond.selects "WorkMeter$CalendarText" ({ cls := "WorkMeter$CalendarText", name := "forget", desc := "()V" } : Jvm.MethodName) ({ cls := "WorkMeter$CalendarText", name := "forget", desc := "()V" } : Jvm.MethodName)) ∈ xTT := xw4 (i := 32) rfl rfl
theorem q753 : (Jvm.Cond.code ({ cls := "WorkMeter$CalendarText", name := "forget", desc := "()V" } : Jvm.MethodName) prog_3_method_5_code (1 : Nat) (Option.none : Option Jvm.ClassFile.FieldType)) ∈ xTT := xw4 (i := 33) rfl rfl
theorem q754 : (Jvm.Cond.methodLink "WorkMeter" (106 : Nat) ({ cls := "WorkMeter$CalendarText", name := "readAll", desc := "()I" } : Jvm.MethodName)) ∈ xTT := xw4 (i := 34) rfl rfl
theorem q755 : (Jvm.Cond.instanceMethod ({ cls := "WorkMeter$CalendarText", name := "readAll", desc := "()I" } : Jvm.MethodName)) ∈ xTT := xw4 (i := 35) rfl rfl
theorem q756 : (Jvm.Cond.selects "WorkMeter$CalendarText" ({ cls := "WorkMeter$CalendarText", name := "readAll", desc := "()I" } : Jvm.MethodName) ({ cls := "WorkMeter$CalendarText", name := "readAll", desc := "()I" } : Jvm.MethodName)) ∈ xTT := xw4 (i := 36) rfl rfl
theorem q757 : (Jvm.Cond.code ({ cls := "WorkMeter$CalendarText", name := "readAll", desc := "()I" } : Jvm.MethodName) prog_3_method_6_code (3 : Nat) (Option.some Jvm.ClassFile.FieldType.int)) ∈ xTT := xw4 (i := 37) rfl rfl
theorem q758 : (Jvm.Cond.methodLink "WorkMeter$CalendarText" (35 : Nat) ({ cls := "WorkMeter$Calendar", name := "clearAll", desc := "()V" } : Jvm.MethodName)) ∈ xTT := xw4 (i := 38) rfl rfl
theorem q759 : (Jvm.Cond.methodLink "WorkMeter$CalendarText" (51 : Nat) ({ cls := "WorkMeter$CalendarText", name := "skipBlanks", desc := "()V" } : Jvm.MethodName)) ∈ xTT := xw4 (i := 39) rfl rfl
theorem q761 : (Jvm.Cond.instanceMethod ({ cls := "WorkMeter$CalendarText", name := "skipBlanks", desc := "()V" } : Jvm.MethodName)) ∈ xTT := xw4 (i := 41) rfl rfl
theorem q762 : (Jvm.Cond.code ({ cls := "WorkMeter$CalendarText", name := "skipBlanks", desc := "()V" } : Jvm.MethodName) prog_3_method_14_code (1 : Nat) (Option.none : Option Jvm.ClassFile.FieldType)) ∈ xTT := xw4 (i := 42) rfl rfl
theorem q763 : (Jvm.Cond.methodLink "WorkMeter$CalendarText" (54 : Nat) ({ cls := "WorkMeter$CalendarText", name := "readLine", desc := "()Z" } : Jvm.MethodName)) ∈ xTT := xw4 (i := 43) rfl rfl
theorem q765 : (Jvm.Cond.instanceMethod ({ cls := "WorkMeter$CalendarText", name := "readLine", desc := "()Z" } : Jvm.MethodName)) ∈ xTT := xw4 (i := 45) rfl rfl
theorem q766 : (Jvm.Cond.code ({ cls := "WorkMeter$CalendarText", name := "readLine", desc := "()Z" } : Jvm.MethodName) prog_3_method_8_code (2 : Nat) (Option.some Jvm.ClassFile.FieldType.boolean)) ∈ xTT := xw4 (i := 46) rfl rfl
theorem q767 : (Jvm.Cond.methodLink "WorkMeter$CalendarText" (62 : Nat) ({ cls := "WorkMeter$CalendarText", name := "lettersHere", desc := "()I" } : Jvm.MethodName)) ∈ xTT := xw4 (i := 47) rfl rfl
theorem q769 : (Jvm.Cond.instanceMethod ({ cls := "WorkMeter$CalendarText", name := "lettersHere", desc := "()I" } : Jvm.MethodName)) ∈ xTT := xw4 (i := 49) rfl rfl
theorem q770 : (Jvm.Cond.code ({ cls := "WorkMeter$CalendarText", name := "lettersHere", desc := "()I" } : Jvm.MethodName) prog_3_method_15_code (2 : Nat) (Option.some Jvm.ClassFile.FieldType.int)) ∈ xTT := xw4 (i := 50) rfl rfl
theorem q772 : (Jvm.Cond.methodLink "WorkMeter$CalendarText" (68 : Nat) ({ cls := "WorkMeter$CalendarText", name := "spells", desc := "(Ljava/lang/String;I)Z" } : Jvm.MethodName)) ∈ xTT := xw4 (i := 52) rfl rfl
theorem q774 : (Jvm.Cond.instanceMethod ({ cls := "WorkMeter$CalendarText", name := "spells", desc := "(Ljava/lang/String;I)Z" } : Jvm.MethodName)) ∈ xTT := xw4 (i := 54) rfl rfl
theorem q775 : (Jvm.Cond.code ({ cls := "WorkMeter$CalendarText", name := "spells", desc := "(Ljava/lang/String;I)Z" } : Jvm.MethodName) prog_3_method_16_code (4 : Nat) (Option.some Jvm.ClassFile.FieldType.boolean)) ∈ xTT := xw4 (i := 55) rfl rfl
theorem q776 : (Jvm.Cond.methodLink "WorkMeter$CalendarText" (141 : Nat) ({ cls := "java/lang/String", name := "length", desc := "()I" } : Jvm.MethodName)) ∈ xTT := xw4 (i := 56) rfl rfl
theorem q777 : (Jvm.Cond.instanceMethod ({ cls := "java/lang/String", name := "length", desc := "()I" } : Jvm.MethodName)) ∈ xTT := xw4 (i := 57) rfl rfl
theorem q778 : (Jvm.Cond.selects "java/lang/String" ({ cls := "java/lang/String", name := "length", desc := "()I" } : Jvm.MethodName) ({ cls := "java/lang/String", name := "length", desc := "()I" } : Jvm.MethodName)) ∈ xTT := xw4 (i := 58) rfl rfl
theorem q779 : (Jvm.Cond.code ({ cls := "java/lang/String", name := "length", desc := "()I" } : Jvm.MethodName) prog_16_method_54_code (1 : Nat) (Option.some Jvm.ClassFile.FieldType.int)) ∈ xTT := xw4 (i := 59) rfl rfl
theorem q780 : (Jvm.Cond.methodLink "java/lang/String" (335 : Nat) ({ cls := "java/lang/String", name := "coder", desc := "()B" } : Jvm.MethodName)) ∈ xTT := xw4 (i := 60) rfl rfl
theorem q781 : (Jvm.Cond.instanceMethod ({ cls := "java/lang/String", name := "coder", desc := "()B" } : Jvm.MethodName)) ∈ xTT := xw4 (i := 61) rfl rfl
theorem q782 : (Jvm.Cond.selects "java/lang/String" ({ cls := "java/lang/String", name := "coder", desc := "()B" } : Jvm.MethodName) ({ cls := "java/lang/String", name := "coder", desc := "()B" } : Jvm.MethodName)) ∈ xTT := xw4 (i := 62) rfl rfl
theorem q783 : (Jvm.Cond.code ({ cls := "java/lang/String", name := "coder", desc := "()B" } : Jvm.MethodName) prog_16_method_152_code (1 : Nat) (Option.some Jvm.ClassFile.FieldType.byte)) ∈ xTT := xw4 (i := 63) rfl rfl
theorem q784 : (Jvm.Cond.fieldLink "java/lang/String" (38 : Nat) "java/lang/String" "COMPACT_STRINGS" "Z") ∈ xTT := xw4 (i := 64) rfl rfl
theorem q786 : (Jvm.Cond.methodLink "WorkMeter$CalendarText" (145 : Nat) ({ cls := "java/lang/String", name := "charAt", desc := "(I)C" } : Jvm.MethodName)) ∈ xTT := xw4 (i := 66) rfl rfl
theorem q787 : (Jvm.Cond.instanceMethod ({ cls := "java/lang/String", name := "charAt", desc := "(I)C" } : Jvm.MethodName)) ∈ xTT := xw4 (i := 67) rfl rfl
theorem q788 : (Jvm.Cond.selects "java/lang/String" ({ cls := "java/lang/String", name := "charAt", desc := "(I)C" } : Jvm.MethodName) ({ cls := "java/lang/String", name := "charAt", desc := "(I)C" } : Jvm.MethodName)) ∈ xTT := xw4 (i := 68) rfl rfl
theorem q789 : (Jvm.Cond.code ({ cls := "java/lang/String", name := "charAt", desc := "(I)C" } : Jvm.MethodName) prog_16_method_56_code (2 : Nat) (Option.some Jvm.ClassFile.FieldType.char)) ∈ xTT := xw4 (i := 69) rfl rfl
theorem q790 : (Jvm.Cond.methodLink "java/lang/String" (492 : Nat) ({ cls := "java/lang/String", name := "isLatin1", desc := "()Z" } : Jvm.MethodName)) ∈ xTT := xw4 (i := 70) rfl rfl
theorem q791 : (Jvm.Cond.instanceMethod ({ cls := "java/lang/String", name := "isLatin1", desc := "()Z" } : Jvm.MethodName)) ∈ xTT := xw4 (i := 71) rfl rfl
theorem q792 : (Jvm.Cond.selects "java/lang/String" ({ cls := "java/lang/String", name := "isLatin1", desc := "()Z" } : Jvm.MethodName) ({ cls := "java/lang/String", name := "isLatin1", desc := "()Z" } : Jvm.MethodName)) ∈ xTT := xw4 (i := 72) rfl rfl
theorem q793 : (Jvm.Cond.code ({ cls := "java/lang/String", name := "isLatin1", desc := "()Z" } : Jvm.MethodName) prog_16_method_154_code (1 : Nat) (Option.some Jvm.ClassFile.FieldType.boolean)) ∈ xTT := xw4 (i := 73) rfl rfl
theorem q794 : (Jvm.Cond.methodLink "java/lang/String" (495 : Nat) ({ cls := "java/lang/StringLatin1", name := "charAt", desc := "([BI)C" } : Jvm.MethodName)) ∈ xTT := xw4 (i := 74) rfl rfl
theorem q795 : (Jvm.Cond.static ({ cls := "java/lang/StringLatin1", name := "charAt", desc := "([BI)C" } : Jvm.MethodName)) ∈ xTT := xw4 (i := 75) rfl rfl
theorem q796 : (Jvm.Cond.code ({ cls := "java/lang/StringLatin1", name := "charAt", desc := "([BI)C" } : Jvm.MethodName) prog_17_method_2_code (2 : Nat) (Option.some Jvm.ClassFile.FieldType.char)) ∈ xTT := xw4 (i := 76) rfl rfl
theorem q797 : (Jvm.Cond.methodLink "java/lang/StringLatin1" (9 : Nat) ({ cls := "java/lang/String", name := "checkIndex", desc := "(II)V" } : Jvm.MethodName)) ∈ xTT := xw4 (i := 77) rfl rfl
theorem q798 : (Jvm.Cond.static ({ cls := "java/lang/String", name := "checkIndex", desc := "(II)V" } : Jvm.MethodName)) ∈ xTT := xw4 (i := 78) rfl rfl
theorem q799 : (Jvm.Cond.code ({ cls := "java/lang/String", name := "checkIndex", desc := "(II)V" } : Jvm.MethodName) prog_16_method_155_code (2 : Nat) (Option.none : Option Jvm.ClassFile.FieldType)) ∈ xTT := xw4 (i := 79) rfl rfl
theorem q800 : (Jvm.Cond.fieldLink "java/lang/String" (1053 : Nat) "jdk/internal/util/Preconditions" "SIOOBE_FORMATTER" "Ljava/util/function/BiFunction;") ∈ xTT := xw4 (i := 80) rfl rfl
theorem q802 : (Jvm.Cond.methodLink "java/lang/String" (1059 : Nat) ({ cls := "jdk/internal/util/Preconditions", name := "checkIndex", desc := "(IILjava/util/function/BiFunction;)I" } : Jvm.MethodName)) ∈ xTT := xw4 (i := 82) rfl rfl
theorem q803 : (Jvm.Cond.static ({ cls := "jdk/internal/util/Preconditions", name := "checkIndex", desc := "(IILjava/util/function/BiFunction;)I" } : Jvm.MethodName)) ∈ xTT := xw4 (i := 83) rfl rfl
theorem q804 : (Jvm.Cond.code ({ cls := "jdk/internal/util/Preconditions", name := "checkIndex", desc := "(IILjava/util/function/BiFunction;)I" } : Jvm.MethodName) prog_21_method_11_code (3 : Nat) (Option.some Jvm.ClassFile.FieldType.int)) ∈ xTT := xw4 (i := 84) rfl rfl
theorem q824 : (Jvm.Cond.methodLink "WorkMeter$CalendarText" (72 : Nat) ({ cls := "WorkMeter$CalendarText", name := "readTable", desc := "()Z" } : Jvm.MethodName)) ∈ xTT := xw4 (i := 104) rfl rfl
theorem q826 : (Jvm.Cond.instanceMethod ({ cls := "WorkMeter$CalendarText", name := "readTable", desc := "()Z" } : Jvm.MethodName)) ∈ xTT := xw4 (i := 106) rfl rfl
theorem q827 : (Jvm.Cond.code ({ cls := "WorkMeter$CalendarText", name := "readTable", desc := "()Z" } : Jvm.MethodName) prog_3_method_9_code (3 : Nat) (Option.some Jvm.ClassFile.FieldType.boolean)) ∈ xTT := xw4 (i := 107) rfl rfl
theorem q828 : (Jvm.Cond.methodLink "WorkMeter$CalendarText" (94 : Nat) ({ cls := "WorkMeter$CalendarText", name := "passWord", desc := "(Ljava/lang/String;)V" } : Jvm.MethodName)) ∈ xTT := xw4 (i := 108) rfl rfl
theorem q830 : (Jvm.Cond.instanceMethod ({ cls := "WorkMeter$CalendarText", name := "passWord", desc := "(Ljava/lang/String;)V" } : Jvm.MethodName)) ∈ xTT := xw4 (i := 110) rfl rfl
theorem q831 : (Jvm.Cond.code ({ cls := "WorkMeter$CalendarText", name := "passWord", desc := "(Ljava/lang/String;)V" } : Jvm.MethodName) prog_3_method_17_code (2 : Nat) (Option.none : Option Jvm.ClassFile.FieldType)) ∈ xTT := xw4 (i := 111) rfl rfl
theorem q832 : (Jvm.Cond.methodLink "WorkMeter$CalendarText" (98 : Nat) ({ cls := "WorkMeter$CalendarText", name := "readNewNumber", desc := "(II)I" } : Jvm.MethodName)) ∈ xTT := xw4 (i := 112) rfl rfl
theorem q834 : (Jvm.Cond.instanceMethod ({ cls := "WorkMeter$CalendarText", name := "readNewNumber", desc := "(II)I" } : Jvm.MethodName)) ∈ xTT := xw4 (i := 114) rfl rfl
theorem q835 : (Jvm.Cond.code ({ cls := "WorkMeter$CalendarText", name := "readNewNumber", desc := "(II)I" } : Jvm.MethodName) prog_3_method_21_code (4 : Nat) (Option.some Jvm.ClassFile.FieldType.int)) ∈ xTT := xw4 (i := 115) rfl rfl
theorem q836 : (Jvm.Cond.methodLink "WorkMeter$CalendarText" (109 : Nat) ({ cls := "WorkMeter$CalendarText", name := "readNumber", desc := "(I)I" } : Jvm.MethodName)) ∈ xTT := xw4 (i := 116) rfl rfl
theorem q838 : (Jvm.Cond.instanceMethod ({ cls := "WorkMeter$CalendarText", name := "readNumber", desc := "(I)I" } : Jvm.MethodName)) ∈ xTT := xw4 (i := 118) rfl rfl
theorem q839 : (Jvm.Cond.code ({ cls := "WorkMeter$CalendarText", name := "readNumber", desc := "(I)I" } : Jvm.MethodName) prog_3_method_20_code (3 : Nat) (Option.some Jvm.ClassFile.FieldType.int)) ∈ xTT := xw4 (i := 119) rfl rfl
theorem q840 : (Jvm.Cond.methodLink "WorkMeter$CalendarText" (149 : Nat) ({ cls := "WorkMeter$CalendarText", name := "isDigit", desc := "(I)Z" } : Jvm.MethodName)) ∈ xTT := xw4 (i := 120) rfl rfl
theorem q841 : (Jvm.Cond.static ({ cls := "WorkMeter$CalendarText", name := "isDigit", desc := "(I)Z" } : Jvm.MethodName)) ∈ xTT := xw4 (i := 121) rfl rfl
theorem q842 : (Jvm.Cond.code ({ cls := "WorkMeter$CalendarText", name := "isDigit", desc := "(I)Z" } : Jvm.MethodName) prog_3_method_18_code (1 : Nat) (Option.some Jvm.ClassFile.FieldType.boolean)) ∈ xTT := xw4 (i := 122) rfl rfl
theorem q843 : (Jvm.Cond.constant "WorkMeter$CalendarText" (152 : Nat) (1000000 : Int32)) ∈ xTT := xw4 (i := 123) rfl rfl
theorem q844 : (Jvm.Cond.methodLink "WorkMeter$CalendarText" (153 : Nat) ({ cls := "java/lang/Math", name := "min", desc := "(II)I" } : Jvm.MethodName)) ∈ xTT := xw4 (i := 124) rfl rfl
theorem q845 : (Jvm.Cond.methodLink "WorkMeter$CalendarText" (90 : Nat) ({ cls := "WorkMeter$CalendarText", name := "fail", desc := "(II)Z" } : Jvm.MethodName)) ∈ xTT := xw4 (i := 125) rfl rfl
theorem q847 : (Jvm.Cond.instanceMethod ({ cls := "WorkMeter$CalendarText", name := "fail", desc := "(II)Z" } : Jvm.MethodName)) ∈ xTT := xw4 (i := 127) rfl rfl
theorem q848 : (Jvm.Cond.code ({ cls := "WorkMeter$CalendarText", name := "fail", desc := "(II)Z" } : Jvm.MethodName) prog_3_method_7_code (3 : Nat) (Option.some Jvm.ClassFile.FieldType.boolean)) ∈ xTT := xw4 (i := 128) rfl rfl
theorem q849 : (Jvm.Cond.methodLink "WorkMeter$CalendarText" (102 : Nat) ({ cls := "WorkMeter$CalendarText", name := "digitHere", desc := "()Z" } : Jvm.MethodName)) ∈ xTT := xw4 (i := 129) rfl rfl
theorem q851 : (Jvm.Cond.instanceMethod ({ cls := "WorkMeter$CalendarText", name := "digitHere", desc := "()Z" } : Jvm.MethodName)) ∈ xTT := xw4 (i := 131) rfl rfl
theorem q852 : (Jvm.Cond.code ({ cls := "WorkMeter$CalendarText", name := "digitHere", desc := "()Z" } : Jvm.MethodName) prog_3_method_19_code (1 : Nat) (Option.some Jvm.ClassFile.FieldType.boolean)) ∈ xTT := xw4 (i := 132) rfl rfl
theorem q853 : (Jvm.Cond.methodLink "WorkMeter$CalendarText" (105 : Nat) ({ cls := "WorkMeter$CalendarText", name := "readSwitch", desc := "(I)Z" } : Jvm.MethodName)) ∈ xTT := xw4 (i := 133) rfl rfl
theorem q855 : (Jvm.Cond.instanceMethod ({ cls := "WorkMeter$CalendarText", name := "readSwitch", desc := "(I)Z" } : Jvm.MethodName)) ∈ xTT := xw4 (i := 135) rfl rfl
theorem q856 : (Jvm.Cond.code ({ cls := "WorkMeter$CalendarText", name := "readSwitch", desc := "(I)Z" } : Jvm.MethodName) prog_3_method_10_code (6 : Nat) (Option.some Jvm.ClassFile.FieldType.boolean)) ∈ xTT := xw4 (i := 136) rfl rfl
theorem q857 : (Jvm.Cond.methodLink "WorkMeter$CalendarText" (58 : Nat) ({ cls := "WorkMeter$CalendarText", name := "readSign", desc := "(C)Z" } : Jvm.MethodName)) ∈ xTT := xw4 (i := 137) rfl rfl
theorem q859 : (Jvm.Cond.instanceMethod ({ cls := "WorkMeter$CalendarText", name := "readSign", desc := "(C)Z" } : Jvm.MethodName)) ∈ xTT := xw4 (i := 139) rfl rfl
theorem q860 : (Jvm.Cond.code ({ cls := "WorkMeter$CalendarText", name := "readSign", desc := "(C)Z" } : Jvm.MethodName) prog_3_method_22_code (2 : Nat) (Option.some Jvm.ClassFile.FieldType.boolean)) ∈ xTT := xw4 (i := 140) rfl rfl
theorem q861 : (Jvm.Cond.methodLink "WorkMeter$CalendarText" (119 : Nat) ({ cls := "WorkMeter$Calendar", name := "hasSwitch", desc := "(II)Z" } : Jvm.MethodName)) ∈ xTT := xw4 (i := 141) rfl rfl
theorem q862 : (Jvm.Cond.methodLink "WorkMeter$CalendarText" (122 : Nat) ({ cls := "WorkMeter$Calendar", name := "putSwitch", desc := "(III)I" } : Jvm.MethodName)) ∈ xTT := xw4 (i := 142) rfl rfl
theorem q864 : (Jvm.Cond.methodLink "WorkMeter$CalendarText" (77 : Nat) ({ cls := "WorkMeter$CalendarText", name := "readSeason", desc := "()Z" } : Jvm.MethodName)) ∈ xTT := xw4 (i := 144) rfl rfl
theorem q866 : (Jvm.Cond.instanceMethod ({ cls := "WorkMeter$CalendarText", name := "readSeason", desc := "()Z" } : Jvm.MethodName)) ∈ xTT := xw4 (i := 146) rfl rfl
theorem q867 : (Jvm.Cond.code ({ cls := "WorkMeter$CalendarText", name := "readSeason", desc := "()Z" } : Jvm.MethodName) prog_3_method_11_code (5 : Nat) (Option.some Jvm.ClassFile.FieldType.boolean)) ∈ xTT := xw4 (i := 147) rfl rfl
theorem q869 : (Jvm.Cond.methodLink "WorkMeter$CalendarText" (82 : Nat) ({ cls := "WorkMeter$CalendarText", name := "readSpecial", desc := "()Z" } : Jvm.MethodName)) ∈ xTT := xw4 (i := 149) rfl rfl
theorem q871 : (Jvm.Cond.instanceMethod ({ cls := "WorkMeter$CalendarText", name := "readSpecial", desc := "()Z" } : Jvm.MethodName)) ∈ xTT := xw4 (i := 151) rfl rfl
theorem q872 : (Jvm.Cond.code ({ cls := "WorkMeter$CalendarText", name := "readSpecial", desc := "()Z" } : Jvm.MethodName) prog_3_method_12_code (3 : Nat) (Option.some Jvm.ClassFile.FieldType.boolean)) ∈ xTT := xw4 (i := 152) rfl rfl
theorem q873 : (Jvm.Cond.methodLink "WorkMeter$CalendarText" (135 : Nat) ({ cls := "WorkMeter$Calendar", name := "isSpecial", desc := "(I)Z" } : Jvm.MethodName)) ∈ xTT := xw4 (i := 153) rfl rfl
theorem q874 : (Jvm.Cond.instanceMethod ({ cls := "WorkMeter$Calendar", name := "isSpecial", desc := "(I)Z" } : Jvm.MethodName)) ∈ xTT := xw4 (i := 154) rfl rfl
theorem q875 : (Jvm.Cond.selects "WorkMeter$Calendar" ({ cls := "WorkMeter$Calendar", name := "isSpecial", desc := "(I)Z" } : Jvm.MethodName) ({ cls := "WorkMeter$Calendar", name := "isSpecial", desc := "(I)Z" } : Jvm.MethodName)) ∈ xTT := xw4 (i := 155) rfl rfl
theorem q876 : (Jvm.Cond.code ({ cls := "WorkMeter$Calendar", name := "isSpecial", desc := "(I)Z" } : Jvm.MethodName) prog_2_method_9_code (2 : Nat) (Option.some Jvm.ClassFile.FieldType.boolean)) ∈ xTT := xw4 (i := 156) rfl rfl
theorem q877 : (Jvm.Cond.methodLink "WorkMeter$CalendarText" (138 : Nat) ({ cls := "WorkMeter$Calendar", name := "putSpecial", desc := "(II)Z" } : Jvm.MethodName)) ∈ xTT := xw4 (i := 157) rfl rfl
theorem q878 : (Jvm.Cond.instanceMethod ({ cls := "WorkMeter$Calendar", name := "putSpecial", desc := "(II)Z" } : Jvm.MethodName)) ∈ xTT := xw4 (i := 158) rfl rfl
theorem q879 : (Jvm.Cond.selects "WorkMeter$Calendar" ({ cls := "WorkMeter$Calendar", name := "putSpecial", desc := "(II)Z" } : Jvm.MethodName) ({ cls := "WorkMeter$Calendar", name := "putSpecial", desc := "(II)Z" } : Jvm.MethodName)) ∈ xTT := xw4 (i := 159) rfl rfl
theorem q880 : (Jvm.Cond.code ({ cls := "WorkMeter$Calendar", name := "putSpecial", desc := "(II)Z" } : Jvm.MethodName) prog_2_method_10_code (4 : Nat) (Option.some Jvm.ClassFile.FieldType.boolean)) ∈ xTT := xw4 (i := 160) rfl rfl
theorem q882 : (Jvm.Cond.methodLink "WorkMeter$CalendarText" (87 : Nat) ({ cls := "WorkMeter$CalendarText", name := "readPrices", desc := "()Z" } : Jvm.MethodName)) ∈ xTT := xw4 (i := 162) rfl rfl
theorem q884 : (Jvm.Cond.instanceMethod ({ cls := "WorkMeter$CalendarText", name := "readPrices", desc := "()Z" } : Jvm.MethodName)) ∈ xTT := xw4 (i := 164) rfl rfl
theorem q885 : (Jvm.Cond.code ({ cls := "WorkMeter$CalendarText", name := "readPrices", desc := "()Z" } : Jvm.MethodName) prog_3_method_13_code (3 : Nat) (Option.some Jvm.ClassFile.FieldType.boolean)) ∈ xTT := xw4 (i := 165) rfl rfl
theorem q886 : (Jvm.Cond.methodLink "WorkMeter" (113 : Nat) ({ cls := "WorkMeter$Calendar", name := "copyFrom", desc := "(LWorkMeter$Calendar;)V" } : Jvm.MethodName)) ∈ xTT := xw4 (i := 166) rfl rfl
theorem q887 : (Jvm.Cond.instanceMethod ({ cls := "WorkMeter$Calendar", name := "copyFrom", desc := "(LWorkMeter$Calendar;)V" } : Jvm.MethodName)) ∈ xTT := xw4 (i := 167) rfl rfl
theorem q888 : (Jvm.Cond.selects "WorkMeter$Calendar" ({ cls := "WorkMeter$Calendar", name := "copyFrom", desc := "(LWorkMeter$Calendar;)V" } : Jvm.MethodName) ({ cls := "WorkMeter$Calendar", name := "copyFrom", desc := "(LWorkMeter$Calendar;)V" } : Jvm.MethodName)) ∈ xTT := xw4 (i := 168) rfl rfl
theorem q889 : (Jvm.Cond.code ({ cls := "WorkMeter$Calendar", name := "copyFrom", desc := "(LWorkMeter$Calendar;)V" } : Jvm.MethodName) prog_2_method_3_code (2 : Nat) (Option.none : Option Jvm.ClassFile.FieldType)) ∈ xTT := xw4 (i := 169) rfl rfl
theorem q890 : (Jvm.Cond.methodLink "WorkMeter$Calendar" (46 : Nat) ({ cls := "java/lang/System", name := "arraycopy", desc := "(Ljava/lang/Object;ILjava/lang/Object;II)V" } : Jvm.MethodName)) ∈ xTT := xw4 (i := 170) rfl rfl
theorem q891 : (Jvm.Cond.methodLink "WorkMeter" (129 : Nat) ({ cls := "WorkMeter$Settings", name := "tellPrices", desc := "([I)V" } : Jvm.MethodName)) ∈ xTT := xw4 (i := 171) rfl rfl
theorem q892 : (Jvm.Cond.instanceMethod ({ cls := "WorkMeter$Settings", name := "tellPrices", desc := "([I)V" } : Jvm.MethodName)) ∈ xTT := xw4 (i := 172) rfl rfl
theorem q893 : (Jvm.Cond.selects "WorkMeter$Settings" ({ cls := "WorkMeter$Settings", name := "tellPrices", desc := "([I)V" } : Jvm.MethodName) ({ cls := "WorkMeter$Settings", name := "tellPrices", desc := "([I)V" } : Jvm.MethodName)) ∈ xTT := xw4 (i := 173) rfl rfl
theorem q894 : (Jvm.Cond.code ({ cls := "WorkMeter$Settings", name := "tellPrices", desc := "([I)V" } : Jvm.MethodName) prog_11_method_5_code (2 : Nat) (Option.none : Option Jvm.ClassFile.FieldType)) ∈ xTT := xw4 (i := 174) rfl rfl
theorem q895 : (Jvm.Cond.arrayClass Jvm.ClassFile.FieldType.byte) ∈ xTT := xw4 (i := 175) rfl rfl
theorem q896 : (Jvm.Cond.methodLink "WorkMeterLaw" (57 : Nat) ({ cls := "WorkMeter", name := "fault", desc := "(I)I" } : Jvm.MethodName)) ∈ xTT := xw4 (i := 176) rfl rfl
theorem q897 : (Jvm.Cond.instanceMethod ({ cls := "WorkMeter", name := "fault", desc := "(I)I" } : Jvm.MethodName)) ∈ xTT := xw4 (i := 177) rfl rfl
theorem q898 : (Jvm.Cond.selects "WorkMeter" ({ cls := "WorkMeter", name := "fault", desc := "(I)I" } : Jvm.MethodName) ({ cls := "WorkMeter", name := "fault", desc := "(I)I" } : Jvm.MethodName)) ∈ xTT := xw4 (i := 178) rfl rfl
theorem q899 : (Jvm.Cond.code ({ cls := "WorkMeter", name := "fault", desc := "(I)I" } : Jvm.MethodName) prog_1_method_11_code (2 : Nat) (Option.some Jvm.ClassFile.FieldType.int)) ∈ xTT := xw4 (i := 179) rfl rfl
theorem q900 : (Jvm.Cond.methodLink "WorkMeterLaw" (61 : Nat) ({ cls := "WorkMeter", name := "seal", desc := "(I)Z" } : Jvm.MethodName)) ∈ xTT := xw4 (i := 180) rfl rfl
theorem q901 : (Jvm.Cond.instanceMethod ({ cls := "WorkMeter", name := "seal", desc := "(I)Z" } : Jvm.MethodName)) ∈ xTT := xw4 (i := 181) rfl rfl
theorem q902 : (Jvm.Cond.selects "WorkMeter" ({ cls := "WorkMeter", name := "seal", desc := "(I)Z" } : Jvm.MethodName) ({ cls := "WorkMeter", name := "seal", desc := "(I)Z" } : Jvm.MethodName)) ∈ xTT := xw4 (i := 182) rfl rfl
theorem q903 : (Jvm.Cond.code ({ cls := "WorkMeter", name := "seal", desc := "(I)Z" } : Jvm.MethodName) prog_1_method_12_code (2 : Nat) (Option.some Jvm.ClassFile.FieldType.boolean)) ∈ xTT := xw4 (i := 183) rfl rfl
theorem q904 : (Jvm.Cond.methodLink "WorkMeter" (141 : Nat) ({ cls := "WorkMeter$Seal", name := "close", desc := "(I)Z" } : Jvm.MethodName)) ∈ xTT := xw4 (i := 184) rfl rfl
theorem q905 : (Jvm.Cond.instanceMethod ({ cls := "WorkMeter$Seal", name := "close", desc := "(I)Z" } : Jvm.MethodName)) ∈ xTT := xw4 (i := 185) rfl rfl
theorem q906 : (Jvm.Cond.selects "WorkMeter$Seal" ({ cls := "WorkMeter$Seal", name := "close", desc := "(I)Z" } : Jvm.MethodName) ({ cls := "WorkMeter$Seal", name := "close", desc := "(I)Z" } : Jvm.MethodName)) ∈ xTT := xw4 (i := 186) rfl rfl
theorem q907 : (Jvm.Cond.code ({ cls := "WorkMeter$Seal", name := "close", desc := "(I)Z" } : Jvm.MethodName) prog_10_method_4_code (2 : Nat) (Option.some Jvm.ClassFile.FieldType.boolean)) ∈ xTT := xw4 (i := 187) rfl rfl
theorem q908 : (Jvm.Cond.methodLink "WorkMeter" (144 : Nat) ({ cls := "WorkMeter$Meter", name := "note", desc := "(II)V" } : Jvm.MethodName)) ∈ xTT := xw4 (i := 188) rfl rfl
theorem q909 : (Jvm.Cond.methodLink "WorkMeterLaw" (65 : Nat) ({ cls := "WorkMeter", name := "open", desc := "(I)Z" } : Jvm.MethodName)) ∈ xTT := xw4 (i := 189) rfl rfl
theorem q910 : (Jvm.Cond.instanceMethod ({ cls := "WorkMeter", name := "open", desc := "(I)Z" } : Jvm.MethodName)) ∈ xTT := xw4 (i := 190) rfl rfl
theorem q911 : (Jvm.Cond.selects "WorkMeter" ({ cls := "WorkMeter", name := "open", desc := "(I)Z" } : Jvm.MethodName) ({ cls := "WorkMeter", name := "open", desc := "(I)Z" } : Jvm.MethodName)) ∈ xTT := xw4 (i := 191) rfl rfl
theorem q912 : (Jvm.Cond.code ({ cls := "WorkMeter", name := "open", desc := "(I)Z" } : Jvm.MethodName) prog_1_method_13_code (2 : Nat) (Option.some Jvm.ClassFile.FieldType.boolean)) ∈ xTT := xw4 (i := 192) rfl rfl
theorem q913 : (Jvm.Cond.methodLink "WorkMeter" (148 : Nat) ({ cls := "WorkMeter$Meter", name := "tryCode", desc := "(I)Z" } : Jvm.MethodName)) ∈ xTT := xw4 (i := 193) rfl rfl
theorem q914 : (Jvm.Cond.instanceMethod ({ cls := "WorkMeter$Meter", name := "tryCode", desc := "(I)Z" } : Jvm.MethodName)) ∈ xTT := xw4 (i := 194) rfl rfl
theorem q915 : (Jvm.Cond.selects "WorkMeter$Meter" ({ cls := "WorkMeter$Meter", name := "tryCode", desc := "(I)Z" } : Jvm.MethodName) ({ cls := "WorkMeter$Meter", name := "tryCode", desc := "(I)Z" } : Jvm.MethodName)) ∈ xTT := xw4 (i := 195) rfl rfl
theorem q916 : (Jvm.Cond.code ({ cls := "WorkMeter$Meter", name := "tryCode", desc := "(I)Z" } : Jvm.MethodName) prog_8_method_6_code (2 : Nat) (Option.some Jvm.ClassFile.FieldType.boolean)) ∈ xTT := xw4 (i := 196) rfl rfl
theorem q917 : (Jvm.Cond.methodLink "WorkMeter$Meter" (155 : Nat) ({ cls := "WorkMeter$Seal", name := "lockedFor", desc := "(I)I" } : Jvm.MethodName)) ∈ xTT := xw4 (i := 197) rfl rfl
theorem q918 : (Jvm.Cond.instanceMethod ({ cls := "WorkMeter$Seal", name := "lockedFor", desc := "(I)I" } : Jvm.MethodName)) ∈ xTT := xw4 (i := 198) rfl rfl
theorem q919 : (Jvm.Cond.selects "WorkMeter$Seal" ({ cls := "WorkMeter$Seal", name := "lockedFor", desc := "(I)I" } : Jvm.MethodName) ({ cls := "WorkMeter$Seal", name := "lockedFor", desc := "(I)I" } : Jvm.MethodName)) ∈ xTT := xw4 (i := 199) rfl rfl
theorem q920 : (Jvm.Cond.code ({ cls := "WorkMeter$Seal", name := "lockedFor", desc := "(I)I" } : Jvm.MethodName) prog_10_method_5_code (2 : Nat) (Option.some Jvm.ClassFile.FieldType.int)) ∈ xTT := xw4 (i := 200) rfl rfl
theorem q921 : (Jvm.Cond.methodLink "WorkMeter$Seal" (26 : Nat) ({ cls := "java/lang/Math", name := "max", desc := "(II)I" } : Jvm.MethodName)) ∈ xTT := xw4 (i := 201) rfl rfl
theorem q922 : (Jvm.Cond.methodLink "WorkMeter$Meter" (162 : Nat) ({ cls := "WorkMeter$Seal", name := "breakOpen", desc := "()V" } : Jvm.MethodName)) ∈ xTT := xw4 (i := 202) rfl rfl
theorem q923 : (Jvm.Cond.instanceMethod ({ cls := "WorkMeter$Seal", name := "breakOpen", desc := "()V" } : Jvm.MethodName)) ∈ xTT := xw4 (i := 203) rfl rfl
theorem q924 : (Jvm.Cond.selects "WorkMeter$Seal" ({ cls := "WorkMeter$Seal", name := "breakOpen", desc := "()V" } : Jvm.MethodName) ({ cls := "WorkMeter$Seal", name := "breakOpen", desc := "()V" } : Jvm.MethodName)) ∈ xTT := xw4 (i := 204) rfl rfl
theorem q925 : (Jvm.Cond.code ({ cls := "WorkMeter$Seal", name := "breakOpen", desc := "()V" } : Jvm.MethodName) prog_10_method_6_code (1 : Nat) (Option.none : Option Jvm.ClassFile.FieldType)) ∈ xTT := xw4 (i := 205) rfl rfl
theorem q926 : (Jvm.Cond.methodLink "WorkMeter$Meter" (171 : Nat) ({ cls := "WorkMeter$Seal", name := "isLockDue", desc := "()Z" } : Jvm.MethodName)) ∈ xTT := xw4 (i := 206) rfl rfl
theorem q927 : (Jvm.Cond.instanceMethod ({ cls := "WorkMeter$Seal", name := "isLockDue", desc := "()Z" } : Jvm.MethodName)) ∈ xTT := xw4 (i := 207) rfl rfl
theorem q928 : (Jvm.Cond.selects "WorkMeter$Seal" ({ cls := "WorkMeter$Seal", name := "isLockDue", desc := "()Z" } : Jvm.MethodName) ({ cls := "WorkMeter$Seal", name := "isLockDue", desc := "()Z" } : Jvm.MethodName)) ∈ xTT := xw4 (i := 208) rfl rfl
theorem q929 : (Jvm.Cond.code ({ cls := "WorkMeter$Seal", name := "isLockDue", desc := "()Z" } : Jvm.MethodName) prog_10_method_7_code (1 : Nat) (Option.some Jvm.ClassFile.FieldType.boolean)) ∈ xTT := xw4 (i := 209) rfl rfl
theorem q930 : (Jvm.Cond.methodLink "WorkMeter$Meter" (175 : Nat) ({ cls := "WorkMeter$Seal", name := "lock", desc := "(I)V" } : Jvm.MethodName)) ∈ xTT := xw4 (i := 210) rfl rfl
theorem q931 : (Jvm.Cond.instanceMethod ({ cls := "WorkMeter$Seal", name := "lock", desc := "(I)V" } : Jvm.MethodName)) ∈ xTT := xw4 (i := 211) rfl rfl
theorem q932 : (Jvm.Cond.selects "WorkMeter$Seal" ({ cls := "WorkMeter$Seal", name := "lock", desc := "(I)V" } : Jvm.MethodName) ({ cls := "WorkMeter$Seal", name := "lock", desc := "(I)V" } : Jvm.MethodName)) ∈ xTT := xw4 (i := 212) rfl rfl
theorem q933 : (Jvm.Cond.code ({ cls := "WorkMeter$Seal", name := "lock", desc := "(I)V" } : Jvm.MethodName) prog_10_method_8_code (2 : Nat) (Option.none : Option Jvm.ClassFile.FieldType)) ∈ xTT := xw4 (i := 213) rfl rfl
theorem q934 : (Jvm.Cond.methodLink "WorkMeterLaw" (69 : Nat) ({ cls := "WorkMeter", name := "season", desc := "(II)Z" } : Jvm.MethodName)) ∈ xTT := xw4 (i := 214) rfl rfl
theorem q935 : (Jvm.Cond.instanceMethod ({ cls := "WorkMeter", name := "season", desc := "(II)Z" } : Jvm.MethodName)) ∈ xTT := xw4 (i := 215) rfl rfl
theorem q936 : (Jvm.Cond.selects "WorkMeter" ({ cls := "WorkMeter", name := "season", desc := "(II)Z" } : Jvm.MethodName) ({ cls := "WorkMeter", name := "season", desc := "(II)Z" } : Jvm.MethodName)) ∈ xTT := xw4 (i := 216) rfl rfl
theorem q937 : (Jvm.Cond.code ({ cls := "WorkMeter", name := "season", desc := "(II)Z" } : Jvm.MethodName) prog_1_method_14_code (3 : Nat) (Option.some Jvm.ClassFile.FieldType.boolean)) ∈ xTT := xw4 (i := 217) rfl rfl
theorem q938 : (Jvm.Cond.methodLink "WorkMeter" (151 : Nat) ({ cls := "WorkMeter", name := "isSeason", desc := "(I)Z" } : Jvm.MethodName)) ∈ xTT := xw4 (i := 218) rfl rfl
theorem q939 : (Jvm.Cond.static ({ cls := "WorkMeter", name := "isSeason", desc := "(I)Z" } : Jvm.MethodName)) ∈ xTT := xw4 (i := 219) rfl rfl
theorem q940 : (Jvm.Cond.code ({ cls := "WorkMeter", name := "isSeason", desc := "(I)Z" } : Jvm.MethodName) prog_1_method_57_code (1 : Nat) (Option.some Jvm.ClassFile.FieldType.boolean)) ∈ xTT := xw4 (i := 220) rfl rfl
theorem q941 : (Jvm.Cond.methodLink "WorkMeterLaw" (73 : Nat) ({ cls := "WorkMeter", name := "week", desc := "(III)Z" } : Jvm.MethodName)) ∈ xTT := xw4 (i := 221) rfl rfl
theorem q942 : (Jvm.Cond.instanceMethod ({ cls := "WorkMeter", name := "week", desc := "(III)Z" } : Jvm.MethodName)) ∈ xTT := xw4 (i := 222) rfl rfl
theorem q943 : (Jvm.Cond.selects "WorkMeter" ({ cls := "WorkMeter", name := "week", desc := "(III)Z" } : Jvm.MethodName) ({ cls := "WorkMeter", name := "week", desc := "(III)Z" } : Jvm.MethodName)) ∈ xTT := xw4 (i := 223) rfl rfl
theorem q944 : (Jvm.Cond.code ({ cls := "WorkMeter", name := "week", desc := "(III)Z" } : Jvm.MethodName) prog_1_method_15_code (4 : Nat) (Option.some Jvm.ClassFile.FieldType.boolean)) ∈ xTT := xw4 (i := 224) rfl rfl
theorem q945 : (Jvm.Cond.methodLink "WorkMeterLaw" (78 : Nat) ({ cls := "WorkMeter", name := "special", desc := "(II)Z" } : Jvm.MethodName)) ∈ xTT := xw4 (i := 225) rfl rfl
theorem q946 : (Jvm.Cond.instanceMethod ({ cls := "WorkMeter", name := "special", desc := "(II)Z" } : Jvm.MethodName)) ∈ xTT := xw4 (i := 226) rfl rfl
theorem q947 : (Jvm.Cond.selects "WorkMeter" ({ cls := "WorkMeter", name := "special", desc := "(II)Z" } : Jvm.MethodName) ({ cls := "WorkMeter", name := "special", desc := "(II)Z" } : Jvm.MethodName)) ∈ xTT := xw4 (i := 227) rfl rfl
theorem q948 : (Jvm.Cond.code ({ cls := "WorkMeter", name := "special", desc := "(II)Z" } : Jvm.MethodName) prog_1_method_16_code (3 : Nat) (Option.some Jvm.ClassFile.FieldType.boolean)) ∈ xTT := xw4 (i := 228) rfl rfl
theorem q949 : (Jvm.Cond.methodLink "WorkMeter" (160 : Nat) ({ cls := "WorkMeter$Calendar", name := "dropSpecial", desc := "(I)Z" } : Jvm.MethodName)) ∈ xTT := xw4 (i := 229) rfl rfl
theorem q950 : (Jvm.Cond.instanceMethod ({ cls := "WorkMeter$Calendar", name := "dropSpecial", desc := "(I)Z" } : Jvm.MethodName)) ∈ xTT := xw4 (i := 230) rfl rfl
theorem q951 : (Jvm.Cond.selects "WorkMeter$Calendar" ({ cls := "WorkMeter$Calendar", name := "dropSpecial", desc := "(I)Z" } : Jvm.MethodName) ({ cls := "WorkMeter$Calendar", name := "dropSpecial", desc := "(I)Z" } : Jvm.MethodName)) ∈ xTT := xw4 (i := 231) rfl rfl
theorem q952 : (Jvm.Cond.code ({ cls := "WorkMeter$Calendar", name := "dropSpecial", desc := "(I)Z" } : Jvm.MethodName) prog_2_method_11_code (3 : Nat) (Option.some Jvm.ClassFile.FieldType.boolean)) ∈ xTT := xw4 (i := 232) rfl rfl
theorem q953 : (Jvm.Cond.methodLink "WorkMeter" (163 : Nat) ({ cls := "WorkMeter$Calendar", name := "putSpecial", desc := "(II)Z" } : Jvm.MethodName)) ∈ xTT := xw4 (i := 233) rfl rfl
theorem q954 : (Jvm.Cond.methodLink "WorkMeterLaw" (82 : Nat) ({ cls := "WorkMeter", name := "move", desc := "(I)I" } : Jvm.MethodName)) ∈ xTT := xw4 (i := 234) rfl rfl
theorem q955 : (Jvm.Cond.instanceMethod ({ cls := "WorkMeter", name := "move", desc := "(I)I" } : Jvm.MethodName)) ∈ xTT := xw4 (i := 235) rfl rfl
theorem q956 : (Jvm.Cond.selects "WorkMeter" ({ cls := "WorkMeter", name := "move", desc := "(I)I" } : Jvm.MethodName) ({ cls := "WorkMeter", name := "move", desc := "(I)I" } : Jvm.MethodName)) ∈ xTT := xw4 (i := 236) rfl rfl
theorem q957 : (Jvm.Cond.code ({ cls := "WorkMeter", name := "move", desc := "(I)I" } : Jvm.MethodName) prog_1_method_17_code (2 : Nat) (Option.some Jvm.ClassFile.FieldType.int)) ∈ xTT := xw4 (i := 237) rfl rfl
theorem q958 : (Jvm.Cond.methodLink "WorkMeter" (166 : Nat) ({ cls := "WorkMeter", name := "isTime", desc := "(I)Z" } : Jvm.MethodName)) ∈ xTT := xw4 (i := 238) rfl rfl
theorem q959 : (Jvm.Cond.static ({ cls := "WorkMeter", name := "isTime", desc := "(I)Z" } : Jvm.MethodName)) ∈ xTT := xw4 (i := 239) rfl rfl
theorem q960 : (Jvm.Cond.code ({ cls := "WorkMeter", name := "isTime", desc := "(I)Z" } : Jvm.MethodName) prog_1_method_59_code (1 : Nat) (Option.some Jvm.ClassFile.FieldType.boolean)) ∈ xTT := xw5 (i := 0) rfl rfl
theorem q961 : (Jvm.Cond.constant "WorkMeter" (176 : Nat) (2000000000 : Int32)) ∈ xTT := xw5 (i := 1) rfl rfl
theorem q962 : (Jvm.Cond.methodLink "WorkMeter" (169 : Nat) ({ cls := "WorkMeter$Meter", name := "moveClock", desc := "(I)I" } : Jvm.MethodName)) ∈ xTT := xw5 (i := 2) rfl rfl
theorem q963 : (Jvm.Cond.instanceMethod ({ cls := "WorkMeter$Meter", name := "moveClock", desc := "(I)I" } : Jvm.MethodName)) ∈ xTT := xw5 (i := 3) rfl rfl
theorem q964 : (Jvm.Cond.selects "WorkMeter$Meter" ({ cls := "WorkMeter$Meter", name := "moveClock", desc := "(I)I" } : Jvm.MethodName) ({ cls := "WorkMeter$Meter", name := "moveClock", desc := "(I)I" } : Jvm.MethodName)) ∈ xTT := xw5 (i := 4) rfl rfl
theorem q965 : (Jvm.Cond.code ({ cls := "WorkMeter$Meter", name := "moveClock", desc := "(I)I" } : Jvm.MethodName) prog_8_method_7_code (3 : Nat) (Option.some Jvm.ClassFile.FieldType.int)) ∈ xTT := xw5 (i := 5) rfl rfl
theorem q966 : (Jvm.Cond.methodLink "WorkMeterLaw" (86 : Nat) ({ cls := "WorkMeter", name := "off", desc := "(I)I" } : Jvm.MethodName)) ∈ xTT := xw5 (i := 6) rfl rfl
theorem q967 : (Jvm.Cond.instanceMethod ({ cls := "WorkMeter", name := "off", desc := "(I)I" } : Jvm.MethodName)) ∈ xTT := xw5 (i := 7) rfl rfl
theorem q968 : (Jvm.Cond.selects "WorkMeter" ({ cls := "WorkMeter", name := "off", desc := "(I)I" } : Jvm.MethodName) ({ cls := "WorkMeter", name := "off", desc := "(I)I" } : Jvm.MethodName)) ∈ xTT := xw5 (i := 8) rfl rfl
theorem q969 : (Jvm.Cond.code ({ cls := "WorkMeter", name := "off", desc := "(I)I" } : Jvm.MethodName) prog_1_method_18_code (2 : Nat) (Option.some Jvm.ClassFile.FieldType.int)) ∈ xTT := xw5 (i := 9) rfl rfl
theorem q970 : (Jvm.Cond.constant "WorkMeter" (172 : Nat) (100000 : Int32)) ∈ xTT := xw5 (i := 10) rfl rfl
theorem q971 : (Jvm.Cond.methodLink "WorkMeter" (177 : Nat) ({ cls := "WorkMeter$Meter", name := "goOff", desc := "(I)V" } : Jvm.MethodName)) ∈ xTT := xw5 (i := 11) rfl rfl
theorem q972 : (Jvm.Cond.instanceMethod ({ cls := "WorkMeter$Meter", name := "goOff", desc := "(I)V" } : Jvm.MethodName)) ∈ xTT := xw5 (i := 12) rfl rfl
theorem q973 : (Jvm.Cond.selects "WorkMeter$Meter" ({ cls := "WorkMeter$Meter", name := "goOff", desc := "(I)V" } : Jvm.MethodName) ({ cls := "WorkMeter$Meter", name := "goOff", desc := "(I)V" } : Jvm.MethodName)) ∈ xTT := xw5 (i := 13) rfl rfl
theorem q974 : (Jvm.Cond.code ({ cls := "WorkMeter$Meter", name := "goOff", desc := "(I)V" } : Jvm.MethodName) prog_8_method_10_code (6 : Nat) (Option.none : Option Jvm.ClassFile.FieldType)) ∈ xTT := xw5 (i := 14) rfl rfl
theorem q975 : (Jvm.Cond.methodLink "WorkMeter$Meter" (189 : Nat) ({ cls := "WorkMeter$Marks", name := "beginAnew", desc := "(LWorkMeter$Logbook;I)V" } : Jvm.MethodName)) ∈ xTT := xw5 (i := 15) rfl rfl
theorem q976 : (Jvm.Cond.instanceMethod ({ cls := "WorkMeter$Marks", name := "beginAnew", desc := "(LWorkMeter$Logbook;I)V" } : Jvm.MethodName)) ∈ xTT := xw5 (i := 16) rfl rfl
theorem q977 : (Jvm.Cond.selects "WorkMeter$Marks" ({ cls := "WorkMeter$Marks", name := "beginAnew", desc := "(LWorkMeter$Logbook;I)V" } : Jvm.MethodName) ({ cls := "WorkMeter$Marks", name := "beginAnew", desc := "(LWorkMeter$Logbook;I)V" } : Jvm.MethodName)) ∈ xTT := xw5 (i := 17) rfl rfl
theorem q978 : (Jvm.Cond.code ({ cls := "WorkMeter$Marks", name := "beginAnew", desc := "(LWorkMeter$Logbook;I)V" } : Jvm.MethodName) prog_7_method_5_code (4 : Nat) (Option.none : Option Jvm.ClassFile.FieldType)) ∈ xTT := xw5 (i := 18) rfl rfl
theorem q979 : (Jvm.Cond.methodLink "WorkMeter$Meter" (205 : Nat) ({ cls := "WorkMeter$Load", name := "addOff", desc := "(II)V" } : Jvm.MethodName)) ∈ xTT := xw5 (i := 19) rfl rfl
theorem q980 : (Jvm.Cond.instanceMethod ({ cls := "WorkMeter$Load", name := "addOff", desc := "(II)V" } : Jvm.MethodName)) ∈ xTT := xw5 (i := 20) rfl rfl
theorem q981 : (Jvm.Cond.selects "WorkMeter$Load" ({ cls := "WorkMeter$Load", name := "addOff", desc := "(II)V" } : Jvm.MethodName) ({ cls := "WorkMeter$Load", name := "addOff", desc := "(II)V" } : Jvm.MethodName)) ∈ xTT := xw5 (i := 21) rfl rfl
theorem q982 : (Jvm.Cond.code ({ cls := "WorkMeter$Load", name := "addOff", desc := "(II)V" } : Jvm.MethodName) prog_5_method_7_code (3 : Nat) (Option.none : Option Jvm.ClassFile.FieldType)) ∈ xTT := xw5 (i := 22) rfl rfl
theorem q983 : (Jvm.Cond.methodLink "WorkMeterLaw" (90 : Nat) ({ cls := "WorkMeter", name := "mark", desc := "(IZ)Z" } : Jvm.MethodName)) ∈ xTT := xw5 (i := 23) rfl rfl
theorem q984 : (Jvm.Cond.instanceMethod ({ cls := "WorkMeter", name := "mark", desc := "(IZ)Z" } : Jvm.MethodName)) ∈ xTT := xw5 (i := 24) rfl rfl
theorem q985 : (Jvm.Cond.selects "WorkMeter" ({ cls := "WorkMeter", name := "mark", desc := "(IZ)Z" } : Jvm.MethodName) ({ cls := "WorkMeter", name := "mark", desc := "(IZ)Z" } : Jvm.MethodName)) ∈ xTT := xw5 (i := 25) rfl rfl
theorem q986 : (Jvm.Cond.code ({ cls := "WorkMeter", name := "mark", desc := "(IZ)Z" } : Jvm.MethodName) prog_1_method_19_code (3 : Nat) (Option.some Jvm.ClassFile.FieldType.boolean)) ∈ xTT := xw5 (i := 26) rfl rfl
theorem q987 : (Jvm.Cond.methodLink "WorkMeter" (186 : Nat) ({ cls := "WorkMeter$Marks", name := "isOn", desc := "(I)Z" } : Jvm.MethodName)) ∈ xTT := xw5 (i := 27) rfl rfl
theorem q988 : (Jvm.Cond.methodLink "WorkMeter" (193 : Nat) ({ cls := "WorkMeter$Marks", name := "turn", desc := "(IZLWorkMeter$Logbook;I)V" } : Jvm.MethodName)) ∈ xTT := xw5 (i := 28) rfl rfl
theorem q989 : (Jvm.Cond.methodLink "WorkMeterLaw" (95 : Nat) ({ cls := "WorkMeter", name := "prepaid", desc := "(Z)Z" } : Jvm.MethodName)) ∈ xTT := xw5 (i := 29) rfl rfl
theorem q990 : (Jvm.Cond.instanceMethod ({ cls := "WorkMeter", name := "prepaid", desc := "(Z)Z" } : Jvm.MethodName)) ∈ xTT := xw5 (i := 30) rfl rfl
theorem q991 : (Jvm.Cond.selects "WorkMeter" ({ cls := "WorkMeter", name := "prepaid", desc := "(Z)Z" } : Jvm.MethodName) ({ cls := "WorkMeter", name := "prepaid", desc := "(Z)Z" } : Jvm.MethodName)) ∈ xTT := xw5 (i := 31) rfl rfl
theorem q992 : (Jvm.Cond.code ({ cls := "WorkMeter", name := "prepaid", desc := "(Z)Z" } : Jvm.MethodName) prog_1_method_20_code (2 : Nat) (Option.some Jvm.ClassFile.FieldType.boolean)) ∈ xTT := xw5 (i := 32) rfl rfl
theorem q993 : (Jvm.Cond.methodLink "WorkMeter" (200 : Nat) ({ cls := "WorkMeter$Meter", name := "settleSwitch", desc := "()V" } : Jvm.MethodName)) ∈ xTT := xw5 (i := 33) rfl rfl
theorem q994 : (Jvm.Cond.methodLink "WorkMeterLaw" (100 : Nat) ({ cls := "WorkMeter", name := "pay", desc := "(I)J" } : Jvm.MethodName)) ∈ xTT := xw5 (i := 34) rfl rfl
theorem q995 : (Jvm.Cond.instanceMethod ({ cls := "WorkMeter", name := "pay", desc := "(I)J" } : Jvm.MethodName)) ∈ xTT := xw5 (i := 35) rfl rfl
theorem q996 : (Jvm.Cond.selects "WorkMeter" ({ cls := "WorkMeter", name := "pay", desc := "(I)J" } : Jvm.MethodName) ({ cls := "WorkMeter", name := "pay", desc := "(I)J" } : Jvm.MethodName)) ∈ xTT := xw5 (i := 36) rfl rfl
theorem q997 : (Jvm.Cond.code ({ cls := "WorkMeter", name := "pay", desc := "(I)J" } : Jvm.MethodName) prog_1_method_21_code (2 : Nat) (Option.some Jvm.ClassFile.FieldType.long)) ∈ xTT := xw5 (i := 37) rfl rfl
theorem q998 : (Jvm.Cond.constant "WorkMeter" (203 : Nat) (1000000000 : Int32)) ∈ xTT := xw5 (i := 38) rfl rfl
theorem q999 : (Jvm.Cond.constantLong "WorkMeter" (204 : Nat) (-10000000000 : Int64)) ∈ xTT := xw5 (i := 39) rfl rfl
theorem q1000 : (Jvm.Cond.methodLink "WorkMeterLaw" (104 : Nat) ({ cls := "WorkMeter", name := "bill", desc := "()I" } : Jvm.MethodName)) ∈ xTT := xw5 (i := 40) rfl rfl
theorem q1001 : (Jvm.Cond.instanceMethod ({ cls := "WorkMeter", name := "bill", desc := "()I" } : Jvm.MethodName)) ∈ xTT := xw5 (i := 41) rfl rfl
theorem q1002 : (Jvm.Cond.selects "WorkMeter" ({ cls := "WorkMeter", name := "bill", desc := "()I" } : Jvm.MethodName) ({ cls := "WorkMeter", name := "bill", desc := "()I" } : Jvm.MethodName)) ∈ xTT := xw5 (i := 42) rfl rfl
theorem q1003 : (Jvm.Cond.code ({ cls := "WorkMeter", name := "bill", desc := "()I" } : Jvm.MethodName) prog_1_method_22_code (1 : Nat) (Option.some Jvm.ClassFile.FieldType.int)) ∈ xTT := xw5 (i := 43) rfl rfl
theorem q1004 : (Jvm.Cond.methodLink "WorkMeter" (210 : Nat) ({ cls := "WorkMeter$Meter", name := "makeBill", desc := "()V" } : Jvm.MethodName)) ∈ xTT := xw5 (i := 44) rfl rfl
theorem q1005 : (Jvm.Cond.instanceMethod ({ cls := "WorkMeter$Meter", name := "makeBill", desc := "()V" } : Jvm.MethodName)) ∈ xTT := xw5 (i := 45) rfl rfl
theorem q1006 : (Jvm.Cond.selects "WorkMeter$Meter" ({ cls := "WorkMeter$Meter", name := "makeBill", desc := "()V" } : Jvm.MethodName) ({ cls := "WorkMeter$Meter", name := "makeBill", desc := "()V" } : Jvm.MethodName)) ∈ xTT := xw5 (i := 46) rfl rfl
theorem q1007 : (Jvm.Cond.code ({ cls := "WorkMeter$Meter", name := "makeBill", desc := "()V" } : Jvm.MethodName) prog_8_method_8_code (1 : Nat) (Option.none : Option Jvm.ClassFile.FieldType)) ∈ xTT := xw5 (i := 47) rfl rfl
theorem q1008 : (Jvm.Cond.methodLink "WorkMeter$Meter" (182 : Nat) ({ cls := "WorkMeter$Registers", name := "keepBill", desc := "(ILWorkMeter$Demand;)V" } : Jvm.MethodName)) ∈ xTT := xw5 (i := 48) rfl rfl
theorem q1009 : (Jvm.Cond.instanceMethod ({ cls := "WorkMeter$Registers", name := "keepBill", desc := "(ILWorkMeter$Demand;)V" } : Jvm.MethodName)) ∈ xTT := xw5 (i := 49) rfl rfl
theorem q1010 : (Jvm.Cond.selects "WorkMeter$Registers" ({ cls := "WorkMeter$Registers", name := "keepBill", desc := "(ILWorkMeter$Demand;)V" } : Jvm.MethodName) ({ cls := "WorkMeter$Registers", name := "keepBill", desc := "(ILWorkMeter$Demand;)V" } : Jvm.MethodName)) ∈ xTT := xw5 (i := 50) rfl rfl
theorem q1011 : (Jvm.Cond.code ({ cls := "WorkMeter$Registers", name := "keepBill", desc := "(ILWorkMeter$Demand;)V" } : Jvm.MethodName) prog_9_method_7_code (5 : Nat) (Option.none : Option Jvm.ClassFile.FieldType)) ∈ xTT := xw5 (i := 51) rfl rfl
theorem q1012 : (Jvm.Cond.methodLink "WorkMeter$Registers" (21 : Nat) ({ cls := "java/lang/System", name := "arraycopy", desc := "(Ljava/lang/Object;ILjava/lang/Object;II)V" } : Jvm.MethodName)) ∈ xTT := xw5 (i := 52) rfl rfl
theorem q1013 : (Jvm.Cond.methodLink "WorkMeter$Meter" (186 : Nat) ({ cls := "WorkMeter$Demand", name := "clearMost", desc := "()V" } : Jvm.MethodName)) ∈ xTT := xw5 (i := 53) rfl rfl
theorem q1014 : (Jvm.Cond.methodLink "WorkMeterLaw" (108 : Nat) ({ cls := "WorkMeter", name := "period", desc := "(II)J" } : Jvm.MethodName)) ∈ xTT := xw5 (i := 54) rfl rfl
theorem q1015 : (Jvm.Cond.instanceMethod ({ cls := "WorkMeter", name := "period", desc := "(II)J" } : Jvm.MethodName)) ∈ xTT := xw5 (i := 55) rfl rfl
theorem q1016 : (Jvm.Cond.selects "WorkMeter" ({ cls := "WorkMeter", name := "period", desc := "(II)J" } : Jvm.MethodName) ({ cls := "WorkMeter", name := "period", desc := "(II)J" } : Jvm.MethodName)) ∈ xTT := xw5 (i := 56) rfl rfl
theorem q1017 : (Jvm.Cond.code ({ cls := "WorkMeter", name := "period", desc := "(II)J" } : Jvm.MethodName) prog_1_method_23_code (3 : Nat) (Option.some Jvm.ClassFile.FieldType.long)) ∈ xTT := xw5 (i := 57) rfl rfl
theorem q1018 : (Jvm.Cond.methodLink "WorkMeter" (225 : Nat) ({ cls := "WorkMeter$Wave", name := "tell", desc := "(II)J" } : Jvm.MethodName)) ∈ xTT := xw5 (i := 58) rfl rfl
theorem q1019 : (Jvm.Cond.instanceMethod ({ cls := "WorkMeter$Wave", name := "tell", desc := "(II)J" } : Jvm.MethodName)) ∈ xTT := xw5 (i := 59) rfl rfl
theorem q1020 : (Jvm.Cond.selects "WorkMeter$Wave" ({ cls := "WorkMeter$Wave", name := "tell", desc := "(II)J" } : Jvm.MethodName) ({ cls := "WorkMeter$Wave", name := "tell", desc := "(II)J" } : Jvm.MethodName)) ∈ xTT := xw5 (i := 60) rfl rfl
theorem q1021 : (Jvm.Cond.code ({ cls := "WorkMeter$Wave", name := "tell", desc := "(II)J" } : Jvm.MethodName) prog_12_method_11_code (6 : Nat) (Option.some Jvm.ClassFile.FieldType.long)) ∈ xTT := xw5 (i := 61) rfl rfl
theorem q1022 : (Jvm.Cond.methodLink "WorkMeter$Wave" (63 : Nat) ({ cls := "WorkMeter$Wave", name := "quadrantOf", desc := "(JJ)I" } : Jvm.MethodName)) ∈ xTT := xw5 (i := 62) rfl rfl
theorem q1023 : (Jvm.Cond.methodLink "WorkMeter$Wave" (67 : Nat) ({ cls := "WorkMeter$Wave", name := "rootMean", desc := "(II)J" } : Jvm.MethodName)) ∈ xTT := xw5 (i := 63) rfl rfl
theorem q1025 : (Jvm.Cond.instanceMethod ({ cls := "WorkMeter$Wave", name := "rootMean", desc := "(II)J" } : Jvm.MethodName)) ∈ xTT := xw5 (i := 65) rfl rfl
theorem q1026 : (Jvm.Cond.code ({ cls := "WorkMeter$Wave", name := "rootMean", desc := "(II)J" } : Jvm.MethodName) prog_12_method_13_code (6 : Nat) (Option.some Jvm.ClassFile.FieldType.long)) ∈ xTT := xw5 (i := 66) rfl rfl
theorem q1027 : (Jvm.Cond.methodLink "WorkMeter$Wave" (79 : Nat) ({ cls := "java/lang/Math", name := "max", desc := "(JJ)J" } : Jvm.MethodName)) ∈ xTT := xw5 (i := 67) rfl rfl
theorem q1028 : (Jvm.Cond.methodLink "WorkMeter$Wave" (84 : Nat) ({ cls := "java/lang/Math", name := "max", desc := "(II)I" } : Jvm.MethodName)) ∈ xTT := xw5 (i := 68) rfl rfl
theorem q1029 : (Jvm.Cond.methodLink "WorkMeter$Wave" (71 : Nat) ({ cls := "WorkMeter$Wave", name := "factor", desc := "(JJ)J" } : Jvm.MethodName)) ∈ xTT := xw5 (i := 69) rfl rfl
theorem q1030 : (Jvm.Cond.static ({ cls := "WorkMeter$Wave", name := "factor", desc := "(JJ)J" } : Jvm.MethodName)) ∈ xTT := xw5 (i := 70) rfl rfl
theorem q1031 : (Jvm.Cond.code ({ cls := "WorkMeter$Wave", name := "factor", desc := "(JJ)J" } : Jvm.MethodName) prog_12_method_12_code (4 : Nat) (Option.some Jvm.ClassFile.FieldType.long)) ∈ xTT := xw5 (i := 71) rfl rfl
theorem q1032 : (Jvm.Cond.constantLong "WorkMeter$Wave" (77 : Nat) (1000 : Int64)) ∈ xTT := xw5 (i := 72) rfl rfl
theorem q1033 : (Jvm.Cond.constantLong "WorkMeter$Wave" (75 : Nat) (-1 : Int64)) ∈ xTT := xw5 (i := 73) rfl rfl
theorem q1034 : (Jvm.Cond.methodLink "WorkMeterLaw" (113 : Nat) ({ cls := "WorkMeter", name := "raw", desc := "(II)J" } : Jvm.MethodName)) ∈ xTT := xw5 (i := 74) rfl rfl
theorem q1035 : (Jvm.Cond.instanceMethod ({ cls := "WorkMeter", name := "raw", desc := "(II)J" } : Jvm.MethodName)) ∈ xTT := xw5 (i := 75) rfl rfl
theorem q1036 : (Jvm.Cond.selects "WorkMeter" ({ cls := "WorkMeter", name := "raw", desc := "(II)J" } : Jvm.MethodName) ({ cls := "WorkMeter", name := "raw", desc := "(II)J" } : Jvm.MethodName)) ∈ xTT := xw5 (i := 76) rfl rfl
theorem q1037 : (Jvm.Cond.code ({ cls := "WorkMeter", name := "raw", desc := "(II)J" } : Jvm.MethodName) prog_1_method_24_code (3 : Nat) (Option.some Jvm.ClassFile.FieldType.long)) ∈ xTT := xw5 (i := 77) rfl rfl
theorem q1038 : (Jvm.Cond.methodLink "WorkMeter" (229 : Nat) ({ cls := "WorkMeter", name := "isRegister", desc := "(I)Z" } : Jvm.MethodName)) ∈ xTT := xw5 (i := 78) rfl rfl
theorem q1039 : (Jvm.Cond.static ({ cls := "WorkMeter", name := "isRegister", desc := "(I)Z" } : Jvm.MethodName)) ∈ xTT := xw5 (i := 79) rfl rfl
theorem q1040 : (Jvm.Cond.code ({ cls := "WorkMeter", name := "isRegister", desc := "(I)Z" } : Jvm.MethodName) prog_1_method_58_code (1 : Nat) (Option.some Jvm.ClassFile.FieldType.boolean)) ∈ xTT := xw5 (i := 80) rfl rfl
theorem q1041 : (Jvm.Cond.methodLink "WorkMeter" (232 : Nat) ({ cls := "WorkMeter", name := "isTariffOrAll", desc := "(I)Z" } : Jvm.MethodName)) ∈ xTT := xw5 (i := 81) rfl rfl
theorem q1042 : (Jvm.Cond.static ({ cls := "WorkMeter", name := "isTariffOrAll", desc := "(I)Z" } : Jvm.MethodName)) ∈ xTT := xw5 (i := 82) rfl rfl
theorem q1043 : (Jvm.Cond.code ({ cls := "WorkMeter", name := "isTariffOrAll", desc := "(I)Z" } : Jvm.MethodName) prog_1_method_56_code (1 : Nat) (Option.some Jvm.ClassFile.FieldType.boolean)) ∈ xTT := xw5 (i := 83) rfl rfl
theorem q1044 : (Jvm.Cond.methodLink "WorkMeter" (235 : Nat) ({ cls := "WorkMeter$Registers", name := "sum", desc := "(II)J" } : Jvm.MethodName)) ∈ xTT := xw5 (i := 84) rfl rfl
theorem q1045 : (Jvm.Cond.methodLink "WorkMeterLaw" (117 : Nat) ({ cls := "WorkMeter", name := "reading", desc := "(II)J" } : Jvm.MethodName)) ∈ xTT := xw5 (i := 85) rfl rfl
theorem q1046 : (Jvm.Cond.instanceMethod ({ cls := "WorkMeter", name := "reading", desc := "(II)J" } : Jvm.MethodName)) ∈ xTT := xw5 (i := 86) rfl rfl
theorem q1047 : (Jvm.Cond.selects "WorkMeter" ({ cls := "WorkMeter", name := "reading", desc := "(II)J" } : Jvm.MethodName) ({ cls := "WorkMeter", name := "reading", desc := "(II)J" } : Jvm.MethodName)) ∈ xTT := xw5 (i := 87) rfl rfl
theorem q1048 : (Jvm.Cond.code ({ cls := "WorkMeter", name := "reading", desc := "(II)J" } : Jvm.MethodName) prog_1_method_25_code (3 : Nat) (Option.some Jvm.ClassFile.FieldType.long)) ∈ xTT := xw5 (i := 88) rfl rfl
theorem q1049 : (Jvm.Cond.methodLink "WorkMeter" (238 : Nat) ({ cls := "WorkMeter$Settings", name := "unit", desc := "()I" } : Jvm.MethodName)) ∈ xTT := xw5 (i := 89) rfl rfl
theorem q1050 : (Jvm.Cond.methodLink "WorkMeterLaw" (121 : Nat) ({ cls := "WorkMeter", name := "tariffAt", desc := "(I)I" } : Jvm.MethodName)) ∈ xTT := xw5 (i := 90) rfl rfl
theorem q1051 : (Jvm.Cond.instanceMethod ({ cls := "WorkMeter", name := "tariffAt", desc := "(I)I" } : Jvm.MethodName)) ∈ xTT := xw5 (i := 91) rfl rfl
theorem q1052 : (Jvm.Cond.selects "WorkMeter" ({ cls := "WorkMeter", name := "tariffAt", desc := "(I)I" } : Jvm.MethodName) ({ cls := "WorkMeter", name := "tariffAt", desc := "(I)I" } : Jvm.MethodName)) ∈ xTT := xw5 (i := 92) rfl rfl
theorem q1053 : (Jvm.Cond.code ({ cls := "WorkMeter", name := "tariffAt", desc := "(I)I" } : Jvm.MethodName) prog_1_method_26_code (2 : Nat) (Option.some Jvm.ClassFile.FieldType.int)) ∈ xTT := xw5 (i := 93) rfl rfl
theorem q1054 : (Jvm.Cond.methodLink "WorkMeter" (241 : Nat) ({ cls := "WorkMeter$Calendar", name := "tariffOn", desc := "(I)I" } : Jvm.MethodName)) ∈ xTT := xw5 (i := 94) rfl rfl
theorem q1055 : (Jvm.Cond.methodLink "WorkMeterLaw" (125 : Nat) ({ cls := "WorkMeter", name := "tableOf", desc := "(I)I" } : Jvm.MethodName)) ∈ xTT := xw5 (i := 95) rfl rfl
theorem q1056 : (Jvm.Cond.instanceMethod ({ cls := "WorkMeter", name := "tableOf", desc := "(I)I" } : Jvm.MethodName)) ∈ xTT := xw5 (i := 96) rfl rfl
theorem q1057 : (Jvm.Cond.selects "WorkMeter" ({ cls := "WorkMeter", name := "tableOf", desc := "(I)I" } : Jvm.MethodName) ({ cls := "WorkMeter", name := "tableOf", desc := "(I)I" } : Jvm.MethodName)) ∈ xTT := xw5 (i := 97) rfl rfl
theorem q1058 : (Jvm.Cond.code ({ cls := "WorkMeter", name := "tableOf", desc := "(I)I" } : Jvm.MethodName) prog_1_method_27_code (2 : Nat) (Option.some Jvm.ClassFile.FieldType.int)) ∈ xTT := xw5 (i := 98) rfl rfl
theorem q1059 : (Jvm.Cond.methodLink "WorkMeter" (244 : Nat) ({ cls := "WorkMeter", name := "isDay", desc := "(I)Z" } : Jvm.MethodName)) ∈ xTT := xw5 (i := 99) rfl rfl
theorem q1060 : (Jvm.Cond.static ({ cls := "WorkMeter", name := "isDay", desc := "(I)Z" } : Jvm.MethodName)) ∈ xTT := xw5 (i := 100) rfl rfl
theorem q1061 : (Jvm.Cond.code ({ cls := "WorkMeter", name := "isDay", desc := "(I)Z" } : Jvm.MethodName) prog_1_method_60_code (1 : Nat) (Option.some Jvm.ClassFile.FieldType.boolean)) ∈ xTT := xw5 (i := 101) rfl rfl
theorem q1062 : (Jvm.Cond.methodLink "WorkMeter" (247 : Nat) ({ cls := "WorkMeter$Calendar", name := "tableFor", desc := "(I)I" } : Jvm.MethodName)) ∈ xTT := xw5 (i := 102) rfl rfl
theorem q1063 : (Jvm.Cond.methodLink "WorkMeterLaw" (129 : Nat) ({ cls := "WorkMeter", name := "switching", desc := "(III)I" } : Jvm.MethodName)) ∈ xTT := xw5 (i := 103) rfl rfl
theorem q1064 : (Jvm.Cond.instanceMethod ({ cls := "WorkMeter", name := "switching", desc := "(III)I" } : Jvm.MethodName)) ∈ xTT := xw5 (i := 104) rfl rfl
theorem q1065 : (Jvm.Cond.selects "WorkMeter" ({ cls := "WorkMeter", name := "switching", desc := "(III)I" } : Jvm.MethodName) ({ cls := "WorkMeter", name := "switching", desc := "(III)I" } : Jvm.MethodName)) ∈ xTT := xw5 (i := 105) rfl rfl
theorem q1066 : (Jvm.Cond.code ({ cls := "WorkMeter", name := "switching", desc := "(III)I" } : Jvm.MethodName) prog_1_method_28_code (6 : Nat) (Option.some Jvm.ClassFile.FieldType.int)) ∈ xTT := xw5 (i := 106) rfl rfl
theorem q1067 : (Jvm.Cond.methodLink "WorkMeterLaw" (133 : Nat) ({ cls := "WorkMeter", name := "next", desc := "(I)I" } : Jvm.MethodName)) ∈ xTT := xw5 (i := 107) rfl rfl
theorem q1068 : (Jvm.Cond.instanceMethod ({ cls := "WorkMeter", name := "next", desc := "(I)I" } : Jvm.MethodName)) ∈ xTT := xw5 (i := 108) rfl rfl
theorem q1069 : (Jvm.Cond.selects "WorkMeter" ({ cls := "WorkMeter", name := "next", desc := "(I)I" } : Jvm.MethodName) ({ cls := "WorkMeter", name := "next", desc := "(I)I" } : Jvm.MethodName)) ∈ xTT := xw5 (i := 109) rfl rfl
theorem q1070 : (Jvm.Cond.code ({ cls := "WorkMeter", name := "next", desc := "(I)I" } : Jvm.MethodName) prog_1_method_29_code (3 : Nat) (Option.some Jvm.ClassFile.FieldType.int)) ∈ xTT := xw5 (i := 110) rfl rfl
theorem q1071 : (Jvm.Cond.methodLink "WorkMeter" (259 : Nat) ({ cls := "WorkMeter$Calendar", name := "changeAfter", desc := "(I)I" } : Jvm.MethodName)) ∈ xTT := xw5 (i := 111) rfl rfl
theorem q1072 : (Jvm.Cond.instanceMethod ({ cls := "WorkMeter$Calendar", name := "changeAfter", desc := "(I)I" } : Jvm.MethodName)) ∈ xTT := xw5 (i := 112) rfl rfl
theorem q1073 : (Jvm.Cond.selects "WorkMeter$Calendar" ({ cls := "WorkMeter$Calendar", name := "changeAfter", desc := "(I)I" } : Jvm.MethodName) ({ cls := "WorkMeter$Calendar", name := "changeAfter", desc := "(I)I" } : Jvm.MethodName)) ∈ xTT := xw5 (i := 113) rfl rfl
theorem q1074 : (Jvm.Cond.code ({ cls := "WorkMeter$Calendar", name := "changeAfter", desc := "(I)I" } : Jvm.MethodName) prog_2_method_17_code (6 : Nat) (Option.some Jvm.ClassFile.FieldType.int)) ∈ xTT := xw5 (i := 114) rfl rfl
theorem q1075 : (Jvm.Cond.constant "WorkMeter$Calendar" (74 : Nat) (2000000000 : Int32)) ∈ xTT := xw5 (i := 115) rfl rfl
theorem q1076 : (Jvm.Cond.methodLink "WorkMeter$Calendar" (75 : Nat) ({ cls := "java/lang/Math", name := "min", desc := "(II)I" } : Jvm.MethodName)) ∈ xTT := xw5 (i := 116) rfl rfl
theorem q1077 : (Jvm.Cond.methodLink "WorkMeter$Calendar" (80 : Nat) ({ cls := "WorkMeter$Calendar", name := "tariffOn", desc := "(I)I" } : Jvm.MethodName)) ∈ xTT := xw5 (i := 117) rfl rfl
theorem q1078 : (Jvm.Cond.methodLink "WorkMeter$Calendar" (83 : Nat) ({ cls := "WorkMeter$Calendar", name := "heldUntil", desc := "(I)I" } : Jvm.MethodName)) ∈ xTT := xw5 (i := 118) rfl rfl
theorem q1079 : (Jvm.Cond.methodLink "WorkMeterLaw" (137 : Nat) ({ cls := "WorkMeter", name := "marked", desc := "(II)I" } : Jvm.MethodName)) ∈ xTT := xw5 (i := 119) rfl rfl
theorem q1080 : (Jvm.Cond.instanceMethod ({ cls := "WorkMeter", name := "marked", desc := "(II)I" } : Jvm.MethodName)) ∈ xTT := xw5 (i := 120) rfl rfl
theorem q1081 : (Jvm.Cond.selects "WorkMeter" ({ cls := "WorkMeter", name := "marked", desc := "(II)I" } : Jvm.MethodName) ({ cls := "WorkMeter", name := "marked", desc := "(II)I" } : Jvm.MethodName)) ∈ xTT := xw5 (i := 121) rfl rfl
theorem q1082 : (Jvm.Cond.code ({ cls := "WorkMeter", name := "marked", desc := "(II)I" } : Jvm.MethodName) prog_1_method_30_code (3 : Nat) (Option.some Jvm.ClassFile.FieldType.int)) ∈ xTT := xw5 (i := 122) rfl rfl
theorem q1083 : (Jvm.Cond.methodLink "WorkMeterLaw" (141 : Nat) ({ cls := "WorkMeter", name := "load", desc := "(II)J" } : Jvm.MethodName)) ∈ xTT := xw5 (i := 123) rfl rfl
theorem q1084 : (Jvm.Cond.instanceMethod ({ cls := "WorkMeter", name := "load", desc := "(II)J" } : Jvm.MethodName)) ∈ xTT := xw5 (i := 124) rfl rfl
theorem q1085 : (Jvm.Cond.selects "WorkMeter" ({ cls := "WorkMeter", name := "load", desc := "(II)J" } : Jvm.MethodName) ({ cls := "WorkMeter", name := "load", desc := "(II)J" } : Jvm.MethodName)) ∈ xTT := xw5 (i := 125) rfl rfl
theorem q1086 : (Jvm.Cond.code ({ cls := "WorkMeter", name := "load", desc := "(II)J" } : Jvm.MethodName) prog_1_method_31_code (4 : Nat) (Option.some Jvm.ClassFile.FieldType.long)) ∈ xTT := xw5 (i := 126) rfl rfl
theorem q1087 : (Jvm.Cond.methodLink "WorkMeter" (273 : Nat) ({ cls := "WorkMeter$Load", name := "linesKept", desc := "()I" } : Jvm.MethodName)) ∈ xTT := xw5 (i := 127) rfl rfl
theorem q1088 : (Jvm.Cond.methodLink "WorkMeter" (278 : Nat) ({ cls := "WorkMeter$Load", name := "field", desc := "(II)J" } : Jvm.MethodName)) ∈ xTT := xw5 (i := 128) rfl rfl
theorem q1089 : (Jvm.Cond.methodLink "WorkMeterLaw" (145 : Nat) ({ cls := "WorkMeter", name := "block", desc := "(I)J" } : Jvm.MethodName)) ∈ xTT := xw5 (i := 129) rfl rfl
theorem q1090 : (Jvm.Cond.instanceMethod ({ cls := "WorkMeter", name := "block", desc := "(I)J" } : Jvm.MethodName)) ∈ xTT := xw5 (i := 130) rfl rfl
theorem q1091 : (Jvm.Cond.selects "WorkMeter" ({ cls := "WorkMeter", name := "block", desc := "(I)J" } : Jvm.MethodName) ({ cls := "WorkMeter", name := "block", desc := "(I)J" } : Jvm.MethodName)) ∈ xTT := xw5 (i := 131) rfl rfl
theorem q1092 : (Jvm.Cond.code ({ cls := "WorkMeter", name := "block", desc := "(I)J" } : Jvm.MethodName) prog_1_method_32_code (2 : Nat) (Option.some Jvm.ClassFile.FieldType.long)) ∈ xTT := xw5 (i := 132) rfl rfl
theorem q1093 : (Jvm.Cond.methodLink "WorkMeter" (296 : Nat) ({ cls := "WorkMeter$Settings", name := "blockLength", desc := "()I" } : Jvm.MethodName)) ∈ xTT := xw5 (i := 133) rfl rfl
theorem q1094 : (Jvm.Cond.methodLink "WorkMeter" (299 : Nat) ({ cls := "WorkMeter$Load", name := "statusSoFar", desc := "(I)I" } : Jvm.MethodName)) ∈ xTT := xw5 (i := 134) rfl rfl
theorem q1095 : (Jvm.Cond.methodLink "WorkMeterLaw" (149 : Nat) ({ cls := "WorkMeter", name := "demand", desc := "(I)J" } : Jvm.MethodName)) ∈ xTT := xw5 (i := 135) rfl rfl
theorem q1096 : (Jvm.Cond.instanceMethod ({ cls := "WorkMeter", name := "demand", desc := "(I)J" } : Jvm.MethodName)) ∈ xTT := xw5 (i := 136) rfl rfl
theorem q1097 : (Jvm.Cond.selects "WorkMeter" ({ cls := "WorkMeter", name := "demand", desc := "(I)J" } : Jvm.MethodName) ({ cls := "WorkMeter", name := "demand", desc := "(I)J" } : Jvm.MethodName)) ∈ xTT := xw5 (i := 137) rfl rfl
theorem q1098 : (Jvm.Cond.code ({ cls := "WorkMeter", name := "demand", desc := "(I)J" } : Jvm.MethodName) prog_1_method_33_code (2 : Nat) (Option.some Jvm.ClassFile.FieldType.long)) ∈ xTT := xw5 (i := 138) rfl rfl
theorem q1099 : (Jvm.Cond.methodLink "WorkMeterLaw" (153 : Nat) ({ cls := "WorkMeter", name := "greatest", desc := "(II)J" } : Jvm.MethodName)) ∈ xTT := xw5 (i := 139) rfl rfl
theorem q1100 : (Jvm.Cond.instanceMethod ({ cls := "WorkMeter", name := "greatest", desc := "(II)J" } : Jvm.MethodName)) ∈ xTT := xw5 (i := 140) rfl rfl
theorem q1101 : (Jvm.Cond.selects "WorkMeter" ({ cls := "WorkMeter", name := "greatest", desc := "(II)J" } : Jvm.MethodName) ({ cls := "WorkMeter", name := "greatest", desc := "(II)J" } : Jvm.MethodName)) ∈ xTT := xw5 (i := 141) rfl rfl
theorem q1102 : (Jvm.Cond.code ({ cls := "WorkMeter", name := "greatest", desc := "(II)J" } : Jvm.MethodName) prog_1_method_34_code (3 : Nat) (Option.some Jvm.ClassFile.FieldType.long)) ∈ xTT := xw5 (i := 142) rfl rfl
theorem q1103 : (Jvm.Cond.methodLink "WorkMeterLaw" (157 : Nat) ({ cls := "WorkMeter", name := "billed", desc := "(III)J" } : Jvm.MethodName)) ∈ xTT := xw5 (i := 143) rfl rfl
theorem q1104 : (Jvm.Cond.instanceMethod ({ cls := "WorkMeter", name := "billed", desc := "(III)J" } : Jvm.MethodName)) ∈ xTT := xw5 (i := 144) rfl rfl
theorem q1105 : (Jvm.Cond.selects "WorkMeter" ({ cls := "WorkMeter", name := "billed", desc := "(III)J" } : Jvm.MethodName) ({ cls := "WorkMeter", name := "billed", desc := "(III)J" } : Jvm.MethodName)) ∈ xTT := xw5 (i := 145) rfl rfl
theorem q1106 : (Jvm.Cond.code ({ cls := "WorkMeter", name := "billed", desc := "(III)J" } : Jvm.MethodName) prog_1_method_35_code (4 : Nat) (Option.some Jvm.ClassFile.FieldType.long)) ∈ xTT := xw5 (i := 146) rfl rfl
theorem q1107 : (Jvm.Cond.methodLink "WorkMeter" (321 : Nat) ({ cls := "WorkMeter$Registers", name := "isBill", desc := "(I)Z" } : Jvm.MethodName)) ∈ xTT := xw5 (i := 147) rfl rfl
theorem q1108 : (Jvm.Cond.instanceMethod ({ cls := "WorkMeter$Registers", name := "isBill", desc := "(I)Z" } : Jvm.MethodName)) ∈ xTT := xw5 (i := 148) rfl rfl
theorem q1109 : (Jvm.Cond.selects "WorkMeter$Registers" ({ cls := "WorkMeter$Registers", name := "isBill", desc := "(I)Z" } : Jvm.MethodName) ({ cls := "WorkMeter$Registers", name := "isBill", desc := "(I)Z" } : Jvm.MethodName)) ∈ xTT := xw5 (i := 149) rfl rfl
theorem q1110 : (Jvm.Cond.code ({ cls := "WorkMeter$Registers", name := "isBill", desc := "(I)Z" } : Jvm.MethodName) prog_9_method_8_code (2 : Nat) (Option.some Jvm.ClassFile.FieldType.boolean)) ∈ xTT := xw5 (i := 150) rfl rfl
theorem q1111 : (Jvm.Cond.methodLink "WorkMeter$Registers" (52 : Nat) ({ cls := "java/lang/Math", name := "min", desc := "(II)I" } : Jvm.MethodName)) ∈ xTT := xw5 (i := 151) rfl rfl
theorem q1112 : (Jvm.Cond.methodLink "WorkMeter" (324 : Nat) ({ cls := "WorkMeter$Registers", name := "billedSum", desc := "(III)J" } : Jvm.MethodName)) ∈ xTT := xw5 (i := 152) rfl rfl
theorem q1113 : (Jvm.Cond.instanceMethod ({ cls := "WorkMeter$Registers", name := "billedSum", desc := "(III)J" } : Jvm.MethodName)) ∈ xTT := xw5 (i := 153) rfl rfl
theorem q1114 : (Jvm.Cond.selects "WorkMeter$Registers" ({ cls := "WorkMeter$Registers", name := "billedSum", desc := "(III)J" } : Jvm.MethodName) ({ cls := "WorkMeter$Registers", name := "billedSum", desc := "(III)J" } : Jvm.MethodName)) ∈ xTT := xw5 (i := 154) rfl rfl
theorem q1115 : (Jvm.Cond.code ({ cls := "WorkMeter$Registers", name := "billedSum", desc := "(III)J" } : Jvm.MethodName) prog_9_method_12_code (4 : Nat) (Option.some Jvm.ClassFile.FieldType.long)) ∈ xTT := xw5 (i := 155) rfl rfl
theorem q1116 : (Jvm.Cond.methodLink "WorkMeter$Registers" (56 : Nat) ({ cls := "WorkMeter$Registers", name := "rowOf", desc := "(I)I" } : Jvm.MethodName)) ∈ xTT := xw5 (i := 156) rfl rfl
theorem q1118 : (Jvm.Cond.instanceMethod ({ cls := "WorkMeter$Registers", name := "rowOf", desc := "(I)I" } : Jvm.MethodName)) ∈ xTT := xw5 (i := 158) rfl rfl
theorem q1119 : (Jvm.Cond.code ({ cls := "WorkMeter$Registers", name := "rowOf", desc := "(I)I" } : Jvm.MethodName) prog_9_method_9_code (2 : Nat) (Option.some Jvm.ClassFile.FieldType.int)) ∈ xTT := xw5 (i := 159) rfl rfl
theorem q1120 : (Jvm.Cond.methodLink "WorkMeterLaw" (162 : Nat) ({ cls := "WorkMeter", name := "bills", desc := "(II)J" } : Jvm.MethodName)) ∈ xTT := xw5 (i := 160) rfl rfl
theorem q1121 : (Jvm.Cond.instanceMethod ({ cls := "WorkMeter", name := "bills", desc := "(II)J" } : Jvm.MethodName)) ∈ xTT := xw5 (i := 161) rfl rfl
theorem q1122 : (Jvm.Cond.selects "WorkMeter" ({ cls := "WorkMeter", name := "bills", desc := "(II)J" } : Jvm.MethodName) ({ cls := "WorkMeter", name := "bills", desc := "(II)J" } : Jvm.MethodName)) ∈ xTT := xw5 (i := 162) rfl rfl
theorem q1123 : (Jvm.Cond.code ({ cls := "WorkMeter", name := "bills", desc := "(II)J" } : Jvm.MethodName) prog_1_method_36_code (3 : Nat) (Option.some Jvm.ClassFile.FieldType.long)) ∈ xTT := xw5 (i := 163) rfl rfl
theorem q1124 : (Jvm.Cond.methodLink "WorkMeter" (328 : Nat) ({ cls := "WorkMeter$Registers", name := "billTime", desc := "(I)J" } : Jvm.MethodName)) ∈ xTT := xw5 (i := 164) rfl rfl
theorem q1125 : (Jvm.Cond.instanceMethod ({ cls := "WorkMeter$Registers", name := "billTime", desc := "(I)J" } : Jvm.MethodName)) ∈ xTT := xw5 (i := 165) rfl rfl
theorem q1126 : (Jvm.Cond.selects "WorkMeter$Registers" ({ cls := "WorkMeter$Registers", name := "billTime", desc := "(I)J" } : Jvm.MethodName) ({ cls := "WorkMeter$Registers", name := "billTime", desc := "(I)J" } : Jvm.MethodName)) ∈ xTT := xw5 (i := 166) rfl rfl
theorem q1127 : (Jvm.Cond.code ({ cls := "WorkMeter$Registers", name := "billTime", desc := "(I)J" } : Jvm.MethodName) prog_9_method_10_code (2 : Nat) (Option.some Jvm.ClassFile.FieldType.long)) ∈ xTT := xw5 (i := 167) rfl rfl
theorem q1128 : (Jvm.Cond.methodLink "WorkMeter" (331 : Nat) ({ cls := "WorkMeter$Registers", name := "billMost", desc := "(II)J" } : Jvm.MethodName)) ∈ xTT := xw5 (i := 168) rfl rfl
theorem q1129 : (Jvm.Cond.instanceMethod ({ cls := "WorkMeter$Registers", name := "billMost", desc := "(II)J" } : Jvm.MethodName)) ∈ xTT := xw5 (i := 169) rfl rfl
theorem q1130 : (Jvm.Cond.selects "WorkMeter$Registers" ({ cls := "WorkMeter$Registers", name := "billMost", desc := "(II)J" } : Jvm.MethodName) ({ cls := "WorkMeter$Registers", name := "billMost", desc := "(II)J" } : Jvm.MethodName)) ∈ xTT := xw5 (i := 170) rfl rfl
theorem q1131 : (Jvm.Cond.code ({ cls := "WorkMeter$Registers", name := "billMost", desc := "(II)J" } : Jvm.MethodName) prog_9_method_11_code (3 : Nat) (Option.some Jvm.ClassFile.FieldType.long)) ∈ xTT := xw5 (i := 171) rfl rfl
theorem q1132 : (Jvm.Cond.methodLink "WorkMeterLaw" (166 : Nat) ({ cls := "WorkMeter", name := "money", desc := "(II)J" } : Jvm.MethodName)) ∈ xTT := xw5 (i := 172) rfl rfl
theorem q1133 : (Jvm.Cond.instanceMethod ({ cls := "WorkMeter", name := "money", desc := "(II)J" } : Jvm.MethodName)) ∈ xTT := xw5 (i := 173) rfl rfl
theorem q1134 : (Jvm.Cond.selects "WorkMeter" ({ cls := "WorkMeter", name := "money", desc := "(II)J" } : Jvm.MethodName) ({ cls := "WorkMeter", name := "money", desc := "(II)J" } : Jvm.MethodName)) ∈ xTT := xw5 (i := 174) rfl rfl
theorem q1135 : (Jvm.Cond.code ({ cls := "WorkMeter", name := "money", desc := "(II)J" } : Jvm.MethodName) prog_1_method_37_code (9 : Nat) (Option.some Jvm.ClassFile.FieldType.long)) ∈ xTT := xw5 (i := 175) rfl rfl
theorem q1136 : (Jvm.Cond.methodLink "WorkMeter" (334 : Nat) ({ cls := "WorkMeter$Registers", name := "moneyHundredths", desc := "(ILWorkMeter$Settings;)J" } : Jvm.MethodName)) ∈ xTT := xw5 (i := 176) rfl rfl
theorem q1137 : (Jvm.Cond.instanceMethod ({ cls := "WorkMeter$Registers", name := "moneyHundredths", desc := "(ILWorkMeter$Settings;)J" } : Jvm.MethodName)) ∈ xTT := xw5 (i := 177) rfl rfl
theorem q1138 : (Jvm.Cond.selects "WorkMeter$Registers" ({ cls := "WorkMeter$Registers", name := "moneyHundredths", desc := "(ILWorkMeter$Settings;)J" } : Jvm.MethodName) ({ cls := "WorkMeter$Registers", name := "moneyHundredths", desc := "(ILWorkMeter$Settings;)J" } : Jvm.MethodName)) ∈ xTT := xw5 (i := 178) rfl rfl
theorem q1139 : (Jvm.Cond.code ({ cls := "WorkMeter$Registers", name := "moneyHundredths", desc := "(ILWorkMeter$Settings;)J" } : Jvm.MethodName) prog_9_method_13_code (11 : Nat) (Option.some Jvm.ClassFile.FieldType.long)) ∈ xTT := xw5 (i := 179) rfl rfl
theorem q1140 : (Jvm.Cond.methodLink "WorkMeter$Registers" (60 : Nat) ({ cls := "WorkMeter$Registers", name := "billedSum", desc := "(III)J" } : Jvm.MethodName)) ∈ xTT := xw5 (i := 180) rfl rfl
theorem q1141 : (Jvm.Cond.methodLink "WorkMeter$Registers" (64 : Nat) ({ cls := "WorkMeter$Settings", name := "priceOf", desc := "(I)I" } : Jvm.MethodName)) ∈ xTT := xw5 (i := 181) rfl rfl
theorem q1142 : (Jvm.Cond.methodLink "WorkMeter$Registers" (69 : Nat) ({ cls := "WorkMeter$Registers", name := "billMost", desc := "(II)J" } : Jvm.MethodName)) ∈ xTT := xw5 (i := 182) rfl rfl
theorem q1143 : (Jvm.Cond.methodLink "WorkMeter$Registers" (73 : Nat) ({ cls := "java/lang/Math", name := "max", desc := "(JJ)J" } : Jvm.MethodName)) ∈ xTT := xw5 (i := 183) rfl rfl
theorem q1144 : (Jvm.Cond.methodLink "WorkMeter$Registers" (77 : Nat) ({ cls := "WorkMeter$Settings", name := "value", desc := "(I)I" } : Jvm.MethodName)) ∈ xTT := xw5 (i := 184) rfl rfl
theorem q1145 : (Jvm.Cond.instanceMethod ({ cls := "WorkMeter$Settings", name := "value", desc := "(I)I" } : Jvm.MethodName)) ∈ xTT := xw5 (i := 185) rfl rfl
theorem q1146 : (Jvm.Cond.selects "WorkMeter$Settings" ({ cls := "WorkMeter$Settings", name := "value", desc := "(I)I" } : Jvm.MethodName) ({ cls := "WorkMeter$Settings", name := "value", desc := "(I)I" } : Jvm.MethodName)) ∈ xTT := xw5 (i := 186) rfl rfl
theorem q1147 : (Jvm.Cond.code ({ cls := "WorkMeter$Settings", name := "value", desc := "(I)I" } : Jvm.MethodName) prog_11_method_6_code (3 : Nat) (Option.some Jvm.ClassFile.FieldType.int)) ∈ xTT := xw5 (i := 187) rfl rfl
theorem q1148 : (Jvm.Cond.constantLong "WorkMeter$Registers" (80 : Nat) (100 : Int64)) ∈ xTT := xw5 (i := 188) rfl rfl
theorem q1149 : (Jvm.Cond.constantLong "WorkMeter" (338 : Nat) (100 : Int64)) ∈ xTT := xw5 (i := 189) rfl rfl
theorem q1150 : (Jvm.Cond.methodLink "WorkMeter" (340 : Nat) ({ cls := "WorkMeter", name := "commonDivisor", desc := "(JJ)J" } : Jvm.MethodName)) ∈ xTT := xw5 (i := 190) rfl rfl
theorem q1151 : (Jvm.Cond.static ({ cls := "WorkMeter", name := "commonDivisor", desc := "(JJ)J" } : Jvm.MethodName)) ∈ xTT := xw5 (i := 191) rfl rfl
theorem q1152 : (Jvm.Cond.code ({ cls := "WorkMeter", name := "commonDivisor", desc := "(JJ)J" } : Jvm.MethodName) prog_1_method_53_code (11 : Nat) (Option.some Jvm.ClassFile.FieldType.long)) ∈ xTT := xw5 (i := 192) rfl rfl
theorem q1153 : (Jvm.Cond.methodLink "WorkMeterLaw" (170 : Nat) ({ cls := "WorkMeter", name := "would", desc := "(II)J" } : Jvm.MethodName)) ∈ xTT := xw5 (i := 193) rfl rfl
theorem q1154 : (Jvm.Cond.instanceMethod ({ cls := "WorkMeter", name := "would", desc := "(II)J" } : Jvm.MethodName)) ∈ xTT := xw5 (i := 194) rfl rfl
theorem q1155 : (Jvm.Cond.selects "WorkMeter" ({ cls := "WorkMeter", name := "would", desc := "(II)J" } : Jvm.MethodName) ({ cls := "WorkMeter", name := "would", desc := "(II)J" } : Jvm.MethodName)) ∈ xTT := xw5 (i := 195) rfl rfl
theorem q1156 : (Jvm.Cond.code ({ cls := "WorkMeter", name := "would", desc := "(II)J" } : Jvm.MethodName) prog_1_method_38_code (3 : Nat) (Option.some Jvm.ClassFile.FieldType.long)) ∈ xTT := xw5 (i := 196) rfl rfl
theorem q1157 : (Jvm.Cond.methodLink "WorkMeter" (344 : Nat) ({ cls := "WorkMeter$Meter", name := "copyFrom", desc := "(LWorkMeter$Meter;)V" } : Jvm.MethodName)) ∈ xTT := xw5 (i := 197) rfl rfl
theorem q1158 : (Jvm.Cond.instanceMethod ({ cls := "WorkMeter$Meter", name := "copyFrom", desc := "(LWorkMeter$Meter;)V" } : Jvm.MethodName)) ∈ xTT := xw5 (i := 198) rfl rfl
theorem q1159 : (Jvm.Cond.selects "WorkMeter$Meter" ({ cls := "WorkMeter$Meter", name := "copyFrom", desc := "(LWorkMeter$Meter;)V" } : Jvm.MethodName) ({ cls := "WorkMeter$Meter", name := "copyFrom", desc := "(LWorkMeter$Meter;)V" } : Jvm.MethodName)) ∈ xTT := xw5 (i := 199) rfl rfl
theorem q1160 : (Jvm.Cond.code ({ cls := "WorkMeter$Meter", name := "copyFrom", desc := "(LWorkMeter$Meter;)V" } : Jvm.MethodName) prog_8_method_2_code (2 : Nat) (Option.none : Option Jvm.ClassFile.FieldType)) ∈ xTT := xw5 (i := 200) rfl rfl
theorem q1161 : (Jvm.Cond.methodLink "WorkMeter$Meter" (74 : Nat) ({ cls := "WorkMeter$Settings", name := "copyFrom", desc := "(LWorkMeter$Settings;)V" } : Jvm.MethodName)) ∈ xTT := xw5 (i := 201) rfl rfl
theorem q1162 : (Jvm.Cond.instanceMethod ({ cls := "WorkMeter$Settings", name := "copyFrom", desc := "(LWorkMeter$Settings;)V" } : Jvm.MethodName)) ∈ xTT := xw5 (i := 202) rfl rfl
theorem q1163 : (Jvm.Cond.selects "WorkMeter$Settings" ({ cls := "WorkMeter$Settings", name := "copyFrom", desc := "(LWorkMeter$Settings;)V" } : Jvm.MethodName) ({ cls := "WorkMeter$Settings", name := "copyFrom", desc := "(LWorkMeter$Settings;)V" } : Jvm.MethodName)) ∈ xTT := xw5 (i := 203) rfl rfl
theorem q1164 : (Jvm.Cond.code ({ cls := "WorkMeter$Settings", name := "copyFrom", desc := "(LWorkMeter$Settings;)V" } : Jvm.MethodName) prog_11_method_2_code (2 : Nat) (Option.none : Option Jvm.ClassFile.FieldType)) ∈ xTT := xw5 (i := 204) rfl rfl
theorem q1165 : (Jvm.Cond.methodLink "WorkMeter$Meter" (78 : Nat) ({ cls := "WorkMeter$Calendar", name := "copyFrom", desc := "(LWorkMeter$Calendar;)V" } : Jvm.MethodName)) ∈ xTT := xw5 (i := 205) rfl rfl
theorem q1166 : (Jvm.Cond.methodLink "WorkMeter$Meter" (81 : Nat) ({ cls := "WorkMeter$Wave", name := "copyFrom", desc := "(LWorkMeter$Wave;)V" } : Jvm.MethodName)) ∈ xTT := xw5 (i := 206) rfl rfl
theorem q1167 : (Jvm.Cond.instanceMethod ({ cls := "WorkMeter$Wave", name := "copyFrom", desc := "(LWorkMeter$Wave;)V" } : Jvm.MethodName)) ∈ xTT := xw5 (i := 207) rfl rfl
theorem q1168 : (Jvm.Cond.selects "WorkMeter$Wave" ({ cls := "WorkMeter$Wave", name := "copyFrom", desc := "(LWorkMeter$Wave;)V" } : Jvm.MethodName) ({ cls := "WorkMeter$Wave", name := "copyFrom", desc := "(LWorkMeter$Wave;)V" } : Jvm.MethodName)) ∈ xTT := xw5 (i := 208) rfl rfl
theorem q1169 : (Jvm.Cond.code ({ cls := "WorkMeter$Wave", name := "copyFrom", desc := "(LWorkMeter$Wave;)V" } : Jvm.MethodName) prog_12_method_2_code (2 : Nat) (Option.none : Option Jvm.ClassFile.FieldType)) ∈ xTT := xw5 (i := 209) rfl rfl
theorem q1170 : (Jvm.Cond.methodLink "WorkMeter$Wave" (29 : Nat) ({ cls := "java/lang/System", name := "arraycopy", desc := "(Ljava/lang/Object;ILjava/lang/Object;II)V" } : Jvm.MethodName)) ∈ xTT := xw5 (i := 210) rfl rfl
theorem q1171 : (Jvm.Cond.methodLink "WorkMeter$Meter" (84 : Nat) ({ cls := "WorkMeter$Registers", name := "copyFrom", desc := "(LWorkMeter$Registers;)V" } : Jvm.MethodName)) ∈ xTT := xw5 (i := 211) rfl rfl
theorem q1172 : (Jvm.Cond.instanceMethod ({ cls := "WorkMeter$Registers", name := "copyFrom", desc := "(LWorkMeter$Registers;)V" } : Jvm.MethodName)) ∈ xTT := xw5 (i := 212) rfl rfl
theorem q1173 : (Jvm.Cond.selects "WorkMeter$Registers" ({ cls := "WorkMeter$Registers", name := "copyFrom", desc := "(LWorkMeter$Registers;)V" } : Jvm.MethodName) ({ cls := "WorkMeter$Registers", name := "copyFrom", desc := "(LWorkMeter$Registers;)V" } : Jvm.MethodName)) ∈ xTT := xw5 (i := 213) rfl rfl
theorem q1174 : (Jvm.Cond.code ({ cls := "WorkMeter$Registers", name := "copyFrom", desc := "(LWorkMeter$Registers;)V" } : Jvm.MethodName) prog_9_method_2_code (2 : Nat) (Option.none : Option Jvm.ClassFile.FieldType)) ∈ xTT := xw5 (i := 214) rfl rfl
theorem q1175 : (Jvm.Cond.methodLink "WorkMeter$Meter" (87 : Nat) ({ cls := "WorkMeter$Load", name := "copyFrom", desc := "(LWorkMeter$Load;)V" } : Jvm.MethodName)) ∈ xTT := xw5 (i := 215) rfl rfl
theorem q1176 : (Jvm.Cond.instanceMethod ({ cls := "WorkMeter$Load", name := "copyFrom", desc := "(LWorkMeter$Load;)V" } : Jvm.MethodName)) ∈ xTT := xw5 (i := 216) rfl rfl
theorem q1177 : (Jvm.Cond.selects "WorkMeter$Load" ({ cls := "WorkMeter$Load", name := "copyFrom", desc := "(LWorkMeter$Load;)V" } : Jvm.MethodName) ({ cls := "WorkMeter$Load", name := "copyFrom", desc := "(LWorkMeter$Load;)V" } : Jvm.MethodName)) ∈ xTT := xw5 (i := 217) rfl rfl
theorem q1178 : (Jvm.Cond.code ({ cls := "WorkMeter$Load", name := "copyFrom", desc := "(LWorkMeter$Load;)V" } : Jvm.MethodName) prog_5_method_2_code (2 : Nat) (Option.none : Option Jvm.ClassFile.FieldType)) ∈ xTT := xw5 (i := 218) rfl rfl
theorem q1179 : (Jvm.Cond.methodLink "WorkMeter$Load" (18 : Nat) ({ cls := "java/lang/System", name := "arraycopy", desc := "(Ljava/lang/Object;ILjava/lang/Object;II)V" } : Jvm.MethodName)) ∈ xTT := xw5 (i := 219) rfl rfl
theorem q1180 : (Jvm.Cond.methodLink "WorkMeter$Meter" (90 : Nat) ({ cls := "WorkMeter$Demand", name := "copyFrom", desc := "(LWorkMeter$Demand;)V" } : Jvm.MethodName)) ∈ xTT := xw5 (i := 220) rfl rfl
theorem q1181 : (Jvm.Cond.instanceMethod ({ cls := "WorkMeter$Demand", name := "copyFrom", desc := "(LWorkMeter$Demand;)V" } : Jvm.MethodName)) ∈ xTT := xw5 (i := 221) rfl rfl
theorem q1182 : (Jvm.Cond.selects "WorkMeter$Demand" ({ cls := "WorkMeter$Demand", name := "copyFrom", desc := "(LWorkMeter$Demand;)V" } : Jvm.MethodName) ({ cls := "WorkMeter$Demand", name := "copyFrom", desc := "(LWorkMeter$Demand;)V" } : Jvm.MethodName)) ∈ xTT := xw5 (i := 222) rfl rfl
theorem q1183 : (Jvm.Cond.code ({ cls := "WorkMeter$Demand", name := "copyFrom", desc := "(LWorkMeter$Demand;)V" } : Jvm.MethodName) prog_4_method_3_code (2 : Nat) (Option.none : Option Jvm.ClassFile.FieldType)) ∈ xTT := xw5 (i := 223) rfl rfl
theorem q1184 : (Jvm.Cond.methodLink "WorkMeter$Demand" (41 : Nat) ({ cls := "java/lang/System", name := "arraycopy", desc := "(Ljava/lang/Object;ILjava/lang/Object;II)V" } : Jvm.MethodName)) ∈ xTT := xw5 (i := 224) rfl rfl
theorem q1185 : (Jvm.Cond.methodLink "WorkMeter$Meter" (93 : Nat) ({ cls := "WorkMeter$Marks", name := "copyFrom", desc := "(LWorkMeter$Marks;)V" } : Jvm.MethodName)) ∈ xTT := xw5 (i := 225) rfl rfl
theorem q1186 : (Jvm.Cond.instanceMethod ({ cls := "WorkMeter$Marks", name := "copyFrom", desc := "(LWorkMeter$Marks;)V" } : Jvm.MethodName)) ∈ xTT := xw5 (i := 226) rfl rfl
theorem q1187 : (Jvm.Cond.selects "WorkMeter$Marks" ({ cls := "WorkMeter$Marks", name := "copyFrom", desc := "(LWorkMeter$Marks;)V" } : Jvm.MethodName) ({ cls := "WorkMeter$Marks", name := "copyFrom", desc := "(LWorkMeter$Marks;)V" } : Jvm.MethodName)) ∈ xTT := xw5 (i := 227) rfl rfl
theorem q1188 : (Jvm.Cond.code ({ cls := "WorkMeter$Marks", name := "copyFrom", desc := "(LWorkMeter$Marks;)V" } : Jvm.MethodName) prog_7_method_2_code (2 : Nat) (Option.none : Option Jvm.ClassFile.FieldType)) ∈ xTT := xw5 (i := 228) rfl rfl
theorem q1189 : (Jvm.Cond.methodLink "WorkMeter$Marks" (19 : Nat) ({ cls := "java/lang/System", name := "arraycopy", desc := "(Ljava/lang/Object;ILjava/lang/Object;II)V" } : Jvm.MethodName)) ∈ xTT := xw5 (i := 229) rfl rfl
theorem q1190 : (Jvm.Cond.methodLink "WorkMeter$Meter" (96 : Nat) ({ cls := "WorkMeter$Logbook", name := "copyFrom", desc := "(LWorkMeter$Logbook;)V" } : Jvm.MethodName)) ∈ xTT := xw5 (i := 230) rfl rfl
theorem q1191 : (Jvm.Cond.instanceMethod ({ cls := "WorkMeter$Logbook", name := "copyFrom", desc := "(LWorkMeter$Logbook;)V" } : Jvm.MethodName)) ∈ xTT := xw5 (i := 231) rfl rfl
theorem q1192 : (Jvm.Cond.selects "WorkMeter$Logbook" ({ cls := "WorkMeter$Logbook", name := "copyFrom", desc := "(LWorkMeter$Logbook;)V" } : Jvm.MethodName) ({ cls := "WorkMeter$Logbook", name := "copyFrom", desc := "(LWorkMeter$Logbook;)V" } : Jvm.MethodName)) ∈ xTT := xw5 (i := 232) rfl rfl
theorem q1193 : (Jvm.Cond.code ({ cls := "WorkMeter$Logbook", name := "copyFrom", desc := "(LWorkMeter$Logbook;)V" } : Jvm.MethodName) prog_6_method_2_code (2 : Nat) (Option.none : Option Jvm.ClassFile.FieldType)) ∈ xTT := xw5 (i := 233) rfl rfl
theorem q1194 : (Jvm.Cond.methodLink "WorkMeter$Logbook" (13 : Nat) ({ cls := "java/lang/System", name := "arraycopy", desc := "(Ljava/lang/Object;ILjava/lang/Object;II)V" } : Jvm.MethodName)) ∈ xTT := xw5 (i := 234) rfl rfl
theorem q1195 : (Jvm.Cond.methodLink "WorkMeter$Meter" (99 : Nat) ({ cls := "WorkMeter$Seal", name := "copyFrom", desc := "(LWorkMeter$Seal;)V" } : Jvm.MethodName)) ∈ xTT := xw5 (i := 235) rfl rfl
theorem q1196 : (Jvm.Cond.instanceMethod ({ cls := "WorkMeter$Seal", name := "copyFrom", desc := "(LWorkMeter$Seal;)V" } : Jvm.MethodName)) ∈ xTT := xw5 (i := 236) rfl rfl
theorem q1197 : (Jvm.Cond.selects "WorkMeter$Seal" ({ cls := "WorkMeter$Seal", name := "copyFrom", desc := "(LWorkMeter$Seal;)V" } : Jvm.MethodName) ({ cls := "WorkMeter$Seal", name := "copyFrom", desc := "(LWorkMeter$Seal;)V" } : Jvm.MethodName)) ∈ xTT := xw5 (i := 237) rfl rfl
theorem q1198 : (Jvm.Cond.code ({ cls := "WorkMeter$Seal", name := "copyFrom", desc := "(LWorkMeter$Seal;)V" } : Jvm.MethodName) prog_10_method_2_code (2 : Nat) (Option.none : Option Jvm.ClassFile.FieldType)) ∈ xTT := xw5 (i := 238) rfl rfl
theorem q1199 : (Jvm.Cond.methodLink "WorkMeter" (347 : Nat) ({ cls := "WorkMeter$Demand", name := "mostOfAll", desc := "()J" } : Jvm.MethodName)) ∈ xTT := xw5 (i := 239) rfl rfl
theorem q1200 : (Jvm.Cond.instanceMethod ({ cls := "WorkMeter$Demand", name := "mostOfAll", desc := "()J" } : Jvm.MethodName)) ∈ xTT := xw6 (i := 0) rfl rfl
theorem q1201 : (Jvm.Cond.selects "WorkMeter$Demand" ({ cls := "WorkMeter$Demand", name := "mostOfAll", desc := "()J" } : Jvm.MethodName) ({ cls := "WorkMeter$Demand", name := "mostOfAll", desc := "()J" } : Jvm.MethodName)) ∈ xTT := xw6 (i := 1) rfl rfl
theorem q1202 : (Jvm.Cond.code ({ cls := "WorkMeter$Demand", name := "mostOfAll", desc := "()J" } : Jvm.MethodName) prog_4_method_6_code (4 : Nat) (Option.some Jvm.ClassFile.FieldType.long)) ∈ xTT := xw6 (i := 2) rfl rfl
theorem q1203 : (Jvm.Cond.methodLink "WorkMeter$Demand" (66 : Nat) ({ cls := "java/lang/Math", name := "max", desc := "(JJ)J" } : Jvm.MethodName)) ∈ xTT := xw6 (i := 3) rfl rfl
theorem q1204 : (Jvm.Cond.methodLink "WorkMeterLaw" (174 : Nat) ({ cls := "WorkMeter", name := "cost", desc := "(I)J" } : Jvm.MethodName)) ∈ xTT := xw6 (i := 4) rfl rfl
theorem q1205 : (Jvm.Cond.instanceMethod ({ cls := "WorkMeter", name := "cost", desc := "(I)J" } : Jvm.MethodName)) ∈ xTT := xw6 (i := 5) rfl rfl
theorem q1206 : (Jvm.Cond.selects "WorkMeter" ({ cls := "WorkMeter", name := "cost", desc := "(I)J" } : Jvm.MethodName) ({ cls := "WorkMeter", name := "cost", desc := "(I)J" } : Jvm.MethodName)) ∈ xTT := xw6 (i := 6) rfl rfl
theorem q1207 : (Jvm.Cond.code ({ cls := "WorkMeter", name := "cost", desc := "(I)J" } : Jvm.MethodName) prog_1_method_39_code (2 : Nat) (Option.some Jvm.ClassFile.FieldType.long)) ∈ xTT := xw6 (i := 7) rfl rfl
theorem q1208 : (Jvm.Cond.methodLink "WorkMeter" (357 : Nat) ({ cls := "WorkMeter$Calendar", name := "costOf", desc := "(IILWorkMeter$Settings;)J" } : Jvm.MethodName)) ∈ xTT := xw6 (i := 8) rfl rfl
theorem q1209 : (Jvm.Cond.instanceMethod ({ cls := "WorkMeter$Calendar", name := "costOf", desc := "(IILWorkMeter$Settings;)J" } : Jvm.MethodName)) ∈ xTT := xw6 (i := 9) rfl rfl
theorem q1210 : (Jvm.Cond.selects "WorkMeter$Calendar" ({ cls := "WorkMeter$Calendar", name := "costOf", desc := "(IILWorkMeter$Settings;)J" } : Jvm.MethodName) ({ cls := "WorkMeter$Calendar", name := "costOf", desc := "(IILWorkMeter$Settings;)J" } : Jvm.MethodName)) ∈ xTT := xw6 (i := 10) rfl rfl
theorem q1211 : (Jvm.Cond.code ({ cls := "WorkMeter$Calendar", name := "costOf", desc := "(IILWorkMeter$Settings;)J" } : Jvm.MethodName) prog_2_method_18_code (10 : Nat) (Option.some Jvm.ClassFile.FieldType.long)) ∈ xTT := xw6 (i := 11) rfl rfl
theorem q1212 : (Jvm.Cond.methodLink "WorkMeter$Calendar" (86 : Nat) ({ cls := "WorkMeter$Settings", name := "priceOf", desc := "(I)I" } : Jvm.MethodName)) ∈ xTT := xw6 (i := 12) rfl rfl
theorem q1213 : (Jvm.Cond.methodLink "WorkMeterLaw" (178 : Nat) ({ cls := "WorkMeter", name := "cheapest", desc := "(II)J" } : Jvm.MethodName)) ∈ xTT := xw6 (i := 13) rfl rfl
theorem q1214 : (Jvm.Cond.instanceMethod ({ cls := "WorkMeter", name := "cheapest", desc := "(II)J" } : Jvm.MethodName)) ∈ xTT := xw6 (i := 14) rfl rfl
theorem q1215 : (Jvm.Cond.selects "WorkMeter" ({ cls := "WorkMeter", name := "cheapest", desc := "(II)J" } : Jvm.MethodName) ({ cls := "WorkMeter", name := "cheapest", desc := "(II)J" } : Jvm.MethodName)) ∈ xTT := xw6 (i := 15) rfl rfl
theorem q1216 : (Jvm.Cond.code ({ cls := "WorkMeter", name := "cheapest", desc := "(II)J" } : Jvm.MethodName) prog_1_method_40_code (10 : Nat) (Option.some Jvm.ClassFile.FieldType.long)) ∈ xTT := xw6 (i := 16) rfl rfl
theorem q1217 : (Jvm.Cond.constant "WorkMeter" (361 : Nat) (85500 : Int32)) ∈ xTT := xw6 (i := 17) rfl rfl
theorem q1218 : (Jvm.Cond.methodLink "WorkMeterLaw" (182 : Nat) ({ cls := "WorkMeter", name := "lasts", desc := "()I" } : Jvm.MethodName)) ∈ xTT := xw6 (i := 18) rfl rfl
theorem q1219 : (Jvm.Cond.instanceMethod ({ cls := "WorkMeter", name := "lasts", desc := "()I" } : Jvm.MethodName)) ∈ xTT := xw6 (i := 19) rfl rfl
theorem q1220 : (Jvm.Cond.selects "WorkMeter" ({ cls := "WorkMeter", name := "lasts", desc := "()I" } : Jvm.MethodName) ({ cls := "WorkMeter", name := "lasts", desc := "()I" } : Jvm.MethodName)) ∈ xTT := xw6 (i := 20) rfl rfl
theorem q1221 : (Jvm.Cond.code ({ cls := "WorkMeter", name := "lasts", desc := "()I" } : Jvm.MethodName) prog_1_method_41_code (1 : Nat) (Option.some Jvm.ClassFile.FieldType.int)) ∈ xTT := xw6 (i := 21) rfl rfl
theorem q1222 : (Jvm.Cond.methodLink "WorkMeter" (362 : Nat) ({ cls := "WorkMeter$Meter", name := "secondsTillOpen", desc := "(I)I" } : Jvm.MethodName)) ∈ xTT := xw6 (i := 22) rfl rfl
theorem q1223 : (Jvm.Cond.instanceMethod ({ cls := "WorkMeter$Meter", name := "secondsTillOpen", desc := "(I)I" } : Jvm.MethodName)) ∈ xTT := xw6 (i := 23) rfl rfl
theorem q1224 : (Jvm.Cond.selects "WorkMeter$Meter" ({ cls := "WorkMeter$Meter", name := "secondsTillOpen", desc := "(I)I" } : Jvm.MethodName) ({ cls := "WorkMeter$Meter", name := "secondsTillOpen", desc := "(I)I" } : Jvm.MethodName)) ∈ xTT := xw6 (i := 24) rfl rfl
theorem q1225 : (Jvm.Cond.code ({ cls := "WorkMeter$Meter", name := "secondsTillOpen", desc := "(I)I" } : Jvm.MethodName) prog_8_method_12_code (4 : Nat) (Option.some Jvm.ClassFile.FieldType.int)) ∈ xTT := xw6 (i := 25) rfl rfl
theorem q1226 : (Jvm.Cond.methodLink "WorkMeterLaw" (186 : Nat) ({ cls := "WorkMeter", name := "lost", desc := "(I)J" } : Jvm.MethodName)) ∈ xTT := xw6 (i := 26) rfl rfl
theorem q1227 : (Jvm.Cond.instanceMethod ({ cls := "WorkMeter", name := "lost", desc := "(I)J" } : Jvm.MethodName)) ∈ xTT := xw6 (i := 27) rfl rfl
theorem q1228 : (Jvm.Cond.selects "WorkMeter" ({ cls := "WorkMeter", name := "lost", desc := "(I)J" } : Jvm.MethodName) ({ cls := "WorkMeter", name := "lost", desc := "(I)J" } : Jvm.MethodName)) ∈ xTT := xw6 (i := 28) rfl rfl
theorem q1229 : (Jvm.Cond.code ({ cls := "WorkMeter", name := "lost", desc := "(I)J" } : Jvm.MethodName) prog_1_method_42_code (2 : Nat) (Option.some Jvm.ClassFile.FieldType.long)) ∈ xTT := xw6 (i := 29) rfl rfl
theorem q1230 : (Jvm.Cond.methodLink "WorkMeterLaw" (190 : Nat) ({ cls := "WorkMeter", name := "best", desc := "(II)J" } : Jvm.MethodName)) ∈ xTT := xw6 (i := 30) rfl rfl
theorem q1231 : (Jvm.Cond.instanceMethod ({ cls := "WorkMeter", name := "best", desc := "(II)J" } : Jvm.MethodName)) ∈ xTT := xw6 (i := 31) rfl rfl
theorem q1232 : (Jvm.Cond.selects "WorkMeter" ({ cls := "WorkMeter", name := "best", desc := "(II)J" } : Jvm.MethodName) ({ cls := "WorkMeter", name := "best", desc := "(II)J" } : Jvm.MethodName)) ∈ xTT := xw6 (i := 32) rfl rfl
theorem q1233 : (Jvm.Cond.code ({ cls := "WorkMeter", name := "best", desc := "(II)J" } : Jvm.MethodName) prog_1_method_43_code (4 : Nat) (Option.some Jvm.ClassFile.FieldType.long)) ∈ xTT := xw6 (i := 33) rfl rfl
theorem q1234 : (Jvm.Cond.methodLink "WorkMeter" (368 : Nat) ({ cls := "WorkMeter$Load", name := "bestRun", desc := "(I)I" } : Jvm.MethodName)) ∈ xTT := xw6 (i := 34) rfl rfl
theorem q1235 : (Jvm.Cond.instanceMethod ({ cls := "WorkMeter$Load", name := "bestRun", desc := "(I)I" } : Jvm.MethodName)) ∈ xTT := xw6 (i := 35) rfl rfl
theorem q1236 : (Jvm.Cond.selects "WorkMeter$Load" ({ cls := "WorkMeter$Load", name := "bestRun", desc := "(I)I" } : Jvm.MethodName) ({ cls := "WorkMeter$Load", name := "bestRun", desc := "(I)I" } : Jvm.MethodName)) ∈ xTT := xw6 (i := 36) rfl rfl
theorem q1237 : (Jvm.Cond.code ({ cls := "WorkMeter$Load", name := "bestRun", desc := "(I)I" } : Jvm.MethodName) prog_5_method_12_code (8 : Nat) (Option.some Jvm.ClassFile.FieldType.int)) ∈ xTT := xw6 (i := 37) rfl rfl
theorem q1238 : (Jvm.Cond.methodLink "WorkMeter$Load" (68 : Nat) ({ cls := "WorkMeter$Load", name := "importOf", desc := "(II)J" } : Jvm.MethodName)) ∈ xTT := xw6 (i := 38) rfl rfl
theorem q1239 : (Jvm.Cond.methodLink "WorkMeter$Load" (71 : Nat) ({ cls := "WorkMeter$Load", name := "linesKept", desc := "()I" } : Jvm.MethodName)) ∈ xTT := xw6 (i := 39) rfl rfl
theorem q1240 : (Jvm.Cond.methodLink "WorkMeter" (371 : Nat) ({ cls := "WorkMeter$Load", name := "importOf", desc := "(II)J" } : Jvm.MethodName)) ∈ xTT := xw6 (i := 40) rfl rfl
theorem q1241 : (Jvm.Cond.methodLink "WorkMeterLaw" (194 : Nat) ({ cls := "WorkMeter", name := "between", desc := "(II)J" } : Jvm.MethodName)) ∈ xTT := xw6 (i := 41) rfl rfl
theorem q1242 : (Jvm.Cond.instanceMethod ({ cls := "WorkMeter", name := "between", desc := "(II)J" } : Jvm.MethodName)) ∈ xTT := xw6 (i := 42) rfl rfl
theorem q1243 : (Jvm.Cond.selects "WorkMeter" ({ cls := "WorkMeter", name := "between", desc := "(II)J" } : Jvm.MethodName) ({ cls := "WorkMeter", name := "between", desc := "(II)J" } : Jvm.MethodName)) ∈ xTT := xw6 (i := 43) rfl rfl
theorem q1244 : (Jvm.Cond.code ({ cls := "WorkMeter", name := "between", desc := "(II)J" } : Jvm.MethodName) prog_1_method_44_code (9 : Nat) (Option.some Jvm.ClassFile.FieldType.long)) ∈ xTT := xw6 (i := 44) rfl rfl
theorem q1245 : (Jvm.Cond.methodLink "WorkMeterLaw" (198 : Nat) ({ cls := "WorkMeter", name := "log", desc := "(II)I" } : Jvm.MethodName)) ∈ xTT := xw6 (i := 45) rfl rfl
theorem q1246 : (Jvm.Cond.instanceMethod ({ cls := "WorkMeter", name := "log", desc := "(II)I" } : Jvm.MethodName)) ∈ xTT := xw6 (i := 46) rfl rfl
theorem q1247 : (Jvm.Cond.selects "WorkMeter" ({ cls := "WorkMeter", name := "log", desc := "(II)I" } : Jvm.MethodName) ({ cls := "WorkMeter", name := "log", desc := "(II)I" } : Jvm.MethodName)) ∈ xTT := xw6 (i := 47) rfl rfl
theorem q1248 : (Jvm.Cond.code ({ cls := "WorkMeter", name := "log", desc := "(II)I" } : Jvm.MethodName) prog_1_method_45_code (3 : Nat) (Option.some Jvm.ClassFile.FieldType.int)) ∈ xTT := xw6 (i := 48) rfl rfl
theorem q1249 : (Jvm.Cond.methodLink "WorkMeter" (374 : Nat) ({ cls := "WorkMeter$Logbook", name := "linesKept", desc := "()I" } : Jvm.MethodName)) ∈ xTT := xw6 (i := 49) rfl rfl
theorem q1250 : (Jvm.Cond.instanceMethod ({ cls := "WorkMeter$Logbook", name := "linesKept", desc := "()I" } : Jvm.MethodName)) ∈ xTT := xw6 (i := 50) rfl rfl
theorem q1251 : (Jvm.Cond.selects "WorkMeter$Logbook" ({ cls := "WorkMeter$Logbook", name := "linesKept", desc := "()I" } : Jvm.MethodName) ({ cls := "WorkMeter$Logbook", name := "linesKept", desc := "()I" } : Jvm.MethodName)) ∈ xTT := xw6 (i := 51) rfl rfl
theorem q1252 : (Jvm.Cond.code ({ cls := "WorkMeter$Logbook", name := "linesKept", desc := "()I" } : Jvm.MethodName) prog_6_method_3_code (1 : Nat) (Option.some Jvm.ClassFile.FieldType.int)) ∈ xTT := xw6 (i := 52) rfl rfl
theorem q1253 : (Jvm.Cond.methodLink "WorkMeter$Logbook" (23 : Nat) ({ cls := "java/lang/Math", name := "min", desc := "(II)I" } : Jvm.MethodName)) ∈ xTT := xw6 (i := 53) rfl rfl
theorem q1254 : (Jvm.Cond.methodLink "WorkMeter" (377 : Nat) ({ cls := "WorkMeter$Logbook", name := "field", desc := "(II)I" } : Jvm.MethodName)) ∈ xTT := xw6 (i := 54) rfl rfl
theorem q1255 : (Jvm.Cond.instanceMethod ({ cls := "WorkMeter$Logbook", name := "field", desc := "(II)I" } : Jvm.MethodName)) ∈ xTT := xw6 (i := 55) rfl rfl
theorem q1256 : (Jvm.Cond.selects "WorkMeter$Logbook" ({ cls := "WorkMeter$Logbook", name := "field", desc := "(II)I" } : Jvm.MethodName) ({ cls := "WorkMeter$Logbook", name := "field", desc := "(II)I" } : Jvm.MethodName)) ∈ xTT := xw6 (i := 56) rfl rfl
theorem q1257 : (Jvm.Cond.code ({ cls := "WorkMeter$Logbook", name := "field", desc := "(II)I" } : Jvm.MethodName) prog_6_method_4_code (3 : Nat) (Option.some Jvm.ClassFile.FieldType.int)) ∈ xTT := xw6 (i := 57) rfl rfl
theorem q1258 : (Jvm.Cond.methodLink "WorkMeterLaw" (202 : Nat) ({ cls := "WorkMeter", name := "holds", desc := "(II)I" } : Jvm.MethodName)) ∈ xTT := xw6 (i := 58) rfl rfl
theorem q1259 : (Jvm.Cond.instanceMethod ({ cls := "WorkMeter", name := "holds", desc := "(II)I" } : Jvm.MethodName)) ∈ xTT := xw6 (i := 59) rfl rfl
theorem q1260 : (Jvm.Cond.selects "WorkMeter" ({ cls := "WorkMeter", name := "holds", desc := "(II)I" } : Jvm.MethodName) ({ cls := "WorkMeter", name := "holds", desc := "(II)I" } : Jvm.MethodName)) ∈ xTT := xw6 (i := 60) rfl rfl
theorem q1261 : (Jvm.Cond.code ({ cls := "WorkMeter", name := "holds", desc := "(II)I" } : Jvm.MethodName) prog_1_method_46_code (3 : Nat) (Option.some Jvm.ClassFile.FieldType.int)) ∈ xTT := xw6 (i := 61) rfl rfl
theorem q1262 : (Jvm.Cond.methodLink "WorkMeter" (380 : Nat) ({ cls := "WorkMeter$Calendar", name := "secondsHeld", desc := "(II)I" } : Jvm.MethodName)) ∈ xTT := xw6 (i := 62) rfl rfl
theorem q1263 : (Jvm.Cond.instanceMethod ({ cls := "WorkMeter$Calendar", name := "secondsHeld", desc := "(II)I" } : Jvm.MethodName)) ∈ xTT := xw6 (i := 63) rfl rfl
theorem q1264 : (Jvm.Cond.selects "WorkMeter$Calendar" ({ cls := "WorkMeter$Calendar", name := "secondsHeld", desc := "(II)I" } : Jvm.MethodName) ({ cls := "WorkMeter$Calendar", name := "secondsHeld", desc := "(II)I" } : Jvm.MethodName)) ∈ xTT := xw6 (i := 64) rfl rfl
theorem q1265 : (Jvm.Cond.code ({ cls := "WorkMeter$Calendar", name := "secondsHeld", desc := "(II)I" } : Jvm.MethodName) prog_2_method_19_code (8 : Nat) (Option.some Jvm.ClassFile.FieldType.int)) ∈ xTT := xw6 (i := 65) rfl rfl
theorem q1266 : (Jvm.Cond.methodLink "WorkMeterLaw" (206 : Nat) ({ cls := "WorkMeter", name := "image", desc := "(Z)Z" } : Jvm.MethodName)) ∈ xTT := xw6 (i := 66) rfl rfl
theorem q1267 : (Jvm.Cond.instanceMethod ({ cls := "WorkMeter", name := "image", desc := "(Z)Z" } : Jvm.MethodName)) ∈ xTT := xw6 (i := 67) rfl rfl
theorem q1268 : (Jvm.Cond.selects "WorkMeter" ({ cls := "WorkMeter", name := "image", desc := "(Z)Z" } : Jvm.MethodName) ({ cls := "WorkMeter", name := "image", desc := "(Z)Z" } : Jvm.MethodName)) ∈ xTT := xw6 (i := 68) rfl rfl
theorem q1269 : (Jvm.Cond.code ({ cls := "WorkMeter", name := "image", desc := "(Z)Z" } : Jvm.MethodName) prog_1_method_47_code (2 : Nat) (Option.some Jvm.ClassFile.FieldType.boolean)) ∈ xTT := xw6 (i := 69) rfl rfl
theorem q1270 : (Jvm.Cond.methodLink "WorkMeterLaw" (210 : Nat) ({ cls := "WorkMeter", name := "look", desc := "(I)J" } : Jvm.MethodName)) ∈ xTT := xw6 (i := 70) rfl rfl
theorem q1271 : (Jvm.Cond.instanceMethod ({ cls := "WorkMeter", name := "look", desc := "(I)J" } : Jvm.MethodName)) ∈ xTT := xw6 (i := 71) rfl rfl
theorem q1272 : (Jvm.Cond.selects "WorkMeter" ({ cls := "WorkMeter", name := "look", desc := "(I)J" } : Jvm.MethodName) ({ cls := "WorkMeter", name := "look", desc := "(I)J" } : Jvm.MethodName)) ∈ xTT := xw6 (i := 72) rfl rfl
theorem q1273 : (Jvm.Cond.code ({ cls := "WorkMeter", name := "look", desc := "(I)J" } : Jvm.MethodName) prog_1_method_48_code (3 : Nat) (Option.some Jvm.ClassFile.FieldType.long)) ∈ xTT := xw6 (i := 73) rfl rfl
theorem q1274 : (Jvm.Cond.methodLink "WorkMeter" (386 : Nat) ({ cls := "WorkMeter", name := "lookAtMeter", desc := "(I)J" } : Jvm.MethodName)) ∈ xTT := xw6 (i := 74) rfl rfl
theorem q1276 : (Jvm.Cond.instanceMethod ({ cls := "WorkMeter", name := "lookAtMeter", desc := "(I)J" } : Jvm.MethodName)) ∈ xTT := xw6 (i := 76) rfl rfl
theorem q1277 : (Jvm.Cond.code ({ cls := "WorkMeter", name := "lookAtMeter", desc := "(I)J" } : Jvm.MethodName) prog_1_method_49_code (2 : Nat) (Option.some Jvm.ClassFile.FieldType.long)) ∈ xTT := xw6 (i := 77) rfl rfl
theorem q1278 : (Jvm.Cond.methodLink "WorkMeter" (389 : Nat) ({ cls := "WorkMeter", name := "lookAtCounts", desc := "(I)J" } : Jvm.MethodName)) ∈ xTT := xw6 (i := 78) rfl rfl
theorem q1280 : (Jvm.Cond.instanceMethod ({ cls := "WorkMeter", name := "lookAtCounts", desc := "(I)J" } : Jvm.MethodName)) ∈ xTT := xw6 (i := 80) rfl rfl
theorem q1281 : (Jvm.Cond.code ({ cls := "WorkMeter", name := "lookAtCounts", desc := "(I)J" } : Jvm.MethodName) prog_1_method_50_code (2 : Nat) (Option.some Jvm.ClassFile.FieldType.long)) ∈ xTT := xw6 (i := 81) rfl rfl
theorem q1282 : (Jvm.Cond.methodLink "WorkMeter" (392 : Nat) ({ cls := "WorkMeter", name := "lookAtSeal", desc := "(I)J" } : Jvm.MethodName)) ∈ xTT := xw6 (i := 82) rfl rfl
theorem q1284 : (Jvm.Cond.instanceMethod ({ cls := "WorkMeter", name := "lookAtSeal", desc := "(I)J" } : Jvm.MethodName)) ∈ xTT := xw6 (i := 84) rfl rfl
theorem q1285 : (Jvm.Cond.code ({ cls := "WorkMeter", name := "lookAtSeal", desc := "(I)J" } : Jvm.MethodName) prog_1_method_51_code (2 : Nat) (Option.some Jvm.ClassFile.FieldType.long)) ∈ xTT := xw6 (i := 85) rfl rfl
theorem q1286 : (Jvm.Cond.methodLink "WorkMeter" (424 : Nat) ({ cls := "WorkMeter$Seal", name := "lockedFor", desc := "(I)I" } : Jvm.MethodName)) ∈ xTT := xw6 (i := 86) rfl rfl
theorem q1287 : (Jvm.Cond.methodLink "WorkMeter" (395 : Nat) ({ cls := "WorkMeter", name := "settingLookedAt", desc := "(I)I" } : Jvm.MethodName)) ∈ xTT := xw6 (i := 87) rfl rfl
theorem q1288 : (Jvm.Cond.static ({ cls := "WorkMeter", name := "settingLookedAt", desc := "(I)I" } : Jvm.MethodName)) ∈ xTT := xw6 (i := 88) rfl rfl
theorem q1289 : (Jvm.Cond.code ({ cls := "WorkMeter", name := "settingLookedAt", desc := "(I)I" } : Jvm.MethodName) prog_1_method_52_code (1 : Nat) (Option.some Jvm.ClassFile.FieldType.int)) ∈ xTT := xw6 (i := 89) rfl rfl
theorem q1290 : (Jvm.Cond.methodLink "WorkMeter" (398 : Nat) ({ cls := "WorkMeter$Settings", name := "value", desc := "(I)I" } : Jvm.MethodName)) ∈ xTT := xw6 (i := 90) rfl rfl
theorem q1291 : (Jvm.Cond.classLink "WorkMeterLaw" (10 : Nat) "WorkMeterModel") ∈ xTT := xw6 (i := 91) rfl rfl
theorem q1292 : (Jvm.Cond.instantiable "WorkMeterModel" (15 : Nat)) ∈ xTT := xw6 (i := 92) rfl rfl
theorem q1293 : (Jvm.Cond.methodLink "WorkMeterLaw" (12 : Nat) ({ cls := "WorkMeterModel", name := "<init>", desc := "()V" } : Jvm.MethodName)) ∈ xTT := xw6 (i := 93) rfl rfl
theorem q1294 : (Jvm.Cond.instanceMethod ({ cls := "WorkMeterModel", name := "<init>", desc := "()V" } : Jvm.MethodName)) ∈ xTT := xw6 (i := 94) rfl rfl
theorem q1295 : (Jvm.Cond.code ({ cls := "WorkMeterModel", name := "<init>", desc := "()V" } : Jvm.MethodName) prog_14_method_3_code (2 : Nat) (Option.none : Option Jvm.ClassFile.FieldType)) ∈ xTT := xw6 (i := 95) rfl rfl
theorem q1296 : (Jvm.Cond.methodLink "WorkMeterModel" (3 : Nat) ({ cls := "java/lang/Object", name := "<init>", desc := "()V" } : Jvm.MethodName)) ∈ xTT := xw6 (i := 96) rfl rfl
theorem q1297 : (Jvm.Cond.constantLong "WorkMeterModel" (34 : Nat) (8 : Int64)) ∈ xTT := xw6 (i := 97) rfl rfl
theorem q1298 : (Jvm.Cond.constantLong "WorkMeterModel" (36 : Nat) (1000 : Int64)) ∈ xTT := xw6 (i := 98) rfl rfl
theorem q1299 : (Jvm.Cond.constantLong "WorkMeterModel" (38 : Nat) (100 : Int64)) ∈ xTT := xw6 (i := 99) rfl rfl
theorem q1300 : (Jvm.Cond.constantLong "WorkMeterModel" (40 : Nat) (3 : Int64)) ∈ xTT := xw6 (i := 100) rfl rfl
theorem q1301 : (Jvm.Cond.constantLong "WorkMeterModel" (42 : Nat) (900 : Int64)) ∈ xTT := xw6 (i := 101) rfl rfl
theorem q1302 : (Jvm.Cond.constantLong "WorkMeterModel" (44 : Nat) (40 : Int64)) ∈ xTT := xw6 (i := 102) rfl rfl
theorem q1303 : (Jvm.Cond.constantLong "WorkMeterModel" (46 : Nat) (-1 : Int64)) ∈ xTT := xw6 (i := 103) rfl rfl
theorem q1304 : (Jvm.Cond.fieldLink "WorkMeterModel" (9 : Nat) "WorkMeterModel" "w" "[J") ∈ xTT := xw6 (i := 104) rfl rfl
theorem q1305 : (Jvm.Cond.fieldLink "WorkMeterModel" (13 : Nat) "WorkMeterModel" "aside" "[J") ∈ xTT := xw6 (i := 105) rfl rfl
theorem q1306 : (Jvm.Cond.fieldLink "WorkMeterModel" (16 : Nat) "WorkMeterModel" "kept" "[J") ∈ xTT := xw6 (i := 106) rfl rfl
theorem q1307 : (Jvm.Cond.fieldLink "WorkMeterModel" (362 : Nat) "WorkMeterModel" "hasImage" "Z") ∈ xTT := xw6 (i := 107) rfl rfl
theorem q1308 : (Jvm.Cond.fieldLink "WorkMeterModel" (19 : Nat) "WorkMeterModel" "tape" "[B") ∈ xTT := xw6 (i := 108) rfl rfl
theorem q1309 : (Jvm.Cond.fieldLink "WorkMeterModel" (157 : Nat) "WorkMeterModel" "taped" "I") ∈ xTT := xw6 (i := 109) rfl rfl
theorem q1310 : (Jvm.Cond.fieldLink "WorkMeterModel" (164 : Nat) "WorkMeterModel" "faultKind" "I") ∈ xTT := xw6 (i := 110) rfl rfl
theorem q1311 : (Jvm.Cond.fieldLink "WorkMeterModel" (23 : Nat) "WorkMeterModel" "faultPlace" "I") ∈ xTT := xw6 (i := 111) rfl rfl
theorem q1312 : (Jvm.Cond.fieldLink "WorkMeterModel" (171 : Nat) "WorkMeterModel" "at" "I") ∈ xTT := xw6 (i := 112) rfl rfl
theorem q1313 : (Jvm.Cond.fieldLink "WorkMeterModel" (167 : Nat) "WorkMeterModel" "isWrong" "Z") ∈ xTT := xw6 (i := 113) rfl rfl
theorem q1314 : (Jvm.Cond.fieldLink "WorkMeterModel" (180 : Nat) "WorkMeterModel" "numberAt" "I") ∈ xTT := xw6 (i := 114) rfl rfl
theorem q1315 : (Jvm.Cond.fieldLink "WorkMeterModel" (27 : Nat) "WorkMeterModel" "isTable" "[Z") ∈ xTT := xw6 (i := 115) rfl rfl
theorem q1316 : (Jvm.Cond.fieldLink "WorkMeterModel" (31 : Nat) "WorkMeterModel" "isSeason" "[Z") ∈ xTT := xw6 (i := 116) rfl rfl
theorem q1317 : (Jvm.Cond.fieldLink "WorkMeterModel" (199 : Nat) "WorkMeterModel" "specialLines" "I") ∈ xTT := xw6 (i := 117) rfl rfl
theorem q1318 : (Jvm.Cond.fieldLink "WorkMeterModel" (202 : Nat) "WorkMeterModel" "isPriced" "Z") ∈ xTT := xw6 (i := 118) rfl rfl
theorem q1319 : (Jvm.Cond.laysFinal "WorkMeterModel" "WorkMeterModel" "w" "[J") ∈ xTT := xw6 (i := 119) rfl rfl
theorem q1321 : (Jvm.Cond.laysFinal "WorkMeterModel" "WorkMeterModel" "aside" "[J") ∈ xTT := xw6 (i := 121) rfl rfl
theorem q1323 : (Jvm.Cond.laysFinal "WorkMeterModel" "WorkMeterModel" "kept" "[J") ∈ xTT := xw6 (i := 123) rfl rfl
theorem q1325 : (Jvm.Cond.lays "WorkMeterModel" "WorkMeterModel" "hasImage" "Z") ∈ xTT := xw6 (i := 125) rfl rfl
theorem q1327 : (Jvm.Cond.laysFinal "WorkMeterModel" "WorkMeterModel" "tape" "[B") ∈ xTT := xw6 (i := 127) rfl rfl
theorem q1329 : (Jvm.Cond.lays "WorkMeterModel" "WorkMeterModel" "taped" "I") ∈ xTT := xw6 (i := 129) rfl rfl
theorem q1331 : (Jvm.Cond.lays "WorkMeterModel" "WorkMeterModel" "faultKind" "I") ∈ xTT := xw6 (i := 131) rfl rfl
theorem q1333 : (Jvm.Cond.lays "WorkMeterModel" "WorkMeterModel" "faultPlace" "I") ∈ xTT := xw6 (i := 133) rfl rfl
theorem q1335 : (Jvm.Cond.lays "WorkMeterModel" "WorkMeterModel" "at" "I") ∈ xTT := xw6 (i := 135) rfl rfl
theorem q1337 : (Jvm.Cond.lays "WorkMeterModel" "WorkMeterModel" "isWrong" "Z") ∈ xTT := xw6 (i := 137) rfl rfl
theorem q1339 : (Jvm.Cond.lays "WorkMeterModel" "WorkMeterModel" "numberAt" "I") ∈ xTT := xw6 (i := 139) rfl rfl
theorem q1341 : (Jvm.Cond.laysFinal "WorkMeterModel" "WorkMeterModel" "isTable" "[Z") ∈ xTT := xw6 (i := 141) rfl rfl
theorem q1343 : (Jvm.Cond.laysFinal "WorkMeterModel" "WorkMeterModel" "isSeason" "[Z") ∈ xTT := xw6 (i := 143) rfl rfl
theorem q1345 : (Jvm.Cond.lays "WorkMeterModel" "WorkMeterModel" "specialLines" "I") ∈ xTT := xw6 (i := 145) rfl rfl
theorem q1347 : (Jvm.Cond.lays "WorkMeterModel" "WorkMeterModel" "isPriced" "Z") ∈ xTT := xw6 (i := 147) rfl rfl
theorem q1350 : (Jvm.Cond.arrayClass Jvm.ClassFile.FieldType.boolean) ∈ xTT := xw6 (i := 150) rfl rfl
theorem q1351 : (Jvm.Cond.methodLink "WorkMeterLaw" (17 : Nat) ({ cls := "WorkMeterModel", name := "phases", desc := "(II)Z" } : Jvm.MethodName)) ∈ xTT := xw6 (i := 151) rfl rfl
theorem q1352 : (Jvm.Cond.instanceMethod ({ cls := "WorkMeterModel", name := "phases", desc := "(II)Z" } : Jvm.MethodName)) ∈ xTT := xw6 (i := 152) rfl rfl
theorem q1353 : (Jvm.Cond.selects "WorkMeterModel" ({ cls := "WorkMeterModel", name := "phases", desc := "(II)Z" } : Jvm.MethodName) ({ cls := "WorkMeterModel", name := "phases", desc := "(II)Z" } : Jvm.MethodName)) ∈ xTT := xw6 (i := 153) rfl rfl
theorem q1354 : (Jvm.Cond.code ({ cls := "WorkMeterModel", name := "phases", desc := "(II)Z" } : Jvm.MethodName) prog_14_method_9_code (4 : Nat) (Option.some Jvm.ClassFile.FieldType.boolean)) ∈ xTT := xw6 (i := 154) rfl rfl
theorem q1355 : (Jvm.Cond.methodLink "WorkMeterModel" (50 : Nat) ({ cls := "WorkMeterModel", name := "isShut", desc := "()Z" } : Jvm.MethodName)) ∈ xTT := xw6 (i := 155) rfl rfl
theorem q1357 : (Jvm.Cond.instanceMethod ({ cls := "WorkMeterModel", name := "isShut", desc := "()Z" } : Jvm.MethodName)) ∈ xTT := xw6 (i := 157) rfl rfl
theorem q1358 : (Jvm.Cond.code ({ cls := "WorkMeterModel", name := "isShut", desc := "()Z" } : Jvm.MethodName) prog_14_method_8_code (1 : Nat) (Option.some Jvm.ClassFile.FieldType.boolean)) ∈ xTT := xw6 (i := 158) rfl rfl
theorem q1359 : (Jvm.Cond.methodLink "WorkMeterModel" (54 : Nat) ({ cls := "WorkMeterModel", name := "isIn", desc := "(JJJ)Z" } : Jvm.MethodName)) ∈ xTT := xw6 (i := 159) rfl rfl
theorem q1360 : (Jvm.Cond.static ({ cls := "WorkMeterModel", name := "isIn", desc := "(JJJ)Z" } : Jvm.MethodName)) ∈ xTT := xw6 (i := 160) rfl rfl
theorem q1361 : (Jvm.Cond.code ({ cls := "WorkMeterModel", name := "isIn", desc := "(JJJ)Z" } : Jvm.MethodName) prog_14_method_1_code (6 : Nat) (Option.some Jvm.ClassFile.FieldType.boolean)) ∈ xTT := xw6 (i := 161) rfl rfl
theorem q1362 : (Jvm.Cond.constantLong "WorkMeterModel" (58 : Nat) (4 : Int64)) ∈ xTT := xw6 (i := 162) rfl rfl
theorem q1363 : (Jvm.Cond.constantLong "WorkMeterModel" (60 : Nat) (16 : Int64)) ∈ xTT := xw6 (i := 163) rfl rfl
theorem q1364 : (Jvm.Cond.methodLink "WorkMeterLaw" (22 : Nat) ({ cls := "WorkMeterModel", name := "sample", desc := "(II)I" } : Jvm.MethodName)) ∈ xTT := xw6 (i := 164) rfl rfl
theorem q1365 : (Jvm.Cond.instanceMethod ({ cls := "WorkMeterModel", name := "sample", desc := "(II)I" } : Jvm.MethodName)) ∈ xTT := xw6 (i := 165) rfl rfl
theorem q1366 : (Jvm.Cond.selects "WorkMeterModel" ({ cls := "WorkMeterModel", name := "sample", desc := "(II)I" } : Jvm.MethodName) ({ cls := "WorkMeterModel", name := "sample", desc := "(II)I" } : Jvm.MethodName)) ∈ xTT := xw6 (i := 166) rfl rfl
theorem q1367 : (Jvm.Cond.code ({ cls := "WorkMeterModel", name := "sample", desc := "(II)I" } : Jvm.MethodName) prog_14_method_10_code (5 : Nat) (Option.some Jvm.ClassFile.FieldType.int)) ∈ xTT := xw6 (i := 167) rfl rfl
theorem q1368 : (Jvm.Cond.constantLong "WorkMeterModel" (62 : Nat) (-500 : Int64)) ∈ xTT := xw6 (i := 168) rfl rfl
theorem q1369 : (Jvm.Cond.constantLong "WorkMeterModel" (64 : Nat) (500 : Int64)) ∈ xTT := xw6 (i := 169) rfl rfl
theorem q1370 : (Jvm.Cond.methodLink "WorkMeterModel" (66 : Nat) ({ cls := "WorkMeterModel", name := "p", desc := "()I" } : Jvm.MethodName)) ∈ xTT := xw6 (i := 170) rfl rfl
theorem q1372 : (Jvm.Cond.instanceMethod ({ cls := "WorkMeterModel", name := "p", desc := "()I" } : Jvm.MethodName)) ∈ xTT := xw6 (i := 172) rfl rfl
theorem q1373 : (Jvm.Cond.code ({ cls := "WorkMeterModel", name := "p", desc := "()I" } : Jvm.MethodName) prog_14_method_5_code (1 : Nat) (Option.some Jvm.ClassFile.FieldType.int)) ∈ xTT := xw6 (i := 173) rfl rfl
theorem q1374 : (Jvm.Cond.methodLink "WorkMeterModel" (70 : Nat) ({ cls := "WorkMeterModel", name := "at", desc := "(III)I" } : Jvm.MethodName)) ∈ xTT := xw6 (i := 174) rfl rfl
theorem q1375 : (Jvm.Cond.static ({ cls := "WorkMeterModel", name := "at", desc := "(III)I" } : Jvm.MethodName)) ∈ xTT := xw6 (i := 175) rfl rfl
theorem q1376 : (Jvm.Cond.code ({ cls := "WorkMeterModel", name := "at", desc := "(III)I" } : Jvm.MethodName) prog_14_method_7_code (3 : Nat) (Option.some Jvm.ClassFile.FieldType.int)) ∈ xTT := xw6 (i := 176) rfl rfl
theorem q1377 : (Jvm.Cond.methodLink "WorkMeterModel" (74 : Nat) ({ cls := "WorkMeterModel", name := "meters", desc := "()V" } : Jvm.MethodName)) ∈ xTT := xw6 (i := 177) rfl rfl
theorem q1379 : (Jvm.Cond.instanceMethod ({ cls := "WorkMeterModel", name := "meters", desc := "()V" } : Jvm.MethodName)) ∈ xTT := xw6 (i := 179) rfl rfl
theorem q1380 : (Jvm.Cond.code ({ cls := "WorkMeterModel", name := "meters", desc := "()V" } : Jvm.MethodName) prog_14_method_70_code (7 : Nat) (Option.none : Option Jvm.ClassFile.FieldType)) ∈ xTT := xw6 (i := 180) rfl rfl
theorem q1381 : (Jvm.Cond.methodLink "WorkMeterModel" (101 : Nat) ({ cls := "WorkMeterModel", name := "together", desc := "(I)J" } : Jvm.MethodName)) ∈ xTT := xw6 (i := 181) rfl rfl
theorem q1383 : (Jvm.Cond.instanceMethod ({ cls := "WorkMeterModel", name := "together", desc := "(I)J" } : Jvm.MethodName)) ∈ xTT := xw6 (i := 183) rfl rfl
theorem q1384 : (Jvm.Cond.code ({ cls := "WorkMeterModel", name := "together", desc := "(I)J" } : Jvm.MethodName) prog_14_method_14_code (5 : Nat) (Option.some Jvm.ClassFile.FieldType.long)) ∈ xTT := xw6 (i := 184) rfl rfl
theorem q1385 : (Jvm.Cond.methodLink "WorkMeterModel" (80 : Nat) ({ cls := "WorkMeterModel", name := "active", desc := "(I)J" } : Jvm.MethodName)) ∈ xTT := xw6 (i := 185) rfl rfl
theorem q1387 : (Jvm.Cond.instanceMethod ({ cls := "WorkMeterModel", name := "active", desc := "(I)J" } : Jvm.MethodName)) ∈ xTT := xw6 (i := 187) rfl rfl
theorem q1388 : (Jvm.Cond.code ({ cls := "WorkMeterModel", name := "active", desc := "(I)J" } : Jvm.MethodName) prog_14_method_11_code (5 : Nat) (Option.some Jvm.ClassFile.FieldType.long)) ∈ xTT := xw6 (i := 188) rfl rfl
theorem q1389 : (Jvm.Cond.methodLink "WorkMeterModel" (77 : Nat) ({ cls := "WorkMeterModel", name := "n", desc := "()I" } : Jvm.MethodName)) ∈ xTT := xw6 (i := 189) rfl rfl
theorem q1391 : (Jvm.Cond.instanceMethod ({ cls := "WorkMeterModel", name := "n", desc := "()I" } : Jvm.MethodName)) ∈ xTT := xw6 (i := 191) rfl rfl
theorem q1392 : (Jvm.Cond.code ({ cls := "WorkMeterModel", name := "n", desc := "()I" } : Jvm.MethodName) prog_14_method_6_code (1 : Nat) (Option.some Jvm.ClassFile.FieldType.int)) ∈ xTT := xw6 (i := 192) rfl rfl
theorem q1393 : (Jvm.Cond.methodLink "WorkMeterModel" (84 : Nat) ({ cls := "WorkMeterModel", name := "reactive", desc := "(I)J" } : Jvm.MethodName)) ∈ xTT := xw6 (i := 193) rfl rfl
theorem q1395 : (Jvm.Cond.instanceMethod ({ cls := "WorkMeterModel", name := "reactive", desc := "(I)J" } : Jvm.MethodName)) ∈ xTT := xw6 (i := 195) rfl rfl
theorem q1396 : (Jvm.Cond.code ({ cls := "WorkMeterModel", name := "reactive", desc := "(I)J" } : Jvm.MethodName) prog_14_method_12_code (5 : Nat) (Option.some Jvm.ClassFile.FieldType.long)) ∈ xTT := xw6 (i := 196) rfl rfl
theorem q1397 : (Jvm.Cond.methodLink "WorkMeterModel" (87 : Nat) ({ cls := "WorkMeterModel", name := "squares", desc := "(II)J" } : Jvm.MethodName)) ∈ xTT := xw6 (i := 197) rfl rfl
theorem q1399 : (Jvm.Cond.instanceMethod ({ cls := "WorkMeterModel", name := "squares", desc := "(II)J" } : Jvm.MethodName)) ∈ xTT := xw6 (i := 199) rfl rfl
theorem q1400 : (Jvm.Cond.code ({ cls := "WorkMeterModel", name := "squares", desc := "(II)J" } : Jvm.MethodName) prog_14_method_13_code (6 : Nat) (Option.some Jvm.ClassFile.FieldType.long)) ∈ xTT := xw6 (i := 200) rfl rfl
theorem q1401 : (Jvm.Cond.methodLink "WorkMeterModel" (95 : Nat) ({ cls := "WorkMeterModel", name := "root", desc := "(J)J" } : Jvm.MethodName)) ∈ xTT := xw6 (i := 201) rfl rfl
theorem q1402 : (Jvm.Cond.static ({ cls := "WorkMeterModel", name := "root", desc := "(J)J" } : Jvm.MethodName)) ∈ xTT := xw6 (i := 202) rfl rfl
theorem q1403 : (Jvm.Cond.code ({ cls := "WorkMeterModel", name := "root", desc := "(J)J" } : Jvm.MethodName) prog_14_method_15_code (8 : Nat) (Option.some Jvm.ClassFile.FieldType.long)) ∈ xTT := xw6 (i := 203) rfl rfl
theorem q1404 : (Jvm.Cond.constantLong "WorkMeterModel" (91 : Nat) (3000000000 : Int64)) ∈ xTT := xw6 (i := 204) rfl rfl
theorem q1405 : (Jvm.Cond.constantLong "WorkMeterModel" (93 : Nat) (2 : Int64)) ∈ xTT := xw6 (i := 205) rfl rfl
theorem q1406 : (Jvm.Cond.methodLink "WorkMeterModel" (258 : Nat) ({ cls := "WorkMeterModel", name := "size", desc := "(J)J" } : Jvm.MethodName)) ∈ xTT := xw6 (i := 206) rfl rfl
theorem q1407 : (Jvm.Cond.static ({ cls := "WorkMeterModel", name := "size", desc := "(J)J" } : Jvm.MethodName)) ∈ xTT := xw6 (i := 207) rfl rfl
theorem q1408 : (Jvm.Cond.code ({ cls := "WorkMeterModel", name := "size", desc := "(J)J" } : Jvm.MethodName) prog_14_method_17_code (2 : Nat) (Option.some Jvm.ClassFile.FieldType.long)) ∈ xTT := xw6 (i := 208) rfl rfl
theorem q1409 : (Jvm.Cond.methodLink "WorkMeterModel" (276 : Nat) ({ cls := "WorkMeterModel", name := "registers", desc := "(JJJ)V" } : Jvm.MethodName)) ∈ xTT := xw6 (i := 209) rfl rfl
theorem q1411 : (Jvm.Cond.instanceMethod ({ cls := "WorkMeterModel", name := "registers", desc := "(JJJ)V" } : Jvm.MethodName)) ∈ xTT := xw6 (i := 211) rfl rfl
theorem q1412 : (Jvm.Cond.code ({ cls := "WorkMeterModel", name := "registers", desc := "(JJJ)V" } : Jvm.MethodName) prog_14_method_63_code (10 : Nat) (Option.none : Option Jvm.ClassFile.FieldType)) ∈ xTT := xw6 (i := 212) rfl rfl
theorem q1413 : (Jvm.Cond.methodLink "WorkMeterModel" (147 : Nat) ({ cls := "WorkMeterModel", name := "tariff", desc := "(I)I" } : Jvm.MethodName)) ∈ xTT := xw6 (i := 213) rfl rfl
theorem q1415 : (Jvm.Cond.instanceMethod ({ cls := "WorkMeterModel", name := "tariff", desc := "(I)I" } : Jvm.MethodName)) ∈ xTT := xw6 (i := 215) rfl rfl
theorem q1416 : (Jvm.Cond.code ({ cls := "WorkMeterModel", name := "tariff", desc := "(I)I" } : Jvm.MethodName) prog_14_method_23_code (5 : Nat) (Option.some Jvm.ClassFile.FieldType.int)) ∈ xTT := xw6 (i := 216) rfl rfl
theorem q1417 : (Jvm.Cond.constant "WorkMeterModel" (119 : Nat) (86400 : Int32)) ∈ xTT := xw6 (i := 217) rfl rfl
theorem q1418 : (Jvm.Cond.methodLink "WorkMeterModel" (120 : Nat) ({ cls := "WorkMeterModel", name := "tableAt", desc := "(I)I" } : Jvm.MethodName)) ∈ xTT := xw6 (i := 218) rfl rfl
theorem q1420 : (Jvm.Cond.instanceMethod ({ cls := "WorkMeterModel", name := "tableAt", desc := "(I)I" } : Jvm.MethodName)) ∈ xTT := xw6 (i := 220) rfl rfl
theorem q1421 : (Jvm.Cond.code ({ cls := "WorkMeterModel", name := "tableAt", desc := "(I)I" } : Jvm.MethodName) prog_14_method_22_code (3 : Nat) (Option.some Jvm.ClassFile.FieldType.int)) ∈ xTT := xw6 (i := 221) rfl rfl
theorem q1422 : (Jvm.Cond.methodLink "WorkMeterModel" (115 : Nat) ({ cls := "WorkMeterModel", name := "seasonOf", desc := "(I)I" } : Jvm.MethodName)) ∈ xTT := xw6 (i := 222) rfl rfl
theorem q1424 : (Jvm.Cond.instanceMethod ({ cls := "WorkMeterModel", name := "seasonOf", desc := "(I)I" } : Jvm.MethodName)) ∈ xTT := xw6 (i := 224) rfl rfl
theorem q1425 : (Jvm.Cond.code ({ cls := "WorkMeterModel", name := "seasonOf", desc := "(I)I" } : Jvm.MethodName) prog_14_method_21_code (7 : Nat) (Option.some Jvm.ClassFile.FieldType.int)) ∈ xTT := xw6 (i := 225) rfl rfl
theorem q1426 : (Jvm.Cond.methodLink "WorkMeterModel" (254 : Nat) ({ cls := "WorkMeterModel", name := "counts", desc := "(IIJ)V" } : Jvm.MethodName)) ∈ xTT := xw6 (i := 226) rfl rfl
theorem q1428 : (Jvm.Cond.instanceMethod ({ cls := "WorkMeterModel", name := "counts", desc := "(IIJ)V" } : Jvm.MethodName)) ∈ xTT := xw6 (i := 228) rfl rfl
theorem q1429 : (Jvm.Cond.code ({ cls := "WorkMeterModel", name := "counts", desc := "(IIJ)V" } : Jvm.MethodName) prog_14_method_62_code (5 : Nat) (Option.none : Option Jvm.ClassFile.FieldType)) ∈ xTT := xw6 (i := 229) rfl rfl
theorem q1430 : (Jvm.Cond.methodLink "WorkMeterModel" (104 : Nat) ({ cls := "WorkMeterModel", name := "quadrant", desc := "(JJ)I" } : Jvm.MethodName)) ∈ xTT := xw6 (i := 230) rfl rfl
theorem q1431 : (Jvm.Cond.static ({ cls := "WorkMeterModel", name := "quadrant", desc := "(JJ)I" } : Jvm.MethodName)) ∈ xTT := xw6 (i := 231) rfl rfl
theorem q1432 : (Jvm.Cond.code ({ cls := "WorkMeterModel", name := "quadrant", desc := "(JJ)I" } : Jvm.MethodName) prog_14_method_16_code (4 : Nat) (Option.some Jvm.ClassFile.FieldType.int)) ∈ xTT := xw6 (i := 232) rfl rfl
theorem q1433 : (Jvm.Cond.methodLink "WorkMeterModel" (280 : Nat) ({ cls := "WorkMeterModel", name := "switches", desc := "()V" } : Jvm.MethodName)) ∈ xTT := xw6 (i := 233) rfl rfl
theorem q1435 : (Jvm.Cond.instanceMethod ({ cls := "WorkMeterModel", name := "switches", desc := "()V" } : Jvm.MethodName)) ∈ xTT := xw6 (i := 235) rfl rfl
theorem q1436 : (Jvm.Cond.code ({ cls := "WorkMeterModel", name := "switches", desc := "()V" } : Jvm.MethodName) prog_14_method_82_code (2 : Nat) (Option.none : Option Jvm.ClassFile.FieldType)) ∈ xTT := xw6 (i := 236) rfl rfl
theorem q1437 : (Jvm.Cond.methodLink "WorkMeterModel" (244 : Nat) ({ cls := "WorkMeterModel", name := "logs", desc := "(IJ)V" } : Jvm.MethodName)) ∈ xTT := xw6 (i := 237) rfl rfl
theorem q1439 : (Jvm.Cond.instanceMethod ({ cls := "WorkMeterModel", name := "logs", desc := "(IJ)V" } : Jvm.MethodName)) ∈ xTT := xw6 (i := 239) rfl rfl
theorem q1440 : (Jvm.Cond.code ({ cls := "WorkMeterModel", name := "logs", desc := "(IJ)V" } : Jvm.MethodName) prog_14_method_4_code (5 : Nat) (Option.none : Option Jvm.ClassFile.FieldType)) ∈ xTT := xw7 (i := 0) rfl rfl
theorem q1441 : (Jvm.Cond.constantLong "WorkMeterModel" (48 : Nat) (39 : Int64)) ∈ xTT := xw7 (i := 1) rfl rfl
theorem q1442 : (Jvm.Cond.methodLink "WorkMeterModel" (283 : Nat) ({ cls := "WorkMeterModel", name := "marks", desc := "()V" } : Jvm.MethodName)) ∈ xTT := xw7 (i := 2) rfl rfl
theorem q1444 : (Jvm.Cond.instanceMethod ({ cls := "WorkMeterModel", name := "marks", desc := "()V" } : Jvm.MethodName)) ∈ xTT := xw7 (i := 4) rfl rfl
theorem q1445 : (Jvm.Cond.code ({ cls := "WorkMeterModel", name := "marks", desc := "()V" } : Jvm.MethodName) prog_14_method_67_code (4 : Nat) (Option.none : Option Jvm.ClassFile.FieldType)) ∈ xTT := xw7 (i := 5) rfl rfl
theorem q1446 : (Jvm.Cond.methodLink "WorkMeterModel" (261 : Nat) ({ cls := "WorkMeterModel", name := "isMissing", desc := "()Z" } : Jvm.MethodName)) ∈ xTT := xw7 (i := 6) rfl rfl
theorem q1448 : (Jvm.Cond.instanceMethod ({ cls := "WorkMeterModel", name := "isMissing", desc := "()Z" } : Jvm.MethodName)) ∈ xTT := xw7 (i := 8) rfl rfl
theorem q1449 : (Jvm.Cond.code ({ cls := "WorkMeterModel", name := "isMissing", desc := "()Z" } : Jvm.MethodName) prog_14_method_64_code (5 : Nat) (Option.some Jvm.ClassFile.FieldType.boolean)) ∈ xTT := xw7 (i := 9) rfl rfl
theorem q1450 : (Jvm.Cond.methodLink "WorkMeterModel" (264 : Nat) ({ cls := "WorkMeterModel", name := "isReversed", desc := "()Z" } : Jvm.MethodName)) ∈ xTT := xw7 (i := 10) rfl rfl
theorem q1452 : (Jvm.Cond.instanceMethod ({ cls := "WorkMeterModel", name := "isReversed", desc := "()Z" } : Jvm.MethodName)) ∈ xTT := xw7 (i := 12) rfl rfl
theorem q1453 : (Jvm.Cond.code ({ cls := "WorkMeterModel", name := "isReversed", desc := "()Z" } : Jvm.MethodName) prog_14_method_65_code (4 : Nat) (Option.some Jvm.ClassFile.FieldType.boolean)) ∈ xTT := xw7 (i := 13) rfl rfl
theorem q1454 : (Jvm.Cond.methodLink "WorkMeterModel" (267 : Nat) ({ cls := "WorkMeterModel", name := "isStrange", desc := "()Z" } : Jvm.MethodName)) ∈ xTT := xw7 (i := 14) rfl rfl
theorem q1456 : (Jvm.Cond.instanceMethod ({ cls := "WorkMeterModel", name := "isStrange", desc := "()Z" } : Jvm.MethodName)) ∈ xTT := xw7 (i := 16) rfl rfl
theorem q1457 : (Jvm.Cond.code ({ cls := "WorkMeterModel", name := "isStrange", desc := "()Z" } : Jvm.MethodName) prog_14_method_66_code (2 : Nat) (Option.some Jvm.ClassFile.FieldType.boolean)) ∈ xTT := xw7 (i := 17) rfl rfl
theorem q1458 : (Jvm.Cond.methodLink "WorkMeterModel" (270 : Nat) ({ cls := "WorkMeterModel", name := "turnsOn", desc := "(I)V" } : Jvm.MethodName)) ∈ xTT := xw7 (i := 18) rfl rfl
theorem q1460 : (Jvm.Cond.instanceMethod ({ cls := "WorkMeterModel", name := "turnsOn", desc := "(I)V" } : Jvm.MethodName)) ∈ xTT := xw7 (i := 20) rfl rfl
theorem q1461 : (Jvm.Cond.code ({ cls := "WorkMeterModel", name := "turnsOn", desc := "(I)V" } : Jvm.MethodName) prog_14_method_68_code (2 : Nat) (Option.none : Option Jvm.ClassFile.FieldType)) ∈ xTT := xw7 (i := 21) rfl rfl
theorem q1462 : (Jvm.Cond.methodLink "WorkMeterModel" (273 : Nat) ({ cls := "WorkMeterModel", name := "turnsOff", desc := "(I)V" } : Jvm.MethodName)) ∈ xTT := xw7 (i := 22) rfl rfl
theorem q1464 : (Jvm.Cond.instanceMethod ({ cls := "WorkMeterModel", name := "turnsOff", desc := "(I)V" } : Jvm.MethodName)) ∈ xTT := xw7 (i := 24) rfl rfl
theorem q1465 : (Jvm.Cond.code ({ cls := "WorkMeterModel", name := "turnsOff", desc := "(I)V" } : Jvm.MethodName) prog_14_method_69_code (2 : Nat) (Option.none : Option Jvm.ClassFile.FieldType)) ∈ xTT := xw7 (i := 25) rfl rfl
theorem q1466 : (Jvm.Cond.methodLink "WorkMeterModel" (286 : Nat) ({ cls := "WorkMeterModel", name := "goes", desc := "()V" } : Jvm.MethodName)) ∈ xTT := xw7 (i := 26) rfl rfl
theorem q1468 : (Jvm.Cond.instanceMethod ({ cls := "WorkMeterModel", name := "goes", desc := "()V" } : Jvm.MethodName)) ∈ xTT := xw7 (i := 28) rfl rfl
theorem q1469 : (Jvm.Cond.code ({ cls := "WorkMeterModel", name := "goes", desc := "()V" } : Jvm.MethodName) prog_14_method_71_code (1 : Nat) (Option.none : Option Jvm.ClassFile.FieldType)) ∈ xTT := xw7 (i := 29) rfl rfl
theorem q1470 : (Jvm.Cond.methodLink "WorkMeterModel" (289 : Nat) ({ cls := "WorkMeterModel", name := "marksOn", desc := "()J" } : Jvm.MethodName)) ∈ xTT := xw7 (i := 30) rfl rfl
theorem q1472 : (Jvm.Cond.instanceMethod ({ cls := "WorkMeterModel", name := "marksOn", desc := "()J" } : Jvm.MethodName)) ∈ xTT := xw7 (i := 32) rfl rfl
theorem q1473 : (Jvm.Cond.code ({ cls := "WorkMeterModel", name := "marksOn", desc := "()J" } : Jvm.MethodName) prog_14_method_101_code (4 : Nat) (Option.some Jvm.ClassFile.FieldType.long)) ∈ xTT := xw7 (i := 33) rfl rfl
theorem q1474 : (Jvm.Cond.constantLong "WorkMeterModel" (145 : Nat) (2000000000 : Int64)) ∈ xTT := xw7 (i := 34) rfl rfl
theorem q1475 : (Jvm.Cond.methodLink "WorkMeterModel" (292 : Nat) ({ cls := "WorkMeterModel", name := "ends", desc := "(J)V" } : Jvm.MethodName)) ∈ xTT := xw7 (i := 35) rfl rfl
theorem q1477 : (Jvm.Cond.instanceMethod ({ cls := "WorkMeterModel", name := "ends", desc := "(J)V" } : Jvm.MethodName)) ∈ xTT := xw7 (i := 37) rfl rfl
theorem q1478 : (Jvm.Cond.code ({ cls := "WorkMeterModel", name := "ends", desc := "(J)V" } : Jvm.MethodName) prog_14_method_75_code (6 : Nat) (Option.none : Option Jvm.ClassFile.FieldType)) ∈ xTT := xw7 (i := 38) rfl rfl
theorem q1479 : (Jvm.Cond.methodLink "WorkMeterModel" (298 : Nat) ({ cls := "WorkMeterModel", name := "beginsBlock", desc := "()V" } : Jvm.MethodName)) ∈ xTT := xw7 (i := 39) rfl rfl
theorem q1481 : (Jvm.Cond.instanceMethod ({ cls := "WorkMeterModel", name := "beginsBlock", desc := "()V" } : Jvm.MethodName)) ∈ xTT := xw7 (i := 41) rfl rfl
theorem q1482 : (Jvm.Cond.code ({ cls := "WorkMeterModel", name := "beginsBlock", desc := "()V" } : Jvm.MethodName) prog_14_method_72_code (2 : Nat) (Option.none : Option Jvm.ClassFile.FieldType)) ∈ xTT := xw7 (i := 42) rfl rfl
theorem q1483 : (Jvm.Cond.constantLong "WorkMeterModel" (296 : Nat) (64 : Int64)) ∈ xTT := xw7 (i := 43) rfl rfl
theorem q1484 : (Jvm.Cond.methodLink "WorkMeterModel" (301 : Nat) ({ cls := "WorkMeterModel", name := "line", desc := "(II)J" } : Jvm.MethodName)) ∈ xTT := xw7 (i := 44) rfl rfl
theorem q1486 : (Jvm.Cond.instanceMethod ({ cls := "WorkMeterModel", name := "line", desc := "(II)J" } : Jvm.MethodName)) ∈ xTT := xw7 (i := 46) rfl rfl
theorem q1487 : (Jvm.Cond.code ({ cls := "WorkMeterModel", name := "line", desc := "(II)J" } : Jvm.MethodName) prog_14_method_73_code (3 : Nat) (Option.some Jvm.ClassFile.FieldType.long)) ∈ xTT := xw7 (i := 47) rfl rfl
theorem q1488 : (Jvm.Cond.methodLink "WorkMeterModel" (303 : Nat) ({ cls := "WorkMeterModel", name := "lines", desc := "()I" } : Jvm.MethodName)) ∈ xTT := xw7 (i := 48) rfl rfl
theorem q1490 : (Jvm.Cond.instanceMethod ({ cls := "WorkMeterModel", name := "lines", desc := "()I" } : Jvm.MethodName)) ∈ xTT := xw7 (i := 50) rfl rfl
theorem q1491 : (Jvm.Cond.code ({ cls := "WorkMeterModel", name := "lines", desc := "()I" } : Jvm.MethodName) prog_14_method_74_code (1 : Nat) (Option.some Jvm.ClassFile.FieldType.int)) ∈ xTT := xw7 (i := 51) rfl rfl
theorem q1492 : (Jvm.Cond.methodLink "WorkMeterModel" (306 : Nat) ({ cls := "WorkMeterModel", name := "demands", desc := "()V" } : Jvm.MethodName)) ∈ xTT := xw7 (i := 52) rfl rfl
theorem q1494 : (Jvm.Cond.instanceMethod ({ cls := "WorkMeterModel", name := "demands", desc := "()V" } : Jvm.MethodName)) ∈ xTT := xw7 (i := 54) rfl rfl
theorem q1495 : (Jvm.Cond.code ({ cls := "WorkMeterModel", name := "demands", desc := "()V" } : Jvm.MethodName) prog_14_method_76_code (6 : Nat) (Option.none : Option Jvm.ClassFile.FieldType)) ∈ xTT := xw7 (i := 55) rfl rfl
theorem q1496 : (Jvm.Cond.constantLong "WorkMeterModel" (309 : Nat) (192 : Int64)) ∈ xTT := xw7 (i := 56) rfl rfl
theorem q1497 : (Jvm.Cond.methodLink "WorkMeterLaw" (112 : Nat) ({ cls := "WorkMeterModel", name := "period", desc := "(II)J" } : Jvm.MethodName)) ∈ xTT := xw7 (i := 57) rfl rfl
theorem q1498 : (Jvm.Cond.instanceMethod ({ cls := "WorkMeterModel", name := "period", desc := "(II)J" } : Jvm.MethodName)) ∈ xTT := xw7 (i := 58) rfl rfl
theorem q1499 : (Jvm.Cond.selects "WorkMeterModel" ({ cls := "WorkMeterModel", name := "period", desc := "(II)J" } : Jvm.MethodName) ({ cls := "WorkMeterModel", name := "period", desc := "(II)J" } : Jvm.MethodName)) ∈ xTT := xw7 (i := 59) rfl rfl
theorem q1500 : (Jvm.Cond.code ({ cls := "WorkMeterModel", name := "period", desc := "(II)J" } : Jvm.MethodName) prog_14_method_20_code (10 : Nat) (Option.some Jvm.ClassFile.FieldType.long)) ∈ xTT := xw7 (i := 60) rfl rfl
theorem q1501 : (Jvm.Cond.constantLong "WorkMeterModel" (99 : Nat) (-10000000000 : Int64)) ∈ xTT := xw7 (i := 61) rfl rfl
theorem q1502 : (Jvm.Cond.methodLink "WorkMeterModel" (108 : Nat) ({ cls := "WorkMeterModel", name := "greatestRoot", desc := "(I)J" } : Jvm.MethodName)) ∈ xTT := xw7 (i := 62) rfl rfl
theorem q1504 : (Jvm.Cond.instanceMethod ({ cls := "WorkMeterModel", name := "greatestRoot", desc := "(I)J" } : Jvm.MethodName)) ∈ xTT := xw7 (i := 64) rfl rfl
theorem q1505 : (Jvm.Cond.code ({ cls := "WorkMeterModel", name := "greatestRoot", desc := "(I)J" } : Jvm.MethodName) prog_14_method_19_code (7 : Nat) (Option.some Jvm.ClassFile.FieldType.long)) ∈ xTT := xw7 (i := 65) rfl rfl
theorem q1506 : (Jvm.Cond.methodLink "WorkMeterModel" (111 : Nat) ({ cls := "WorkMeterModel", name := "thousandths", desc := "(JJ)J" } : Jvm.MethodName)) ∈ xTT := xw7 (i := 66) rfl rfl
theorem q1507 : (Jvm.Cond.static ({ cls := "WorkMeterModel", name := "thousandths", desc := "(JJ)J" } : Jvm.MethodName)) ∈ xTT := xw7 (i := 67) rfl rfl
theorem q1508 : (Jvm.Cond.code ({ cls := "WorkMeterModel", name := "thousandths", desc := "(JJ)J" } : Jvm.MethodName) prog_14_method_18_code (4 : Nat) (Option.some Jvm.ClassFile.FieldType.long)) ∈ xTT := xw7 (i := 68) rfl rfl
theorem q1509 : (Jvm.Cond.methodLink "WorkMeterLaw" (36 : Nat) ({ cls := "WorkMeterModel", name := "table", desc := "(III)I" } : Jvm.MethodName)) ∈ xTT := xw7 (i := 69) rfl rfl
theorem q1510 : (Jvm.Cond.instanceMethod ({ cls := "WorkMeterModel", name := "table", desc := "(III)I" } : Jvm.MethodName)) ∈ xTT := xw7 (i := 70) rfl rfl
theorem q1511 : (Jvm.Cond.selects "WorkMeterModel" ({ cls := "WorkMeterModel", name := "table", desc := "(III)I" } : Jvm.MethodName) ({ cls := "WorkMeterModel", name := "table", desc := "(III)I" } : Jvm.MethodName)) ∈ xTT := xw7 (i := 71) rfl rfl
theorem q1512 : (Jvm.Cond.code ({ cls := "WorkMeterModel", name := "table", desc := "(III)I" } : Jvm.MethodName) prog_14_method_26_code (4 : Nat) (Option.some Jvm.ClassFile.FieldType.int)) ∈ xTT := xw7 (i := 72) rfl rfl
theorem q1513 : (Jvm.Cond.methodLink "WorkMeterModel" (125 : Nat) ({ cls := "WorkMeterModel", name := "isTable", desc := "(I)Z" } : Jvm.MethodName)) ∈ xTT := xw7 (i := 73) rfl rfl
theorem q1514 : (Jvm.Cond.static ({ cls := "WorkMeterModel", name := "isTable", desc := "(I)Z" } : Jvm.MethodName)) ∈ xTT := xw7 (i := 74) rfl rfl
theorem q1515 : (Jvm.Cond.code ({ cls := "WorkMeterModel", name := "isTable", desc := "(I)Z" } : Jvm.MethodName) prog_14_method_24_code (1 : Nat) (Option.some Jvm.ClassFile.FieldType.boolean)) ∈ xTT := xw7 (i := 75) rfl rfl
theorem q1516 : (Jvm.Cond.constantLong "WorkMeterModel" (123 : Nat) (7 : Int64)) ∈ xTT := xw7 (i := 76) rfl rfl
theorem q1517 : (Jvm.Cond.constantLong "WorkMeterModel" (128 : Nat) (86399 : Int64)) ∈ xTT := xw7 (i := 77) rfl rfl
theorem q1518 : (Jvm.Cond.methodLink "WorkMeterModel" (130 : Nat) ({ cls := "WorkMeterModel", name := "isTariff", desc := "(I)Z" } : Jvm.MethodName)) ∈ xTT := xw7 (i := 78) rfl rfl
theorem q1519 : (Jvm.Cond.static ({ cls := "WorkMeterModel", name := "isTariff", desc := "(I)Z" } : Jvm.MethodName)) ∈ xTT := xw7 (i := 79) rfl rfl
theorem q1520 : (Jvm.Cond.code ({ cls := "WorkMeterModel", name := "isTariff", desc := "(I)Z" } : Jvm.MethodName) prog_14_method_25_code (1 : Nat) (Option.some Jvm.ClassFile.FieldType.boolean)) ∈ xTT := xw7 (i := 80) rfl rfl
theorem q1521 : (Jvm.Cond.methodLink "WorkMeterModel" (133 : Nat) ({ cls := "WorkMeterModel", name := "puts", desc := "(III)I" } : Jvm.MethodName)) ∈ xTT := xw7 (i := 81) rfl rfl
theorem q1523 : (Jvm.Cond.instanceMethod ({ cls := "WorkMeterModel", name := "puts", desc := "(III)I" } : Jvm.MethodName)) ∈ xTT := xw7 (i := 83) rfl rfl
theorem q1524 : (Jvm.Cond.code ({ cls := "WorkMeterModel", name := "puts", desc := "(III)I" } : Jvm.MethodName) prog_14_method_27_code (9 : Nat) (Option.some Jvm.ClassFile.FieldType.int)) ∈ xTT := xw7 (i := 84) rfl rfl
theorem q1525 : (Jvm.Cond.methodLink "WorkMeterLaw" (41 : Nat) ({ cls := "WorkMeterModel", name := "wipe", desc := "(I)I" } : Jvm.MethodName)) ∈ xTT := xw7 (i := 85) rfl rfl
theorem q1526 : (Jvm.Cond.instanceMethod ({ cls := "WorkMeterModel", name := "wipe", desc := "(I)I" } : Jvm.MethodName)) ∈ xTT := xw7 (i := 86) rfl rfl
theorem q1527 : (Jvm.Cond.selects "WorkMeterModel" ({ cls := "WorkMeterModel", name := "wipe", desc := "(I)I" } : Jvm.MethodName) ({ cls := "WorkMeterModel", name := "wipe", desc := "(I)I" } : Jvm.MethodName)) ∈ xTT := xw7 (i := 87) rfl rfl
theorem q1528 : (Jvm.Cond.code ({ cls := "WorkMeterModel", name := "wipe", desc := "(I)I" } : Jvm.MethodName) prog_14_method_28_code (3 : Nat) (Option.some Jvm.ClassFile.FieldType.int)) ∈ xTT := xw7 (i := 88) rfl rfl
theorem q1529 : (Jvm.Cond.methodLink "WorkMeterLaw" (72 : Nat) ({ cls := "WorkMeterModel", name := "season", desc := "(II)Z" } : Jvm.MethodName)) ∈ xTT := xw7 (i := 89) rfl rfl
theorem q1530 : (Jvm.Cond.instanceMethod ({ cls := "WorkMeterModel", name := "season", desc := "(II)Z" } : Jvm.MethodName)) ∈ xTT := xw7 (i := 90) rfl rfl
theorem q1531 : (Jvm.Cond.selects "WorkMeterModel" ({ cls := "WorkMeterModel", name := "season", desc := "(II)Z" } : Jvm.MethodName) ({ cls := "WorkMeterModel", name := "season", desc := "(II)Z" } : Jvm.MethodName)) ∈ xTT := xw7 (i := 91) rfl rfl
theorem q1532 : (Jvm.Cond.code ({ cls := "WorkMeterModel", name := "season", desc := "(II)Z" } : Jvm.MethodName) prog_14_method_30_code (3 : Nat) (Option.some Jvm.ClassFile.FieldType.boolean)) ∈ xTT := xw7 (i := 92) rfl rfl
theorem q1533 : (Jvm.Cond.methodLink "WorkMeterModel" (136 : Nat) ({ cls := "WorkMeterModel", name := "isSeason", desc := "(I)Z" } : Jvm.MethodName)) ∈ xTT := xw7 (i := 93) rfl rfl
theorem q1534 : (Jvm.Cond.static ({ cls := "WorkMeterModel", name := "isSeason", desc := "(I)Z" } : Jvm.MethodName)) ∈ xTT := xw7 (i := 94) rfl rfl
theorem q1535 : (Jvm.Cond.code ({ cls := "WorkMeterModel", name := "isSeason", desc := "(I)Z" } : Jvm.MethodName) prog_14_method_29_code (1 : Nat) (Option.some Jvm.ClassFile.FieldType.boolean)) ∈ xTT := xw7 (i := 95) rfl rfl
theorem q1536 : (Jvm.Cond.constantLong "WorkMeterModel" (138 : Nat) (364 : Int64)) ∈ xTT := xw7 (i := 96) rfl rfl
theorem q1537 : (Jvm.Cond.methodLink "WorkMeterLaw" (77 : Nat) ({ cls := "WorkMeterModel", name := "week", desc := "(III)Z" } : Jvm.MethodName)) ∈ xTT := xw7 (i := 97) rfl rfl
theorem q1538 : (Jvm.Cond.instanceMethod ({ cls := "WorkMeterModel", name := "week", desc := "(III)Z" } : Jvm.MethodName)) ∈ xTT := xw7 (i := 98) rfl rfl
theorem q1539 : (Jvm.Cond.selects "WorkMeterModel" ({ cls := "WorkMeterModel", name := "week", desc := "(III)Z" } : Jvm.MethodName) ({ cls := "WorkMeterModel", name := "week", desc := "(III)Z" } : Jvm.MethodName)) ∈ xTT := xw7 (i := 99) rfl rfl
theorem q1540 : (Jvm.Cond.code ({ cls := "WorkMeterModel", name := "week", desc := "(III)Z" } : Jvm.MethodName) prog_14_method_31_code (4 : Nat) (Option.some Jvm.ClassFile.FieldType.boolean)) ∈ xTT := xw7 (i := 100) rfl rfl
theorem q1541 : (Jvm.Cond.constantLong "WorkMeterModel" (140 : Nat) (6 : Int64)) ∈ xTT := xw7 (i := 101) rfl rfl
theorem q1542 : (Jvm.Cond.methodLink "WorkMeterLaw" (81 : Nat) ({ cls := "WorkMeterModel", name := "special", desc := "(II)Z" } : Jvm.MethodName)) ∈ xTT := xw7 (i := 102) rfl rfl
theorem q1543 : (Jvm.Cond.instanceMethod ({ cls := "WorkMeterModel", name := "special", desc := "(II)Z" } : Jvm.MethodName)) ∈ xTT := xw7 (i := 103) rfl rfl
theorem q1544 : (Jvm.Cond.selects "WorkMeterModel" ({ cls := "WorkMeterModel", name := "special", desc := "(II)Z" } : Jvm.MethodName) ({ cls := "WorkMeterModel", name := "special", desc := "(II)Z" } : Jvm.MethodName)) ∈ xTT := xw7 (i := 104) rfl rfl
theorem q1545 : (Jvm.Cond.code ({ cls := "WorkMeterModel", name := "special", desc := "(II)Z" } : Jvm.MethodName) prog_14_method_33_code (4 : Nat) (Option.some Jvm.ClassFile.FieldType.boolean)) ∈ xTT := xw7 (i := 105) rfl rfl
theorem q1546 : (Jvm.Cond.methodLink "WorkMeterModel" (142 : Nat) ({ cls := "WorkMeterModel", name := "specials", desc := "()I" } : Jvm.MethodName)) ∈ xTT := xw7 (i := 106) rfl rfl
theorem q1548 : (Jvm.Cond.instanceMethod ({ cls := "WorkMeterModel", name := "specials", desc := "()I" } : Jvm.MethodName)) ∈ xTT := xw7 (i := 108) rfl rfl
theorem q1549 : (Jvm.Cond.code ({ cls := "WorkMeterModel", name := "specials", desc := "()I" } : Jvm.MethodName) prog_14_method_32_code (3 : Nat) (Option.some Jvm.ClassFile.FieldType.int)) ∈ xTT := xw7 (i := 109) rfl rfl
theorem q1550 : (Jvm.Cond.methodLink "WorkMeterLaw" (124 : Nat) ({ cls := "WorkMeterModel", name := "tariffAt", desc := "(I)I" } : Jvm.MethodName)) ∈ xTT := xw7 (i := 110) rfl rfl
theorem q1551 : (Jvm.Cond.instanceMethod ({ cls := "WorkMeterModel", name := "tariffAt", desc := "(I)I" } : Jvm.MethodName)) ∈ xTT := xw7 (i := 111) rfl rfl
theorem q1552 : (Jvm.Cond.selects "WorkMeterModel" ({ cls := "WorkMeterModel", name := "tariffAt", desc := "(I)I" } : Jvm.MethodName) ({ cls := "WorkMeterModel", name := "tariffAt", desc := "(I)I" } : Jvm.MethodName)) ∈ xTT := xw7 (i := 112) rfl rfl
theorem q1553 : (Jvm.Cond.code ({ cls := "WorkMeterModel", name := "tariffAt", desc := "(I)I" } : Jvm.MethodName) prog_14_method_34_code (2 : Nat) (Option.some Jvm.ClassFile.FieldType.int)) ∈ xTT := xw7 (i := 113) rfl rfl
theorem q1554 : (Jvm.Cond.methodLink "WorkMeterLaw" (128 : Nat) ({ cls := "WorkMeterModel", name := "tableOf", desc := "(I)I" } : Jvm.MethodName)) ∈ xTT := xw7 (i := 114) rfl rfl
theorem q1555 : (Jvm.Cond.instanceMethod ({ cls := "WorkMeterModel", name := "tableOf", desc := "(I)I" } : Jvm.MethodName)) ∈ xTT := xw7 (i := 115) rfl rfl
theorem q1556 : (Jvm.Cond.selects "WorkMeterModel" ({ cls := "WorkMeterModel", name := "tableOf", desc := "(I)I" } : Jvm.MethodName) ({ cls := "WorkMeterModel", name := "tableOf", desc := "(I)I" } : Jvm.MethodName)) ∈ xTT := xw7 (i := 116) rfl rfl
theorem q1557 : (Jvm.Cond.code ({ cls := "WorkMeterModel", name := "tableOf", desc := "(I)I" } : Jvm.MethodName) prog_14_method_35_code (2 : Nat) (Option.some Jvm.ClassFile.FieldType.int)) ∈ xTT := xw7 (i := 117) rfl rfl
theorem q1558 : (Jvm.Cond.constantLong "WorkMeterModel" (150 : Nat) (23148 : Int64)) ∈ xTT := xw7 (i := 118) rfl rfl
theorem q1559 : (Jvm.Cond.methodLink "WorkMeterLaw" (132 : Nat) ({ cls := "WorkMeterModel", name := "switching", desc := "(III)I" } : Jvm.MethodName)) ∈ xTT := xw7 (i := 119) rfl rfl
theorem q1560 : (Jvm.Cond.instanceMethod ({ cls := "WorkMeterModel", name := "switching", desc := "(III)I" } : Jvm.MethodName)) ∈ xTT := xw7 (i := 120) rfl rfl
theorem q1561 : (Jvm.Cond.selects "WorkMeterModel" ({ cls := "WorkMeterModel", name := "switching", desc := "(III)I" } : Jvm.MethodName) ({ cls := "WorkMeterModel", name := "switching", desc := "(III)I" } : Jvm.MethodName)) ∈ xTT := xw7 (i := 121) rfl rfl
theorem q1562 : (Jvm.Cond.code ({ cls := "WorkMeterModel", name := "switching", desc := "(III)I" } : Jvm.MethodName) prog_14_method_36_code (4 : Nat) (Option.some Jvm.ClassFile.FieldType.int)) ∈ xTT := xw7 (i := 122) rfl rfl
theorem q1563 : (Jvm.Cond.methodLink "WorkMeterLaw" (205 : Nat) ({ cls := "WorkMeterModel", name := "holds", desc := "(II)I" } : Jvm.MethodName)) ∈ xTT := xw7 (i := 123) rfl rfl
theorem q1564 : (Jvm.Cond.instanceMethod ({ cls := "WorkMeterModel", name := "holds", desc := "(II)I" } : Jvm.MethodName)) ∈ xTT := xw7 (i := 124) rfl rfl
theorem q1565 : (Jvm.Cond.selects "WorkMeterModel" ({ cls := "WorkMeterModel", name := "holds", desc := "(II)I" } : Jvm.MethodName) ({ cls := "WorkMeterModel", name := "holds", desc := "(II)I" } : Jvm.MethodName)) ∈ xTT := xw7 (i := 125) rfl rfl
theorem q1566 : (Jvm.Cond.code ({ cls := "WorkMeterModel", name := "holds", desc := "(II)I" } : Jvm.MethodName) prog_14_method_37_code (10 : Nat) (Option.some Jvm.ClassFile.FieldType.int)) ∈ xTT := xw7 (i := 126) rfl rfl
theorem q1567 : (Jvm.Cond.methodLink "WorkMeterLaw" (136 : Nat) ({ cls := "WorkMeterModel", name := "next", desc := "(I)I" } : Jvm.MethodName)) ∈ xTT := xw7 (i := 127) rfl rfl
theorem q1568 : (Jvm.Cond.instanceMethod ({ cls := "WorkMeterModel", name := "next", desc := "(I)I" } : Jvm.MethodName)) ∈ xTT := xw7 (i := 128) rfl rfl
theorem q1569 : (Jvm.Cond.selects "WorkMeterModel" ({ cls := "WorkMeterModel", name := "next", desc := "(I)I" } : Jvm.MethodName) ({ cls := "WorkMeterModel", name := "next", desc := "(I)I" } : Jvm.MethodName)) ∈ xTT := xw7 (i := 129) rfl rfl
theorem q1570 : (Jvm.Cond.code ({ cls := "WorkMeterModel", name := "next", desc := "(I)I" } : Jvm.MethodName) prog_14_method_39_code (3 : Nat) (Option.some Jvm.ClassFile.FieldType.int)) ∈ xTT := xw7 (i := 130) rfl rfl
theorem q1571 : (Jvm.Cond.methodLink "WorkMeterModel" (154 : Nat) ({ cls := "WorkMeterModel", name := "nextTime", desc := "()I" } : Jvm.MethodName)) ∈ xTT := xw7 (i := 131) rfl rfl
theorem q1573 : (Jvm.Cond.instanceMethod ({ cls := "WorkMeterModel", name := "nextTime", desc := "()I" } : Jvm.MethodName)) ∈ xTT := xw7 (i := 133) rfl rfl
theorem q1574 : (Jvm.Cond.code ({ cls := "WorkMeterModel", name := "nextTime", desc := "()I" } : Jvm.MethodName) prog_14_method_38_code (7 : Nat) (Option.some Jvm.ClassFile.FieldType.int)) ∈ xTT := xw7 (i := 134) rfl rfl
theorem q1575 : (Jvm.Cond.constantLong "WorkMeterModel" (152 : Nat) (86400 : Int64)) ∈ xTT := xw7 (i := 135) rfl rfl
theorem q1576 : (Jvm.Cond.methodLink "WorkMeterLaw" (46 : Nat) ({ cls := "WorkMeterModel", name := "feed", desc := "(IIIII)I" } : Jvm.MethodName)) ∈ xTT := xw7 (i := 136) rfl rfl
theorem q1577 : (Jvm.Cond.instanceMethod ({ cls := "WorkMeterModel", name := "feed", desc := "(IIIII)I" } : Jvm.MethodName)) ∈ xTT := xw7 (i := 137) rfl rfl
theorem q1578 : (Jvm.Cond.selects "WorkMeterModel" ({ cls := "WorkMeterModel", name := "feed", desc := "(IIIII)I" } : Jvm.MethodName) ({ cls := "WorkMeterModel", name := "feed", desc := "(IIIII)I" } : Jvm.MethodName)) ∈ xTT := xw7 (i := 138) rfl rfl
theorem q1579 : (Jvm.Cond.code ({ cls := "WorkMeterModel", name := "feed", desc := "(IIIII)I" } : Jvm.MethodName) prog_14_method_41_code (6 : Nat) (Option.some Jvm.ClassFile.FieldType.int)) ∈ xTT := xw7 (i := 139) rfl rfl
theorem q1580 : (Jvm.Cond.methodLink "WorkMeterModel" (160 : Nat) ({ cls := "WorkMeterModel", name := "comes", desc := "(I)V" } : Jvm.MethodName)) ∈ xTT := xw7 (i := 140) rfl rfl
theorem q1582 : (Jvm.Cond.instanceMethod ({ cls := "WorkMeterModel", name := "comes", desc := "(I)V" } : Jvm.MethodName)) ∈ xTT := xw7 (i := 142) rfl rfl
theorem q1583 : (Jvm.Cond.code ({ cls := "WorkMeterModel", name := "comes", desc := "(I)V" } : Jvm.MethodName) prog_14_method_40_code (3 : Nat) (Option.none : Option Jvm.ClassFile.FieldType)) ∈ xTT := xw7 (i := 143) rfl rfl
theorem q1584 : (Jvm.Cond.methodLink "WorkMeterLaw" (51 : Nat) ({ cls := "WorkMeterModel", name := "end", desc := "(I)Z" } : Jvm.MethodName)) ∈ xTT := xw7 (i := 144) rfl rfl
theorem q1585 : (Jvm.Cond.instanceMethod ({ cls := "WorkMeterModel", name := "end", desc := "(I)Z" } : Jvm.MethodName)) ∈ xTT := xw7 (i := 145) rfl rfl
theorem q1586 : (Jvm.Cond.selects "WorkMeterModel" ({ cls := "WorkMeterModel", name := "end", desc := "(I)Z" } : Jvm.MethodName) ({ cls := "WorkMeterModel", name := "end", desc := "(I)Z" } : Jvm.MethodName)) ∈ xTT := xw7 (i := 146) rfl rfl
theorem q1587 : (Jvm.Cond.code ({ cls := "WorkMeterModel", name := "end", desc := "(I)Z" } : Jvm.MethodName) prog_14_method_42_code (2 : Nat) (Option.some Jvm.ClassFile.FieldType.boolean)) ∈ xTT := xw7 (i := 147) rfl rfl
theorem q1588 : (Jvm.Cond.methodLink "WorkMeterLaw" (60 : Nat) ({ cls := "WorkMeterModel", name := "fault", desc := "(I)I" } : Jvm.MethodName)) ∈ xTT := xw7 (i := 148) rfl rfl
theorem q1589 : (Jvm.Cond.instanceMethod ({ cls := "WorkMeterModel", name := "fault", desc := "(I)I" } : Jvm.MethodName)) ∈ xTT := xw7 (i := 149) rfl rfl
theorem q1590 : (Jvm.Cond.selects "WorkMeterModel" ({ cls := "WorkMeterModel", name := "fault", desc := "(I)I" } : Jvm.MethodName) ({ cls := "WorkMeterModel", name := "fault", desc := "(I)I" } : Jvm.MethodName)) ∈ xTT := xw7 (i := 150) rfl rfl
theorem q1591 : (Jvm.Cond.code ({ cls := "WorkMeterModel", name := "fault", desc := "(I)I" } : Jvm.MethodName) prog_14_method_43_code (2 : Nat) (Option.some Jvm.ClassFile.FieldType.int)) ∈ xTT := xw7 (i := 151) rfl rfl
theorem q1592 : (Jvm.Cond.methodLink "WorkMeterLaw" (56 : Nat) ({ cls := "WorkMeterModel", name := "calendar", desc := "()I" } : Jvm.MethodName)) ∈ xTT := xw7 (i := 152) rfl rfl
theorem q1593 : (Jvm.Cond.instanceMethod ({ cls := "WorkMeterModel", name := "calendar", desc := "()I" } : Jvm.MethodName)) ∈ xTT := xw7 (i := 153) rfl rfl
theorem q1594 : (Jvm.Cond.selects "WorkMeterModel" ({ cls := "WorkMeterModel", name := "calendar", desc := "()I" } : Jvm.MethodName) ({ cls := "WorkMeterModel", name := "calendar", desc := "()I" } : Jvm.MethodName)) ∈ xTT := xw7 (i := 154) rfl rfl
theorem q1595 : (Jvm.Cond.code ({ cls := "WorkMeterModel", name := "calendar", desc := "()I" } : Jvm.MethodName) prog_14_method_58_code (2 : Nat) (Option.some Jvm.ClassFile.FieldType.int)) ∈ xTT := xw7 (i := 155) rfl rfl
theorem q1596 : (Jvm.Cond.methodLink "WorkMeterModel" (232 : Nat) ({ cls := "WorkMeterModel", name := "copies", desc := "([J[J)V" } : Jvm.MethodName)) ∈ xTT := xw7 (i := 156) rfl rfl
theorem q1597 : (Jvm.Cond.static ({ cls := "WorkMeterModel", name := "copies", desc := "([J[J)V" } : Jvm.MethodName)) ∈ xTT := xw7 (i := 157) rfl rfl
theorem q1598 : (Jvm.Cond.code ({ cls := "WorkMeterModel", name := "copies", desc := "([J[J)V" } : Jvm.MethodName) prog_14_method_2_code (3 : Nat) (Option.none : Option Jvm.ClassFile.FieldType)) ∈ xTT := xw7 (i := 158) rfl rfl
theorem q1599 : (Jvm.Cond.methodLink "WorkMeterModel" (236 : Nat) ({ cls := "WorkMeterModel", name := "clears", desc := "()V" } : Jvm.MethodName)) ∈ xTT := xw7 (i := 159) rfl rfl
theorem q1601 : (Jvm.Cond.instanceMethod ({ cls := "WorkMeterModel", name := "clears", desc := "()V" } : Jvm.MethodName)) ∈ xTT := xw7 (i := 161) rfl rfl
theorem q1602 : (Jvm.Cond.code ({ cls := "WorkMeterModel", name := "clears", desc := "()V" } : Jvm.MethodName) prog_14_method_52_code (2 : Nat) (Option.none : Option Jvm.ClassFile.FieldType)) ∈ xTT := xw7 (i := 162) rfl rfl
theorem q1603 : (Jvm.Cond.methodLink "WorkMeterModel" (173 : Nat) ({ cls := "WorkMeterModel", name := "blanks", desc := "()V" } : Jvm.MethodName)) ∈ xTT := xw7 (i := 163) rfl rfl
theorem q1605 : (Jvm.Cond.instanceMethod ({ cls := "WorkMeterModel", name := "blanks", desc := "()V" } : Jvm.MethodName)) ∈ xTT := xw7 (i := 165) rfl rfl
theorem q1606 : (Jvm.Cond.code ({ cls := "WorkMeterModel", name := "blanks", desc := "()V" } : Jvm.MethodName) prog_14_method_45_code (1 : Nat) (Option.none : Option Jvm.ClassFile.FieldType)) ∈ xTT := xw7 (i := 166) rfl rfl
theorem q1607 : (Jvm.Cond.methodLink "WorkMeterModel" (239 : Nat) ({ cls := "WorkMeterModel", name := "line", desc := "()V" } : Jvm.MethodName)) ∈ xTT := xw7 (i := 167) rfl rfl
theorem q1609 : (Jvm.Cond.instanceMethod ({ cls := "WorkMeterModel", name := "line", desc := "()V" } : Jvm.MethodName)) ∈ xTT := xw7 (i := 169) rfl rfl
theorem q1610 : (Jvm.Cond.code ({ cls := "WorkMeterModel", name := "line", desc := "()V" } : Jvm.MethodName) prog_14_method_57_code (4 : Nat) (Option.none : Option Jvm.ClassFile.FieldType)) ∈ xTT := xw7 (i := 170) rfl rfl
theorem q1611 : (Jvm.Cond.methodLink "WorkMeterModel" (220 : Nat) ({ cls := "WorkMeterModel", name := "word", desc := "()I" } : Jvm.MethodName)) ∈ xTT := xw7 (i := 171) rfl rfl
theorem q1613 : (Jvm.Cond.instanceMethod ({ cls := "WorkMeterModel", name := "word", desc := "()I" } : Jvm.MethodName)) ∈ xTT := xw7 (i := 173) rfl rfl
theorem q1614 : (Jvm.Cond.code ({ cls := "WorkMeterModel", name := "word", desc := "()I" } : Jvm.MethodName) prog_14_method_51_code (1 : Nat) (Option.some Jvm.ClassFile.FieldType.int)) ∈ xTT := xw7 (i := 174) rfl rfl
theorem q1615 : (Jvm.Cond.methodLink "WorkMeterModel" (195 : Nat) ({ cls := "WorkMeterModel", name := "spells", desc := "(IIIIIIII)Z" } : Jvm.MethodName)) ∈ xTT := xw7 (i := 175) rfl rfl
theorem q1617 : (Jvm.Cond.instanceMethod ({ cls := "WorkMeterModel", name := "spells", desc := "(IIIIIIII)Z" } : Jvm.MethodName)) ∈ xTT := xw7 (i := 177) rfl rfl
theorem q1618 : (Jvm.Cond.code ({ cls := "WorkMeterModel", name := "spells", desc := "(IIIIIIII)Z" } : Jvm.MethodName) prog_14_method_50_code (9 : Nat) (Option.some Jvm.ClassFile.FieldType.boolean)) ∈ xTT := xw7 (i := 178) rfl rfl
theorem q1619 : (Jvm.Cond.methodLink "WorkMeterModel" (192 : Nat) ({ cls := "WorkMeterModel", name := "wordEnd", desc := "()I" } : Jvm.MethodName)) ∈ xTT := xw7 (i := 179) rfl rfl
theorem q1621 : (Jvm.Cond.instanceMethod ({ cls := "WorkMeterModel", name := "wordEnd", desc := "()I" } : Jvm.MethodName)) ∈ xTT := xw7 (i := 181) rfl rfl
theorem q1622 : (Jvm.Cond.code ({ cls := "WorkMeterModel", name := "wordEnd", desc := "()I" } : Jvm.MethodName) prog_14_method_49_code (2 : Nat) (Option.some Jvm.ClassFile.FieldType.int)) ∈ xTT := xw7 (i := 182) rfl rfl
theorem q1623 : (Jvm.Cond.constantLong "WorkMeterModel" (188 : Nat) (97 : Int64)) ∈ xTT := xw7 (i := 183) rfl rfl
theorem q1624 : (Jvm.Cond.constantLong "WorkMeterModel" (190 : Nat) (122 : Int64)) ∈ xTT := xw7 (i := 184) rfl rfl
theorem q1625 : (Jvm.Cond.methodLink "WorkMeterModel" (184 : Nat) ({ cls := "WorkMeterModel", name := "wrong", desc := "(II)V" } : Jvm.MethodName)) ∈ xTT := xw7 (i := 185) rfl rfl
theorem q1627 : (Jvm.Cond.instanceMethod ({ cls := "WorkMeterModel", name := "wrong", desc := "(II)V" } : Jvm.MethodName)) ∈ xTT := xw7 (i := 187) rfl rfl
theorem q1628 : (Jvm.Cond.code ({ cls := "WorkMeterModel", name := "wrong", desc := "(II)V" } : Jvm.MethodName) prog_14_method_44_code (3 : Nat) (Option.none : Option Jvm.ClassFile.FieldType)) ∈ xTT := xw7 (i := 188) rfl rfl
theorem q1629 : (Jvm.Cond.methodLink "WorkMeterModel" (223 : Nat) ({ cls := "WorkMeterModel", name := "tableLine", desc := "()V" } : Jvm.MethodName)) ∈ xTT := xw7 (i := 189) rfl rfl
theorem q1631 : (Jvm.Cond.instanceMethod ({ cls := "WorkMeterModel", name := "tableLine", desc := "()V" } : Jvm.MethodName)) ∈ xTT := xw7 (i := 191) rfl rfl
theorem q1632 : (Jvm.Cond.code ({ cls := "WorkMeterModel", name := "tableLine", desc := "()V" } : Jvm.MethodName) prog_14_method_54_code (6 : Nat) (Option.none : Option Jvm.ClassFile.FieldType)) ∈ xTT := xw7 (i := 192) rfl rfl
theorem q1633 : (Jvm.Cond.methodLink "WorkMeterModel" (205 : Nat) ({ cls := "WorkMeterModel", name := "number", desc := "(II)I" } : Jvm.MethodName)) ∈ xTT := xw7 (i := 193) rfl rfl
theorem q1635 : (Jvm.Cond.instanceMethod ({ cls := "WorkMeterModel", name := "number", desc := "(II)I" } : Jvm.MethodName)) ∈ xTT := xw7 (i := 195) rfl rfl
theorem q1636 : (Jvm.Cond.code ({ cls := "WorkMeterModel", name := "number", desc := "(II)I" } : Jvm.MethodName) prog_14_method_47_code (4 : Nat) (Option.some Jvm.ClassFile.FieldType.int)) ∈ xTT := xw7 (i := 196) rfl rfl
theorem q1637 : (Jvm.Cond.constantLong "WorkMeterModel" (176 : Nat) (48 : Int64)) ∈ xTT := xw7 (i := 197) rfl rfl
theorem q1638 : (Jvm.Cond.constantLong "WorkMeterModel" (178 : Nat) (57 : Int64)) ∈ xTT := xw7 (i := 198) rfl rfl
theorem q1639 : (Jvm.Cond.constant "WorkMeterModel" (183 : Nat) (100000 : Int32)) ∈ xTT := xw7 (i := 199) rfl rfl
theorem q1640 : (Jvm.Cond.methodLink "WorkMeterModel" (209 : Nat) ({ cls := "WorkMeterModel", name := "isDigitNext", desc := "()Z" } : Jvm.MethodName)) ∈ xTT := xw7 (i := 200) rfl rfl
theorem q1642 : (Jvm.Cond.instanceMethod ({ cls := "WorkMeterModel", name := "isDigitNext", desc := "()Z" } : Jvm.MethodName)) ∈ xTT := xw7 (i := 202) rfl rfl
theorem q1643 : (Jvm.Cond.code ({ cls := "WorkMeterModel", name := "isDigitNext", desc := "()Z" } : Jvm.MethodName) prog_14_method_46_code (1 : Nat) (Option.some Jvm.ClassFile.FieldType.boolean)) ∈ xTT := xw7 (i := 203) rfl rfl
theorem q1644 : (Jvm.Cond.methodLink "WorkMeterModel" (212 : Nat) ({ cls := "WorkMeterModel", name := "must", desc := "(C)V" } : Jvm.MethodName)) ∈ xTT := xw7 (i := 204) rfl rfl
theorem q1646 : (Jvm.Cond.instanceMethod ({ cls := "WorkMeterModel", name := "must", desc := "(C)V" } : Jvm.MethodName)) ∈ xTT := xw7 (i := 206) rfl rfl
theorem q1647 : (Jvm.Cond.code ({ cls := "WorkMeterModel", name := "must", desc := "(C)V" } : Jvm.MethodName) prog_14_method_48_code (2 : Nat) (Option.none : Option Jvm.ClassFile.FieldType)) ∈ xTT := xw7 (i := 207) rfl rfl
theorem q1648 : (Jvm.Cond.methodLink "WorkMeterModel" (216 : Nat) ({ cls := "WorkMeterModel", name := "isSwitch", desc := "(II)Z" } : Jvm.MethodName)) ∈ xTT := xw7 (i := 208) rfl rfl
theorem q1650 : (Jvm.Cond.instanceMethod ({ cls := "WorkMeterModel", name := "isSwitch", desc := "(II)Z" } : Jvm.MethodName)) ∈ xTT := xw7 (i := 210) rfl rfl
theorem q1651 : (Jvm.Cond.code ({ cls := "WorkMeterModel", name := "isSwitch", desc := "(II)Z" } : Jvm.MethodName) prog_14_method_53_code (4 : Nat) (Option.some Jvm.ClassFile.FieldType.boolean)) ∈ xTT := xw7 (i := 211) rfl rfl
theorem q1652 : (Jvm.Cond.methodLink "WorkMeterModel" (226 : Nat) ({ cls := "WorkMeterModel", name := "seasonLine", desc := "()V" } : Jvm.MethodName)) ∈ xTT := xw7 (i := 212) rfl rfl
theorem q1654 : (Jvm.Cond.instanceMethod ({ cls := "WorkMeterModel", name := "seasonLine", desc := "()V" } : Jvm.MethodName)) ∈ xTT := xw7 (i := 214) rfl rfl
theorem q1655 : (Jvm.Cond.code ({ cls := "WorkMeterModel", name := "seasonLine", desc := "()V" } : Jvm.MethodName) prog_14_method_55_code (3 : Nat) (Option.none : Option Jvm.ClassFile.FieldType)) ∈ xTT := xw7 (i := 215) rfl rfl
theorem q1656 : (Jvm.Cond.methodLink "WorkMeterModel" (229 : Nat) ({ cls := "WorkMeterModel", name := "specialLine", desc := "()V" } : Jvm.MethodName)) ∈ xTT := xw7 (i := 216) rfl rfl
theorem q1658 : (Jvm.Cond.instanceMethod ({ cls := "WorkMeterModel", name := "specialLine", desc := "()V" } : Jvm.MethodName)) ∈ xTT := xw7 (i := 218) rfl rfl
theorem q1659 : (Jvm.Cond.code ({ cls := "WorkMeterModel", name := "specialLine", desc := "()V" } : Jvm.MethodName) prog_14_method_56_code (2 : Nat) (Option.none : Option Jvm.ClassFile.FieldType)) ∈ xTT := xw7 (i := 219) rfl rfl
theorem q1660 : (Jvm.Cond.methodLink "WorkMeterLaw" (64 : Nat) ({ cls := "WorkMeterModel", name := "seal", desc := "(I)Z" } : Jvm.MethodName)) ∈ xTT := xw7 (i := 220) rfl rfl
theorem q1661 : (Jvm.Cond.instanceMethod ({ cls := "WorkMeterModel", name := "seal", desc := "(I)Z" } : Jvm.MethodName)) ∈ xTT := xw7 (i := 221) rfl rfl
theorem q1662 : (Jvm.Cond.selects "WorkMeterModel" ({ cls := "WorkMeterModel", name := "seal", desc := "(I)Z" } : Jvm.MethodName) ({ cls := "WorkMeterModel", name := "seal", desc := "(I)Z" } : Jvm.MethodName)) ∈ xTT := xw7 (i := 222) rfl rfl
theorem q1663 : (Jvm.Cond.code ({ cls := "WorkMeterModel", name := "seal", desc := "(I)Z" } : Jvm.MethodName) prog_14_method_60_code (2 : Nat) (Option.some Jvm.ClassFile.FieldType.boolean)) ∈ xTT := xw7 (i := 223) rfl rfl
theorem q1664 : (Jvm.Cond.constantLong "WorkMeterModel" (242 : Nat) (9999 : Int64)) ∈ xTT := xw7 (i := 224) rfl rfl
theorem q1665 : (Jvm.Cond.methodLink "WorkMeterLaw" (68 : Nat) ({ cls := "WorkMeterModel", name := "open", desc := "(I)Z" } : Jvm.MethodName)) ∈ xTT := xw7 (i := 225) rfl rfl
theorem q1666 : (Jvm.Cond.instanceMethod ({ cls := "WorkMeterModel", name := "open", desc := "(I)Z" } : Jvm.MethodName)) ∈ xTT := xw7 (i := 226) rfl rfl
theorem q1667 : (Jvm.Cond.selects "WorkMeterModel" ({ cls := "WorkMeterModel", name := "open", desc := "(I)Z" } : Jvm.MethodName) ({ cls := "WorkMeterModel", name := "open", desc := "(I)Z" } : Jvm.MethodName)) ∈ xTT := xw7 (i := 227) rfl rfl
theorem q1668 : (Jvm.Cond.code ({ cls := "WorkMeterModel", name := "open", desc := "(I)Z" } : Jvm.MethodName) prog_14_method_61_code (2 : Nat) (Option.some Jvm.ClassFile.FieldType.boolean)) ∈ xTT := xw7 (i := 228) rfl rfl
theorem q1669 : (Jvm.Cond.methodLink "WorkMeterModel" (248 : Nat) ({ cls := "WorkMeterModel", name := "lockedFor", desc := "()J" } : Jvm.MethodName)) ∈ xTT := xw7 (i := 229) rfl rfl
theorem q1671 : (Jvm.Cond.instanceMethod ({ cls := "WorkMeterModel", name := "lockedFor", desc := "()J" } : Jvm.MethodName)) ∈ xTT := xw7 (i := 231) rfl rfl
theorem q1672 : (Jvm.Cond.code ({ cls := "WorkMeterModel", name := "lockedFor", desc := "()J" } : Jvm.MethodName) prog_14_method_59_code (1 : Nat) (Option.some Jvm.ClassFile.FieldType.long)) ∈ xTT := xw7 (i := 232) rfl rfl
theorem q1673 : (Jvm.Cond.constantLong "WorkMeterModel" (252 : Nat) (300 : Int64)) ∈ xTT := xw7 (i := 233) rfl rfl
theorem q1674 : (Jvm.Cond.methodLink "WorkMeterLaw" (27 : Nat) ({ cls := "WorkMeterModel", name := "again", desc := "(I)J" } : Jvm.MethodName)) ∈ xTT := xw7 (i := 234) rfl rfl
theorem q1675 : (Jvm.Cond.instanceMethod ({ cls := "WorkMeterModel", name := "again", desc := "(I)J" } : Jvm.MethodName)) ∈ xTT := xw7 (i := 235) rfl rfl
theorem q1676 : (Jvm.Cond.selects "WorkMeterModel" ({ cls := "WorkMeterModel", name := "again", desc := "(I)J" } : Jvm.MethodName) ({ cls := "WorkMeterModel", name := "again", desc := "(I)J" } : Jvm.MethodName)) ∈ xTT := xw7 (i := 236) rfl rfl
theorem q1677 : (Jvm.Cond.code ({ cls := "WorkMeterModel", name := "again", desc := "(I)J" } : Jvm.MethodName) prog_14_method_77_code (3 : Nat) (Option.some Jvm.ClassFile.FieldType.long)) ∈ xTT := xw7 (i := 237) rfl rfl
theorem q1678 : (Jvm.Cond.methodLink "WorkMeterLaw" (31 : Nat) ({ cls := "WorkMeterModel", name := "set", desc := "(II)Z" } : Jvm.MethodName)) ∈ xTT := xw7 (i := 238) rfl rfl
theorem q1679 : (Jvm.Cond.instanceMethod ({ cls := "WorkMeterModel", name := "set", desc := "(II)Z" } : Jvm.MethodName)) ∈ xTT := xw7 (i := 239) rfl rfl
theorem q1680 : (Jvm.Cond.selects "WorkMeterModel" ({ cls := "WorkMeterModel", name := "set", desc := "(II)Z" } : Jvm.MethodName) ({ cls := "WorkMeterModel", name := "set", desc := "(II)Z" } : Jvm.MethodName)) ∈ xTT := xw8 (i := 0) rfl rfl
theorem q1681 : (Jvm.Cond.code ({ cls := "WorkMeterModel", name := "set", desc := "(II)Z" } : Jvm.MethodName) prog_14_method_78_code (3 : Nat) (Option.some Jvm.ClassFile.FieldType.boolean)) ∈ xTT := xw8 (i := 1) rfl rfl
theorem q1682 : (Jvm.Cond.constantLong "WorkMeterModel" (311 : Nat) (1000000 : Int64)) ∈ xTT := xw8 (i := 2) rfl rfl
theorem q1683 : (Jvm.Cond.constantLong "WorkMeterModel" (313 : Nat) (250000 : Int64)) ∈ xTT := xw8 (i := 3) rfl rfl
theorem q1684 : (Jvm.Cond.constantLong "WorkMeterModel" (315 : Nat) (60 : Int64)) ∈ xTT := xw8 (i := 4) rfl rfl
theorem q1685 : (Jvm.Cond.constantLong "WorkMeterModel" (317 : Nat) (200 : Int64)) ∈ xTT := xw8 (i := 5) rfl rfl
theorem q1686 : (Jvm.Cond.constantLong "WorkMeterModel" (319 : Nat) (10 : Int64)) ∈ xTT := xw8 (i := 6) rfl rfl
theorem q1687 : (Jvm.Cond.constantLong "WorkMeterModel" (321 : Nat) (13 : Int64)) ∈ xTT := xw8 (i := 7) rfl rfl
theorem q1688 : (Jvm.Cond.methodLink "WorkMeterLaw" (85 : Nat) ({ cls := "WorkMeterModel", name := "move", desc := "(I)I" } : Jvm.MethodName)) ∈ xTT := xw8 (i := 8) rfl rfl
theorem q1689 : (Jvm.Cond.instanceMethod ({ cls := "WorkMeterModel", name := "move", desc := "(I)I" } : Jvm.MethodName)) ∈ xTT := xw8 (i := 9) rfl rfl
theorem q1690 : (Jvm.Cond.selects "WorkMeterModel" ({ cls := "WorkMeterModel", name := "move", desc := "(I)I" } : Jvm.MethodName) ({ cls := "WorkMeterModel", name := "move", desc := "(I)I" } : Jvm.MethodName)) ∈ xTT := xw8 (i := 10) rfl rfl
theorem q1691 : (Jvm.Cond.code ({ cls := "WorkMeterModel", name := "move", desc := "(I)I" } : Jvm.MethodName) prog_14_method_79_code (3 : Nat) (Option.some Jvm.ClassFile.FieldType.int)) ∈ xTT := xw8 (i := 11) rfl rfl
theorem q1692 : (Jvm.Cond.methodLink "WorkMeterLaw" (89 : Nat) ({ cls := "WorkMeterModel", name := "off", desc := "(I)I" } : Jvm.MethodName)) ∈ xTT := xw8 (i := 12) rfl rfl
theorem q1693 : (Jvm.Cond.instanceMethod ({ cls := "WorkMeterModel", name := "off", desc := "(I)I" } : Jvm.MethodName)) ∈ xTT := xw8 (i := 13) rfl rfl
theorem q1694 : (Jvm.Cond.selects "WorkMeterModel" ({ cls := "WorkMeterModel", name := "off", desc := "(I)I" } : Jvm.MethodName) ({ cls := "WorkMeterModel", name := "off", desc := "(I)I" } : Jvm.MethodName)) ∈ xTT := xw8 (i := 14) rfl rfl
theorem q1695 : (Jvm.Cond.code ({ cls := "WorkMeterModel", name := "off", desc := "(I)I" } : Jvm.MethodName) prog_14_method_80_code (3 : Nat) (Option.some Jvm.ClassFile.FieldType.int)) ∈ xTT := xw8 (i := 15) rfl rfl
theorem q1696 : (Jvm.Cond.constantLong "WorkMeterModel" (323 : Nat) (100000 : Int64)) ∈ xTT := xw8 (i := 16) rfl rfl
theorem q1697 : (Jvm.Cond.methodLink "WorkMeterLaw" (94 : Nat) ({ cls := "WorkMeterModel", name := "mark", desc := "(IZ)Z" } : Jvm.MethodName)) ∈ xTT := xw8 (i := 17) rfl rfl
theorem q1698 : (Jvm.Cond.instanceMethod ({ cls := "WorkMeterModel", name := "mark", desc := "(IZ)Z" } : Jvm.MethodName)) ∈ xTT := xw8 (i := 18) rfl rfl
theorem q1699 : (Jvm.Cond.selects "WorkMeterModel" ({ cls := "WorkMeterModel", name := "mark", desc := "(IZ)Z" } : Jvm.MethodName) ({ cls := "WorkMeterModel", name := "mark", desc := "(IZ)Z" } : Jvm.MethodName)) ∈ xTT := xw8 (i := 19) rfl rfl
theorem q1700 : (Jvm.Cond.code ({ cls := "WorkMeterModel", name := "mark", desc := "(IZ)Z" } : Jvm.MethodName) prog_14_method_81_code (3 : Nat) (Option.some Jvm.ClassFile.FieldType.boolean)) ∈ xTT := xw8 (i := 20) rfl rfl
theorem q1701 : (Jvm.Cond.methodLink "WorkMeterLaw" (99 : Nat) ({ cls := "WorkMeterModel", name := "prepaid", desc := "(Z)Z" } : Jvm.MethodName)) ∈ xTT := xw8 (i := 21) rfl rfl
theorem q1702 : (Jvm.Cond.instanceMethod ({ cls := "WorkMeterModel", name := "prepaid", desc := "(Z)Z" } : Jvm.MethodName)) ∈ xTT := xw8 (i := 22) rfl rfl
theorem q1703 : (Jvm.Cond.selects "WorkMeterModel" ({ cls := "WorkMeterModel", name := "prepaid", desc := "(Z)Z" } : Jvm.MethodName) ({ cls := "WorkMeterModel", name := "prepaid", desc := "(Z)Z" } : Jvm.MethodName)) ∈ xTT := xw8 (i := 23) rfl rfl
theorem q1704 : (Jvm.Cond.code ({ cls := "WorkMeterModel", name := "prepaid", desc := "(Z)Z" } : Jvm.MethodName) prog_14_method_83_code (2 : Nat) (Option.some Jvm.ClassFile.FieldType.boolean)) ∈ xTT := xw8 (i := 24) rfl rfl
theorem q1705 : (Jvm.Cond.methodLink "WorkMeterLaw" (103 : Nat) ({ cls := "WorkMeterModel", name := "pay", desc := "(I)J" } : Jvm.MethodName)) ∈ xTT := xw8 (i := 25) rfl rfl
theorem q1706 : (Jvm.Cond.instanceMethod ({ cls := "WorkMeterModel", name := "pay", desc := "(I)J" } : Jvm.MethodName)) ∈ xTT := xw8 (i := 26) rfl rfl
theorem q1707 : (Jvm.Cond.selects "WorkMeterModel" ({ cls := "WorkMeterModel", name := "pay", desc := "(I)J" } : Jvm.MethodName) ({ cls := "WorkMeterModel", name := "pay", desc := "(I)J" } : Jvm.MethodName)) ∈ xTT := xw8 (i := 27) rfl rfl
theorem q1708 : (Jvm.Cond.code ({ cls := "WorkMeterModel", name := "pay", desc := "(I)J" } : Jvm.MethodName) prog_14_method_84_code (2 : Nat) (Option.some Jvm.ClassFile.FieldType.long)) ∈ xTT := xw8 (i := 28) rfl rfl
theorem q1709 : (Jvm.Cond.constantLong "WorkMeterModel" (325 : Nat) (1000000000 : Int64)) ∈ xTT := xw8 (i := 29) rfl rfl
theorem q1710 : (Jvm.Cond.methodLink "WorkMeterLaw" (107 : Nat) ({ cls := "WorkMeterModel", name := "bill", desc := "()I" } : Jvm.MethodName)) ∈ xTT := xw8 (i := 30) rfl rfl
theorem q1711 : (Jvm.Cond.instanceMethod ({ cls := "WorkMeterModel", name := "bill", desc := "()I" } : Jvm.MethodName)) ∈ xTT := xw8 (i := 31) rfl rfl
theorem q1712 : (Jvm.Cond.selects "WorkMeterModel" ({ cls := "WorkMeterModel", name := "bill", desc := "()I" } : Jvm.MethodName) ({ cls := "WorkMeterModel", name := "bill", desc := "()I" } : Jvm.MethodName)) ∈ xTT := xw8 (i := 32) rfl rfl
theorem q1713 : (Jvm.Cond.code ({ cls := "WorkMeterModel", name := "bill", desc := "()I" } : Jvm.MethodName) prog_14_method_86_code (3 : Nat) (Option.some Jvm.ClassFile.FieldType.int)) ∈ xTT := xw8 (i := 33) rfl rfl
theorem q1714 : (Jvm.Cond.methodLink "WorkMeterModel" (327 : Nat) ({ cls := "WorkMeterModel", name := "billMany", desc := "()I" } : Jvm.MethodName)) ∈ xTT := xw8 (i := 34) rfl rfl
theorem q1716 : (Jvm.Cond.instanceMethod ({ cls := "WorkMeterModel", name := "billMany", desc := "()I" } : Jvm.MethodName)) ∈ xTT := xw8 (i := 36) rfl rfl
theorem q1717 : (Jvm.Cond.code ({ cls := "WorkMeterModel", name := "billMany", desc := "()I" } : Jvm.MethodName) prog_14_method_85_code (1 : Nat) (Option.some Jvm.ClassFile.FieldType.int)) ∈ xTT := xw8 (i := 37) rfl rfl
theorem q1718 : (Jvm.Cond.methodLink "WorkMeterLaw" (161 : Nat) ({ cls := "WorkMeterModel", name := "billed", desc := "(III)J" } : Jvm.MethodName)) ∈ xTT := xw8 (i := 38) rfl rfl
theorem q1719 : (Jvm.Cond.instanceMethod ({ cls := "WorkMeterModel", name := "billed", desc := "(III)J" } : Jvm.MethodName)) ∈ xTT := xw8 (i := 39) rfl rfl
theorem q1720 : (Jvm.Cond.selects "WorkMeterModel" ({ cls := "WorkMeterModel", name := "billed", desc := "(III)J" } : Jvm.MethodName) ({ cls := "WorkMeterModel", name := "billed", desc := "(III)J" } : Jvm.MethodName)) ∈ xTT := xw8 (i := 40) rfl rfl
theorem q1721 : (Jvm.Cond.code ({ cls := "WorkMeterModel", name := "billed", desc := "(III)J" } : Jvm.MethodName) prog_14_method_90_code (6 : Nat) (Option.some Jvm.ClassFile.FieldType.long)) ∈ xTT := xw8 (i := 41) rfl rfl
theorem q1722 : (Jvm.Cond.methodLink "WorkMeterModel" (330 : Nat) ({ cls := "WorkMeterModel", name := "billAt", desc := "(I)I" } : Jvm.MethodName)) ∈ xTT := xw8 (i := 42) rfl rfl
theorem q1724 : (Jvm.Cond.instanceMethod ({ cls := "WorkMeterModel", name := "billAt", desc := "(I)I" } : Jvm.MethodName)) ∈ xTT := xw8 (i := 44) rfl rfl
theorem q1725 : (Jvm.Cond.code ({ cls := "WorkMeterModel", name := "billAt", desc := "(I)I" } : Jvm.MethodName) prog_14_method_87_code (3 : Nat) (Option.some Jvm.ClassFile.FieldType.int)) ∈ xTT := xw8 (i := 45) rfl rfl
theorem q1726 : (Jvm.Cond.methodLink "WorkMeterModel" (333 : Nat) ({ cls := "WorkMeterModel", name := "isRegister", desc := "(II)Z" } : Jvm.MethodName)) ∈ xTT := xw8 (i := 46) rfl rfl
theorem q1727 : (Jvm.Cond.static ({ cls := "WorkMeterModel", name := "isRegister", desc := "(II)Z" } : Jvm.MethodName)) ∈ xTT := xw8 (i := 47) rfl rfl
theorem q1728 : (Jvm.Cond.code ({ cls := "WorkMeterModel", name := "isRegister", desc := "(II)Z" } : Jvm.MethodName) prog_14_method_89_code (2 : Nat) (Option.some Jvm.ClassFile.FieldType.boolean)) ∈ xTT := xw8 (i := 48) rfl rfl
theorem q1729 : (Jvm.Cond.methodLink "WorkMeterModel" (336 : Nat) ({ cls := "WorkMeterModel", name := "rawAt", desc := "(II)I" } : Jvm.MethodName)) ∈ xTT := xw8 (i := 49) rfl rfl
theorem q1730 : (Jvm.Cond.static ({ cls := "WorkMeterModel", name := "rawAt", desc := "(II)I" } : Jvm.MethodName)) ∈ xTT := xw8 (i := 50) rfl rfl
theorem q1731 : (Jvm.Cond.code ({ cls := "WorkMeterModel", name := "rawAt", desc := "(II)I" } : Jvm.MethodName) prog_14_method_88_code (2 : Nat) (Option.some Jvm.ClassFile.FieldType.int)) ∈ xTT := xw8 (i := 51) rfl rfl
theorem q1732 : (Jvm.Cond.methodLink "WorkMeterLaw" (165 : Nat) ({ cls := "WorkMeterModel", name := "bills", desc := "(II)J" } : Jvm.MethodName)) ∈ xTT := xw8 (i := 52) rfl rfl
theorem q1733 : (Jvm.Cond.instanceMethod ({ cls := "WorkMeterModel", name := "bills", desc := "(II)J" } : Jvm.MethodName)) ∈ xTT := xw8 (i := 53) rfl rfl
theorem q1734 : (Jvm.Cond.selects "WorkMeterModel" ({ cls := "WorkMeterModel", name := "bills", desc := "(II)J" } : Jvm.MethodName) ({ cls := "WorkMeterModel", name := "bills", desc := "(II)J" } : Jvm.MethodName)) ∈ xTT := xw8 (i := 54) rfl rfl
theorem q1735 : (Jvm.Cond.code ({ cls := "WorkMeterModel", name := "bills", desc := "(II)J" } : Jvm.MethodName) prog_14_method_91_code (4 : Nat) (Option.some Jvm.ClassFile.FieldType.long)) ∈ xTT := xw8 (i := 55) rfl rfl
theorem q1736 : (Jvm.Cond.methodLink "WorkMeterLaw" (169 : Nat) ({ cls := "WorkMeterModel", name := "money", desc := "(II)J" } : Jvm.MethodName)) ∈ xTT := xw8 (i := 56) rfl rfl
theorem q1737 : (Jvm.Cond.instanceMethod ({ cls := "WorkMeterModel", name := "money", desc := "(II)J" } : Jvm.MethodName)) ∈ xTT := xw8 (i := 57) rfl rfl
theorem q1738 : (Jvm.Cond.selects "WorkMeterModel" ({ cls := "WorkMeterModel", name := "money", desc := "(II)J" } : Jvm.MethodName) ({ cls := "WorkMeterModel", name := "money", desc := "(II)J" } : Jvm.MethodName)) ∈ xTT := xw8 (i := 58) rfl rfl
theorem q1739 : (Jvm.Cond.code ({ cls := "WorkMeterModel", name := "money", desc := "(II)J" } : Jvm.MethodName) prog_14_method_93_code (16 : Nat) (Option.some Jvm.ClassFile.FieldType.long)) ∈ xTT := xw8 (i := 59) rfl rfl
theorem q1740 : (Jvm.Cond.methodLink "WorkMeterModel" (342 : Nat) ({ cls := "WorkMeterModel", name := "billed", desc := "(III)J" } : Jvm.MethodName)) ∈ xTT := xw8 (i := 60) rfl rfl
theorem q1741 : (Jvm.Cond.methodLink "WorkMeterModel" (339 : Nat) ({ cls := "WorkMeterModel", name := "divisor", desc := "(JJ)J" } : Jvm.MethodName)) ∈ xTT := xw8 (i := 61) rfl rfl
theorem q1742 : (Jvm.Cond.static ({ cls := "WorkMeterModel", name := "divisor", desc := "(JJ)J" } : Jvm.MethodName)) ∈ xTT := xw8 (i := 62) rfl rfl
theorem q1743 : (Jvm.Cond.code ({ cls := "WorkMeterModel", name := "divisor", desc := "(JJ)J" } : Jvm.MethodName) prog_14_method_92_code (4 : Nat) (Option.some Jvm.ClassFile.FieldType.long)) ∈ xTT := xw8 (i := 63) rfl rfl
theorem q1744 : (Jvm.Cond.methodLink "WorkMeterLaw" (116 : Nat) ({ cls := "WorkMeterModel", name := "raw", desc := "(II)J" } : Jvm.MethodName)) ∈ xTT := xw8 (i := 64) rfl rfl
theorem q1745 : (Jvm.Cond.instanceMethod ({ cls := "WorkMeterModel", name := "raw", desc := "(II)J" } : Jvm.MethodName)) ∈ xTT := xw8 (i := 65) rfl rfl
theorem q1746 : (Jvm.Cond.selects "WorkMeterModel" ({ cls := "WorkMeterModel", name := "raw", desc := "(II)J" } : Jvm.MethodName) ({ cls := "WorkMeterModel", name := "raw", desc := "(II)J" } : Jvm.MethodName)) ∈ xTT := xw8 (i := 66) rfl rfl
theorem q1747 : (Jvm.Cond.code ({ cls := "WorkMeterModel", name := "raw", desc := "(II)J" } : Jvm.MethodName) prog_14_method_94_code (3 : Nat) (Option.some Jvm.ClassFile.FieldType.long)) ∈ xTT := xw8 (i := 67) rfl rfl
theorem q1748 : (Jvm.Cond.methodLink "WorkMeterLaw" (120 : Nat) ({ cls := "WorkMeterModel", name := "reading", desc := "(II)J" } : Jvm.MethodName)) ∈ xTT := xw8 (i := 68) rfl rfl
theorem q1749 : (Jvm.Cond.instanceMethod ({ cls := "WorkMeterModel", name := "reading", desc := "(II)J" } : Jvm.MethodName)) ∈ xTT := xw8 (i := 69) rfl rfl
theorem q1750 : (Jvm.Cond.selects "WorkMeterModel" ({ cls := "WorkMeterModel", name := "reading", desc := "(II)J" } : Jvm.MethodName) ({ cls := "WorkMeterModel", name := "reading", desc := "(II)J" } : Jvm.MethodName)) ∈ xTT := xw8 (i := 70) rfl rfl
theorem q1751 : (Jvm.Cond.code ({ cls := "WorkMeterModel", name := "reading", desc := "(II)J" } : Jvm.MethodName) prog_14_method_95_code (3 : Nat) (Option.some Jvm.ClassFile.FieldType.long)) ∈ xTT := xw8 (i := 71) rfl rfl
theorem q1752 : (Jvm.Cond.methodLink "WorkMeterLaw" (140 : Nat) ({ cls := "WorkMeterModel", name := "marked", desc := "(II)I" } : Jvm.MethodName)) ∈ xTT := xw8 (i := 72) rfl rfl
theorem q1753 : (Jvm.Cond.instanceMethod ({ cls := "WorkMeterModel", name := "marked", desc := "(II)I" } : Jvm.MethodName)) ∈ xTT := xw8 (i := 73) rfl rfl
theorem q1754 : (Jvm.Cond.selects "WorkMeterModel" ({ cls := "WorkMeterModel", name := "marked", desc := "(II)I" } : Jvm.MethodName) ({ cls := "WorkMeterModel", name := "marked", desc := "(II)I" } : Jvm.MethodName)) ∈ xTT := xw8 (i := 74) rfl rfl
theorem q1755 : (Jvm.Cond.code ({ cls := "WorkMeterModel", name := "marked", desc := "(II)I" } : Jvm.MethodName) prog_14_method_96_code (3 : Nat) (Option.some Jvm.ClassFile.FieldType.int)) ∈ xTT := xw8 (i := 75) rfl rfl
theorem q1756 : (Jvm.Cond.methodLink "WorkMeterLaw" (144 : Nat) ({ cls := "WorkMeterModel", name := "load", desc := "(II)J" } : Jvm.MethodName)) ∈ xTT := xw8 (i := 76) rfl rfl
theorem q1757 : (Jvm.Cond.instanceMethod ({ cls := "WorkMeterModel", name := "load", desc := "(II)J" } : Jvm.MethodName)) ∈ xTT := xw8 (i := 77) rfl rfl
theorem q1758 : (Jvm.Cond.selects "WorkMeterModel" ({ cls := "WorkMeterModel", name := "load", desc := "(II)J" } : Jvm.MethodName) ({ cls := "WorkMeterModel", name := "load", desc := "(II)J" } : Jvm.MethodName)) ∈ xTT := xw8 (i := 78) rfl rfl
theorem q1759 : (Jvm.Cond.code ({ cls := "WorkMeterModel", name := "load", desc := "(II)J" } : Jvm.MethodName) prog_14_method_97_code (3 : Nat) (Option.some Jvm.ClassFile.FieldType.long)) ∈ xTT := xw8 (i := 79) rfl rfl
theorem q1760 : (Jvm.Cond.constantLong "WorkMeterModel" (346 : Nat) (5 : Int64)) ∈ xTT := xw8 (i := 80) rfl rfl
theorem q1761 : (Jvm.Cond.methodLink "WorkMeterLaw" (148 : Nat) ({ cls := "WorkMeterModel", name := "block", desc := "(I)J" } : Jvm.MethodName)) ∈ xTT := xw8 (i := 81) rfl rfl
theorem q1762 : (Jvm.Cond.instanceMethod ({ cls := "WorkMeterModel", name := "block", desc := "(I)J" } : Jvm.MethodName)) ∈ xTT := xw8 (i := 82) rfl rfl
theorem q1763 : (Jvm.Cond.selects "WorkMeterModel" ({ cls := "WorkMeterModel", name := "block", desc := "(I)J" } : Jvm.MethodName) ({ cls := "WorkMeterModel", name := "block", desc := "(I)J" } : Jvm.MethodName)) ∈ xTT := xw8 (i := 83) rfl rfl
theorem q1764 : (Jvm.Cond.code ({ cls := "WorkMeterModel", name := "block", desc := "(I)J" } : Jvm.MethodName) prog_14_method_98_code (2 : Nat) (Option.some Jvm.ClassFile.FieldType.long)) ∈ xTT := xw8 (i := 84) rfl rfl
theorem q1765 : (Jvm.Cond.methodLink "WorkMeterLaw" (152 : Nat) ({ cls := "WorkMeterModel", name := "demand", desc := "(I)J" } : Jvm.MethodName)) ∈ xTT := xw8 (i := 85) rfl rfl
theorem q1766 : (Jvm.Cond.instanceMethod ({ cls := "WorkMeterModel", name := "demand", desc := "(I)J" } : Jvm.MethodName)) ∈ xTT := xw8 (i := 86) rfl rfl
theorem q1767 : (Jvm.Cond.selects "WorkMeterModel" ({ cls := "WorkMeterModel", name := "demand", desc := "(I)J" } : Jvm.MethodName) ({ cls := "WorkMeterModel", name := "demand", desc := "(I)J" } : Jvm.MethodName)) ∈ xTT := xw8 (i := 87) rfl rfl
theorem q1768 : (Jvm.Cond.code ({ cls := "WorkMeterModel", name := "demand", desc := "(I)J" } : Jvm.MethodName) prog_14_method_99_code (2 : Nat) (Option.some Jvm.ClassFile.FieldType.long)) ∈ xTT := xw8 (i := 88) rfl rfl
theorem q1769 : (Jvm.Cond.methodLink "WorkMeterLaw" (156 : Nat) ({ cls := "WorkMeterModel", name := "greatest", desc := "(II)J" } : Jvm.MethodName)) ∈ xTT := xw8 (i := 89) rfl rfl
theorem q1770 : (Jvm.Cond.instanceMethod ({ cls := "WorkMeterModel", name := "greatest", desc := "(II)J" } : Jvm.MethodName)) ∈ xTT := xw8 (i := 90) rfl rfl
theorem q1771 : (Jvm.Cond.selects "WorkMeterModel" ({ cls := "WorkMeterModel", name := "greatest", desc := "(II)J" } : Jvm.MethodName) ({ cls := "WorkMeterModel", name := "greatest", desc := "(II)J" } : Jvm.MethodName)) ∈ xTT := xw8 (i := 91) rfl rfl
theorem q1772 : (Jvm.Cond.code ({ cls := "WorkMeterModel", name := "greatest", desc := "(II)J" } : Jvm.MethodName) prog_14_method_100_code (3 : Nat) (Option.some Jvm.ClassFile.FieldType.long)) ∈ xTT := xw8 (i := 92) rfl rfl
theorem q1773 : (Jvm.Cond.methodLink "WorkMeterLaw" (173 : Nat) ({ cls := "WorkMeterModel", name := "would", desc := "(II)J" } : Jvm.MethodName)) ∈ xTT := xw8 (i := 93) rfl rfl
theorem q1774 : (Jvm.Cond.instanceMethod ({ cls := "WorkMeterModel", name := "would", desc := "(II)J" } : Jvm.MethodName)) ∈ xTT := xw8 (i := 94) rfl rfl
theorem q1775 : (Jvm.Cond.selects "WorkMeterModel" ({ cls := "WorkMeterModel", name := "would", desc := "(II)J" } : Jvm.MethodName) ({ cls := "WorkMeterModel", name := "would", desc := "(II)J" } : Jvm.MethodName)) ∈ xTT := xw8 (i := 95) rfl rfl
theorem q1776 : (Jvm.Cond.code ({ cls := "WorkMeterModel", name := "would", desc := "(II)J" } : Jvm.MethodName) prog_14_method_104_code (5 : Nat) (Option.some Jvm.ClassFile.FieldType.long)) ∈ xTT := xw8 (i := 96) rfl rfl
theorem q1777 : (Jvm.Cond.methodLink "WorkMeterModel" (351 : Nat) ({ cls := "WorkMeterModel", name := "seen", desc := "(I)J" } : Jvm.MethodName)) ∈ xTT := xw8 (i := 97) rfl rfl
theorem q1779 : (Jvm.Cond.instanceMethod ({ cls := "WorkMeterModel", name := "seen", desc := "(I)J" } : Jvm.MethodName)) ∈ xTT := xw8 (i := 99) rfl rfl
theorem q1780 : (Jvm.Cond.code ({ cls := "WorkMeterModel", name := "seen", desc := "(I)J" } : Jvm.MethodName) prog_14_method_103_code (2 : Nat) (Option.some Jvm.ClassFile.FieldType.long)) ∈ xTT := xw8 (i := 100) rfl rfl
theorem q1781 : (Jvm.Cond.methodLink "WorkMeterModel" (348 : Nat) ({ cls := "WorkMeterModel", name := "greatestOfAll", desc := "()J" } : Jvm.MethodName)) ∈ xTT := xw8 (i := 101) rfl rfl
theorem q1783 : (Jvm.Cond.instanceMethod ({ cls := "WorkMeterModel", name := "greatestOfAll", desc := "()J" } : Jvm.MethodName)) ∈ xTT := xw8 (i := 103) rfl rfl
theorem q1784 : (Jvm.Cond.code ({ cls := "WorkMeterModel", name := "greatestOfAll", desc := "()J" } : Jvm.MethodName) prog_14_method_102_code (4 : Nat) (Option.some Jvm.ClassFile.FieldType.long)) ∈ xTT := xw8 (i := 104) rfl rfl
theorem q1785 : (Jvm.Cond.methodLink "WorkMeterLaw" (177 : Nat) ({ cls := "WorkMeterModel", name := "cost", desc := "(I)J" } : Jvm.MethodName)) ∈ xTT := xw8 (i := 105) rfl rfl
theorem q1786 : (Jvm.Cond.instanceMethod ({ cls := "WorkMeterModel", name := "cost", desc := "(I)J" } : Jvm.MethodName)) ∈ xTT := xw8 (i := 106) rfl rfl
theorem q1787 : (Jvm.Cond.selects "WorkMeterModel" ({ cls := "WorkMeterModel", name := "cost", desc := "(I)J" } : Jvm.MethodName) ({ cls := "WorkMeterModel", name := "cost", desc := "(I)J" } : Jvm.MethodName)) ∈ xTT := xw8 (i := 107) rfl rfl
theorem q1788 : (Jvm.Cond.code ({ cls := "WorkMeterModel", name := "cost", desc := "(I)J" } : Jvm.MethodName) prog_14_method_107_code (2 : Nat) (Option.some Jvm.ClassFile.FieldType.long)) ∈ xTT := xw8 (i := 108) rfl rfl
theorem q1789 : (Jvm.Cond.methodLink "WorkMeterModel" (357 : Nat) ({ cls := "WorkMeterModel", name := "costFrom", desc := "(II)J" } : Jvm.MethodName)) ∈ xTT := xw8 (i := 109) rfl rfl
theorem q1791 : (Jvm.Cond.instanceMethod ({ cls := "WorkMeterModel", name := "costFrom", desc := "(II)J" } : Jvm.MethodName)) ∈ xTT := xw8 (i := 111) rfl rfl
theorem q1792 : (Jvm.Cond.code ({ cls := "WorkMeterModel", name := "costFrom", desc := "(II)J" } : Jvm.MethodName) prog_14_method_106_code (8 : Nat) (Option.some Jvm.ClassFile.FieldType.long)) ∈ xTT := xw8 (i := 112) rfl rfl
theorem q1793 : (Jvm.Cond.methodLink "WorkMeterModel" (354 : Nat) ({ cls := "WorkMeterModel", name := "costOfDay", desc := "(III)J" } : Jvm.MethodName)) ∈ xTT := xw8 (i := 113) rfl rfl
theorem q1795 : (Jvm.Cond.instanceMethod ({ cls := "WorkMeterModel", name := "costOfDay", desc := "(III)J" } : Jvm.MethodName)) ∈ xTT := xw8 (i := 115) rfl rfl
theorem q1796 : (Jvm.Cond.code ({ cls := "WorkMeterModel", name := "costOfDay", desc := "(III)J" } : Jvm.MethodName) prog_14_method_105_code (13 : Nat) (Option.some Jvm.ClassFile.FieldType.long)) ∈ xTT := xw8 (i := 116) rfl rfl
theorem q1797 : (Jvm.Cond.methodLink "WorkMeterLaw" (181 : Nat) ({ cls := "WorkMeterModel", name := "cheapest", desc := "(II)J" } : Jvm.MethodName)) ∈ xTT := xw8 (i := 117) rfl rfl
theorem q1798 : (Jvm.Cond.instanceMethod ({ cls := "WorkMeterModel", name := "cheapest", desc := "(II)J" } : Jvm.MethodName)) ∈ xTT := xw8 (i := 118) rfl rfl
theorem q1799 : (Jvm.Cond.selects "WorkMeterModel" ({ cls := "WorkMeterModel", name := "cheapest", desc := "(II)J" } : Jvm.MethodName) ({ cls := "WorkMeterModel", name := "cheapest", desc := "(II)J" } : Jvm.MethodName)) ∈ xTT := xw8 (i := 119) rfl rfl
theorem q1800 : (Jvm.Cond.code ({ cls := "WorkMeterModel", name := "cheapest", desc := "(II)J" } : Jvm.MethodName) prog_14_method_108_code (6 : Nat) (Option.some Jvm.ClassFile.FieldType.long)) ∈ xTT := xw8 (i := 120) rfl rfl
theorem q1801 : (Jvm.Cond.constantLong "WorkMeterModel" (360 : Nat) (85500 : Int64)) ∈ xTT := xw8 (i := 121) rfl rfl
theorem q1802 : (Jvm.Cond.methodLink "WorkMeterLaw" (185 : Nat) ({ cls := "WorkMeterModel", name := "lasts", desc := "()I" } : Jvm.MethodName)) ∈ xTT := xw8 (i := 122) rfl rfl
theorem q1803 : (Jvm.Cond.instanceMethod ({ cls := "WorkMeterModel", name := "lasts", desc := "()I" } : Jvm.MethodName)) ∈ xTT := xw8 (i := 123) rfl rfl
theorem q1804 : (Jvm.Cond.selects "WorkMeterModel" ({ cls := "WorkMeterModel", name := "lasts", desc := "()I" } : Jvm.MethodName) ({ cls := "WorkMeterModel", name := "lasts", desc := "()I" } : Jvm.MethodName)) ∈ xTT := xw8 (i := 124) rfl rfl
theorem q1805 : (Jvm.Cond.code ({ cls := "WorkMeterModel", name := "lasts", desc := "()I" } : Jvm.MethodName) prog_14_method_109_code (3 : Nat) (Option.some Jvm.ClassFile.FieldType.int)) ∈ xTT := xw8 (i := 125) rfl rfl
theorem q1806 : (Jvm.Cond.methodLink "WorkMeterLaw" (189 : Nat) ({ cls := "WorkMeterModel", name := "lost", desc := "(I)J" } : Jvm.MethodName)) ∈ xTT := xw8 (i := 126) rfl rfl
theorem q1807 : (Jvm.Cond.instanceMethod ({ cls := "WorkMeterModel", name := "lost", desc := "(I)J" } : Jvm.MethodName)) ∈ xTT := xw8 (i := 127) rfl rfl
theorem q1808 : (Jvm.Cond.selects "WorkMeterModel" ({ cls := "WorkMeterModel", name := "lost", desc := "(I)J" } : Jvm.MethodName) ({ cls := "WorkMeterModel", name := "lost", desc := "(I)J" } : Jvm.MethodName)) ∈ xTT := xw8 (i := 128) rfl rfl
theorem q1809 : (Jvm.Cond.code ({ cls := "WorkMeterModel", name := "lost", desc := "(I)J" } : Jvm.MethodName) prog_14_method_110_code (2 : Nat) (Option.some Jvm.ClassFile.FieldType.long)) ∈ xTT := xw8 (i := 129) rfl rfl
theorem q1810 : (Jvm.Cond.methodLink "WorkMeterLaw" (193 : Nat) ({ cls := "WorkMeterModel", name := "best", desc := "(II)J" } : Jvm.MethodName)) ∈ xTT := xw8 (i := 130) rfl rfl
theorem q1811 : (Jvm.Cond.instanceMethod ({ cls := "WorkMeterModel", name := "best", desc := "(II)J" } : Jvm.MethodName)) ∈ xTT := xw8 (i := 131) rfl rfl
theorem q1812 : (Jvm.Cond.selects "WorkMeterModel" ({ cls := "WorkMeterModel", name := "best", desc := "(II)J" } : Jvm.MethodName) ({ cls := "WorkMeterModel", name := "best", desc := "(II)J" } : Jvm.MethodName)) ∈ xTT := xw8 (i := 132) rfl rfl
theorem q1813 : (Jvm.Cond.code ({ cls := "WorkMeterModel", name := "best", desc := "(II)J" } : Jvm.MethodName) prog_14_method_111_code (10 : Nat) (Option.some Jvm.ClassFile.FieldType.long)) ∈ xTT := xw8 (i := 133) rfl rfl
theorem q1814 : (Jvm.Cond.methodLink "WorkMeterLaw" (197 : Nat) ({ cls := "WorkMeterModel", name := "between", desc := "(II)J" } : Jvm.MethodName)) ∈ xTT := xw8 (i := 134) rfl rfl
theorem q1815 : (Jvm.Cond.instanceMethod ({ cls := "WorkMeterModel", name := "between", desc := "(II)J" } : Jvm.MethodName)) ∈ xTT := xw8 (i := 135) rfl rfl
theorem q1816 : (Jvm.Cond.selects "WorkMeterModel" ({ cls := "WorkMeterModel", name := "between", desc := "(II)J" } : Jvm.MethodName) ({ cls := "WorkMeterModel", name := "between", desc := "(II)J" } : Jvm.MethodName)) ∈ xTT := xw8 (i := 136) rfl rfl
theorem q1817 : (Jvm.Cond.code ({ cls := "WorkMeterModel", name := "between", desc := "(II)J" } : Jvm.MethodName) prog_14_method_112_code (6 : Nat) (Option.some Jvm.ClassFile.FieldType.long)) ∈ xTT := xw8 (i := 137) rfl rfl
theorem q1818 : (Jvm.Cond.methodLink "WorkMeterLaw" (201 : Nat) ({ cls := "WorkMeterModel", name := "log", desc := "(II)I" } : Jvm.MethodName)) ∈ xTT := xw8 (i := 138) rfl rfl
theorem q1819 : (Jvm.Cond.instanceMethod ({ cls := "WorkMeterModel", name := "log", desc := "(II)I" } : Jvm.MethodName)) ∈ xTT := xw8 (i := 139) rfl rfl
theorem q1820 : (Jvm.Cond.selects "WorkMeterModel" ({ cls := "WorkMeterModel", name := "log", desc := "(II)I" } : Jvm.MethodName) ({ cls := "WorkMeterModel", name := "log", desc := "(II)I" } : Jvm.MethodName)) ∈ xTT := xw8 (i := 140) rfl rfl
theorem q1821 : (Jvm.Cond.code ({ cls := "WorkMeterModel", name := "log", desc := "(II)I" } : Jvm.MethodName) prog_14_method_113_code (4 : Nat) (Option.some Jvm.ClassFile.FieldType.int)) ∈ xTT := xw8 (i := 141) rfl rfl
theorem q1822 : (Jvm.Cond.methodLink "WorkMeterLaw" (209 : Nat) ({ cls := "WorkMeterModel", name := "image", desc := "(Z)Z" } : Jvm.MethodName)) ∈ xTT := xw8 (i := 142) rfl rfl
theorem q1823 : (Jvm.Cond.instanceMethod ({ cls := "WorkMeterModel", name := "image", desc := "(Z)Z" } : Jvm.MethodName)) ∈ xTT := xw8 (i := 143) rfl rfl
theorem q1824 : (Jvm.Cond.selects "WorkMeterModel" ({ cls := "WorkMeterModel", name := "image", desc := "(Z)Z" } : Jvm.MethodName) ({ cls := "WorkMeterModel", name := "image", desc := "(Z)Z" } : Jvm.MethodName)) ∈ xTT := xw8 (i := 144) rfl rfl
theorem q1825 : (Jvm.Cond.code ({ cls := "WorkMeterModel", name := "image", desc := "(Z)Z" } : Jvm.MethodName) prog_14_method_114_code (2 : Nat) (Option.some Jvm.ClassFile.FieldType.boolean)) ∈ xTT := xw8 (i := 145) rfl rfl
theorem q1826 : (Jvm.Cond.methodLink "WorkMeterLaw" (213 : Nat) ({ cls := "WorkMeterModel", name := "look", desc := "(I)J" } : Jvm.MethodName)) ∈ xTT := xw8 (i := 146) rfl rfl
theorem q1827 : (Jvm.Cond.instanceMethod ({ cls := "WorkMeterModel", name := "look", desc := "(I)J" } : Jvm.MethodName)) ∈ xTT := xw8 (i := 147) rfl rfl
theorem q1828 : (Jvm.Cond.selects "WorkMeterModel" ({ cls := "WorkMeterModel", name := "look", desc := "(I)J" } : Jvm.MethodName) ({ cls := "WorkMeterModel", name := "look", desc := "(I)J" } : Jvm.MethodName)) ∈ xTT := xw8 (i := 148) rfl rfl
theorem q1829 : (Jvm.Cond.code ({ cls := "WorkMeterModel", name := "look", desc := "(I)J" } : Jvm.MethodName) prog_14_method_115_code (2 : Nat) (Option.some Jvm.ClassFile.FieldType.long)) ∈ xTT := xw8 (i := 149) rfl rfl
theorem q1830 : (Jvm.Cond.constantLong "WorkMeterModel" (365 : Nat) (30 : Int64)) ∈ xTT := xw8 (i := 150) rfl rfl
theorem q1831 : (Jvm.Cond.constantLong "WorkMeterModel" (367 : Nat) (33 : Int64)) ∈ xTT := xw8 (i := 151) rfl rfl
theorem q1832 : (Jvm.Cond.constantLong "WorkMeterModel" (369 : Nat) (43 : Int64)) ∈ xTT := xw8 (i := 152) rfl rfl
theorem q1833 : (Jvm.Cond.constantLong "WorkMeterModel" (371 : Nat) (20 : Int64)) ∈ xTT := xw8 (i := 153) rfl rfl
theorem q1834 : (Jvm.Cond.constantLong "WorkMeterModel" (373 : Nat) (25 : Int64)) ∈ xTT := xw8 (i := 154) rfl rfl
theorem q1835 : (Jvm.Cond.constantLong "WorkMeterModel" (375 : Nat) (50 : Int64)) ∈ xTT := xw8 (i := 155) rfl rfl
theorem q1836 : (Jvm.Cond.constantLong "WorkMeterModel" (377 : Nat) (52 : Int64)) ∈ xTT := xw8 (i := 156) rfl rfl
theorem q1837 : (Jvm.Cond.fieldLink "java/lang/String" (9 : Nat) "java/lang/String" "value" "[B") ∈ xTT := xw8 (i := 157) rfl rfl
theorem q1838 : (Jvm.Cond.fieldLink "java/lang/String" (15 : Nat) "java/lang/String" "coder" "B") ∈ xTT := xw8 (i := 158) rfl rfl
theorem qs0 : Jvm.Cond.selects "WorkMeter$Wave" ⟨"WorkMeter$Wave", "sumUp", "()V"⟩ ⟨"WorkMeter$Wave", "sumUp", "()V"⟩ ∈ xTT := xwS (i := 0) rfl rfl
theorem qs1 : Jvm.Cond.selects "WorkMeter$Wave" ⟨"WorkMeter$Wave", "addTo", "(III)V"⟩ ⟨"WorkMeter$Wave", "addTo", "(III)V"⟩ ∈ xTT := xwS (i := 1) rfl rfl
theorem qs2 : Jvm.Cond.selects "WorkMeter$Wave" ⟨"WorkMeter$Wave", "apparentOf", "(I)J"⟩ ⟨"WorkMeter$Wave", "apparentOf", "(I)J"⟩ ∈ xTT := xwS (i := 2) rfl rfl
theorem qs3 : Jvm.Cond.selects "WorkMeter$Meter" ⟨"WorkMeter$Meter", "meterStretch", "(I)I"⟩ ⟨"WorkMeter$Meter", "meterStretch", "(I)I"⟩ ∈ xTT := xwS (i := 3) rfl rfl
theorem qs4 : Jvm.Cond.selects "WorkMeter$Calendar" ⟨"WorkMeter$Calendar", "specialPlace", "(I)I"⟩ ⟨"WorkMeter$Calendar", "specialPlace", "(I)I"⟩ ∈ xTT := xwS (i := 4) rfl rfl
theorem qs5 : Jvm.Cond.selects "WorkMeter$Calendar" ⟨"WorkMeter$Calendar", "seasonOf", "(I)I"⟩ ⟨"WorkMeter$Calendar", "seasonOf", "(I)I"⟩ ∈ xTT := xwS (i := 5) rfl rfl
theorem qs6 : Jvm.Cond.selects "WorkMeter$Calendar" ⟨"WorkMeter$Calendar", "tariffIn", "(II)I"⟩ ⟨"WorkMeter$Calendar", "tariffIn", "(II)I"⟩ ∈ xTT := xwS (i := 6) rfl rfl
theorem qs7 : Jvm.Cond.selects "WorkMeter$Calendar" ⟨"WorkMeter$Calendar", "switchesBefore", "(II)I"⟩ ⟨"WorkMeter$Calendar", "switchesBefore", "(II)I"⟩ ∈ xTT := xwS (i := 7) rfl rfl
theorem qs8 : Jvm.Cond.selects "WorkMeter$Meter" ⟨"WorkMeter$Meter", "stretch", "(III)I"⟩ ⟨"WorkMeter$Meter", "stretch", "(III)I"⟩ ∈ xTT := xwS (i := 8) rfl rfl
theorem qs9 : Jvm.Cond.selects "WorkMeter$Meter" ⟨"WorkMeter$Meter", "secondsToOpen", "(II)I"⟩ ⟨"WorkMeter$Meter", "secondsToOpen", "(II)I"⟩ ∈ xTT := xwS (i := 9) rfl rfl
theorem qs10 : Jvm.Cond.selects "WorkMeter$Meter" ⟨"WorkMeter$Meter", "isCreeping", "()Z"⟩ ⟨"WorkMeter$Meter", "isCreeping", "()Z"⟩ ∈ xTT := xwS (i := 10) rfl rfl
theorem qs11 : Jvm.Cond.selects "WorkMeter$Meter" ⟨"WorkMeter$Meter", "meterPower", "(II)V"⟩ ⟨"WorkMeter$Meter", "meterPower", "(II)V"⟩ ∈ xTT := xwS (i := 11) rfl rfl
theorem qs12 : Jvm.Cond.selects "WorkMeter$Meter" ⟨"WorkMeter$Meter", "endBlockIfDue", "(I)V"⟩ ⟨"WorkMeter$Meter", "endBlockIfDue", "(I)V"⟩ ∈ xTT := xwS (i := 12) rfl rfl
theorem qs13 : Jvm.Cond.selects "WorkMeter$Load" ⟨"WorkMeter$Load", "addLine", "(II)V"⟩ ⟨"WorkMeter$Load", "addLine", "(II)V"⟩ ∈ xTT := xwS (i := 13) rfl rfl
theorem qs14 : Jvm.Cond.selects "WorkMeter$CalendarText" ⟨"WorkMeter$CalendarText", "skipBlanks", "()V"⟩ ⟨"WorkMeter$CalendarText", "skipBlanks", "()V"⟩ ∈ xTT := xwS (i := 14) rfl rfl
theorem qs15 : Jvm.Cond.selects "WorkMeter$CalendarText" ⟨"WorkMeter$CalendarText", "readLine", "()Z"⟩ ⟨"WorkMeter$CalendarText", "readLine", "()Z"⟩ ∈ xTT := xwS (i := 15) rfl rfl
theorem qs16 : Jvm.Cond.selects "WorkMeter$CalendarText" ⟨"WorkMeter$CalendarText", "lettersHere", "()I"⟩ ⟨"WorkMeter$CalendarText", "lettersHere", "()I"⟩ ∈ xTT := xwS (i := 16) rfl rfl
theorem qs17 : Jvm.Cond.selects "WorkMeter$CalendarText" ⟨"WorkMeter$CalendarText", "spells", "(Ljava/lang/String;I)Z"⟩ ⟨"WorkMeter$CalendarText", "spells", "(Ljava/lang/String;I)Z"⟩ ∈ xTT := xwS (i := 17) rfl rfl
theorem qs18 : Jvm.Cond.selects "WorkMeter$CalendarText" ⟨"WorkMeter$CalendarText", "readTable", "()Z"⟩ ⟨"WorkMeter$CalendarText", "readTable", "()Z"⟩ ∈ xTT := xwS (i := 18) rfl rfl
theorem qs19 : Jvm.Cond.selects "WorkMeter$CalendarText" ⟨"WorkMeter$CalendarText", "passWord", "(Ljava/lang/String;)V"⟩ ⟨"WorkMeter$CalendarText", "passWord", "(Ljava/lang/String;)V"⟩ ∈ xTT := xwS (i := 19) rfl rfl
theorem qs20 : Jvm.Cond.selects "WorkMeter$CalendarText" ⟨"WorkMeter$CalendarText", "readNewNumber", "(II)I"⟩ ⟨"WorkMeter$CalendarText", "readNewNumber", "(II)I"⟩ ∈ xTT := xwS (i := 20) rfl rfl
theorem qs21 : Jvm.Cond.selects "WorkMeter$CalendarText" ⟨"WorkMeter$CalendarText", "readNumber", "(I)I"⟩ ⟨"WorkMeter$CalendarText", "readNumber", "(I)I"⟩ ∈ xTT := xwS (i := 21) rfl rfl
theorem qs22 : Jvm.Cond.selects "WorkMeter$CalendarText" ⟨"WorkMeter$CalendarText", "fail", "(II)Z"⟩ ⟨"WorkMeter$CalendarText", "fail", "(II)Z"⟩ ∈ xTT := xwS (i := 22) rfl rfl
theorem qs23 : Jvm.Cond.selects "WorkMeter$CalendarText" ⟨"WorkMeter$CalendarText", "digitHere", "()Z"⟩ ⟨"WorkMeter$CalendarText", "digitHere", "()Z"⟩ ∈ xTT := xwS (i := 23) rfl rfl
theorem qs24 : Jvm.Cond.selects "WorkMeter$CalendarText" ⟨"WorkMeter$CalendarText", "readSwitch", "(I)Z"⟩ ⟨"WorkMeter$CalendarText", "readSwitch", "(I)Z"⟩ ∈ xTT := xwS (i := 24) rfl rfl
theorem qs25 : Jvm.Cond.selects "WorkMeter$CalendarText" ⟨"WorkMeter$CalendarText", "readSign", "(C)Z"⟩ ⟨"WorkMeter$CalendarText", "readSign", "(C)Z"⟩ ∈ xTT := xwS (i := 25) rfl rfl
theorem qs26 : Jvm.Cond.selects "WorkMeter$CalendarText" ⟨"WorkMeter$CalendarText", "readSeason", "()Z"⟩ ⟨"WorkMeter$CalendarText", "readSeason", "()Z"⟩ ∈ xTT := xwS (i := 26) rfl rfl
theorem qs27 : Jvm.Cond.selects "WorkMeter$CalendarText" ⟨"WorkMeter$CalendarText", "readSpecial", "()Z"⟩ ⟨"WorkMeter$CalendarText", "readSpecial", "()Z"⟩ ∈ xTT := xwS (i := 27) rfl rfl
theorem qs28 : Jvm.Cond.selects "WorkMeter$CalendarText" ⟨"WorkMeter$CalendarText", "readPrices", "()Z"⟩ ⟨"WorkMeter$CalendarText", "readPrices", "()Z"⟩ ∈ xTT := xwS (i := 28) rfl rfl
theorem qs29 : Jvm.Cond.selects "WorkMeter$Wave" ⟨"WorkMeter$Wave", "rootMean", "(II)J"⟩ ⟨"WorkMeter$Wave", "rootMean", "(II)J"⟩ ∈ xTT := xwS (i := 29) rfl rfl
theorem qs30 : Jvm.Cond.selects "WorkMeter$Registers" ⟨"WorkMeter$Registers", "rowOf", "(I)I"⟩ ⟨"WorkMeter$Registers", "rowOf", "(I)I"⟩ ∈ xTT := xwS (i := 30) rfl rfl
theorem qs31 : Jvm.Cond.selects "WorkMeter" ⟨"WorkMeter", "lookAtMeter", "(I)J"⟩ ⟨"WorkMeter", "lookAtMeter", "(I)J"⟩ ∈ xTT := xwS (i := 31) rfl rfl
theorem qs32 : Jvm.Cond.selects "WorkMeter" ⟨"WorkMeter", "lookAtCounts", "(I)J"⟩ ⟨"WorkMeter", "lookAtCounts", "(I)J"⟩ ∈ xTT := xwS (i := 32) rfl rfl
theorem qs33 : Jvm.Cond.selects "WorkMeter" ⟨"WorkMeter", "lookAtSeal", "(I)J"⟩ ⟨"WorkMeter", "lookAtSeal", "(I)J"⟩ ∈ xTT := xwS (i := 33) rfl rfl
theorem qs34 : Jvm.Cond.selects "WorkMeterModel" ⟨"WorkMeterModel", "isShut", "()Z"⟩ ⟨"WorkMeterModel", "isShut", "()Z"⟩ ∈ xTT := xwS (i := 34) rfl rfl
theorem qs35 : Jvm.Cond.selects "WorkMeterModel" ⟨"WorkMeterModel", "p", "()I"⟩ ⟨"WorkMeterModel", "p", "()I"⟩ ∈ xTT := xwS (i := 35) rfl rfl
theorem qs36 : Jvm.Cond.selects "WorkMeterModel" ⟨"WorkMeterModel", "meters", "()V"⟩ ⟨"WorkMeterModel", "meters", "()V"⟩ ∈ xTT := xwS (i := 36) rfl rfl
theorem qs37 : Jvm.Cond.selects "WorkMeterModel" ⟨"WorkMeterModel", "together", "(I)J"⟩ ⟨"WorkMeterModel", "together", "(I)J"⟩ ∈ xTT := xwS (i := 37) rfl rfl
theorem qs38 : Jvm.Cond.selects "WorkMeterModel" ⟨"WorkMeterModel", "active", "(I)J"⟩ ⟨"WorkMeterModel", "active", "(I)J"⟩ ∈ xTT := xwS (i := 38) rfl rfl
theorem qs39 : Jvm.Cond.selects "WorkMeterModel" ⟨"WorkMeterModel", "n", "()I"⟩ ⟨"WorkMeterModel", "n", "()I"⟩ ∈ xTT := xwS (i := 39) rfl rfl
theorem qs40 : Jvm.Cond.selects "WorkMeterModel" ⟨"WorkMeterModel", "reactive", "(I)J"⟩ ⟨"WorkMeterModel", "reactive", "(I)J"⟩ ∈ xTT := xwS (i := 40) rfl rfl
theorem qs41 : Jvm.Cond.selects "WorkMeterModel" ⟨"WorkMeterModel", "squares", "(II)J"⟩ ⟨"WorkMeterModel", "squares", "(II)J"⟩ ∈ xTT := xwS (i := 41) rfl rfl
theorem qs42 : Jvm.Cond.selects "WorkMeterModel" ⟨"WorkMeterModel", "registers", "(JJJ)V"⟩ ⟨"WorkMeterModel", "registers", "(JJJ)V"⟩ ∈ xTT := xwS (i := 42) rfl rfl
theorem qs43 : Jvm.Cond.selects "WorkMeterModel" ⟨"WorkMeterModel", "tariff", "(I)I"⟩ ⟨"WorkMeterModel", "tariff", "(I)I"⟩ ∈ xTT := xwS (i := 43) rfl rfl
theorem qs44 : Jvm.Cond.selects "WorkMeterModel" ⟨"WorkMeterModel", "tableAt", "(I)I"⟩ ⟨"WorkMeterModel", "tableAt", "(I)I"⟩ ∈ xTT := xwS (i := 44) rfl rfl
theorem qs45 : Jvm.Cond.selects "WorkMeterModel" ⟨"WorkMeterModel", "seasonOf", "(I)I"⟩ ⟨"WorkMeterModel", "seasonOf", "(I)I"⟩ ∈ xTT := xwS (i := 45) rfl rfl
theorem qs46 : Jvm.Cond.selects "WorkMeterModel" ⟨"WorkMeterModel", "counts", "(IIJ)V"⟩ ⟨"WorkMeterModel", "counts", "(IIJ)V"⟩ ∈ xTT := xwS (i := 46) rfl rfl
theorem qs47 : Jvm.Cond.selects "WorkMeterModel" ⟨"WorkMeterModel", "switches", "()V"⟩ ⟨"WorkMeterModel", "switches", "()V"⟩ ∈ xTT := xwS (i := 47) rfl rfl
theorem qs48 : Jvm.Cond.selects "WorkMeterModel" ⟨"WorkMeterModel", "logs", "(IJ)V"⟩ ⟨"WorkMeterModel", "logs", "(IJ)V"⟩ ∈ xTT := xwS (i := 48) rfl rfl
theorem qs49 : Jvm.Cond.selects "WorkMeterModel" ⟨"WorkMeterModel", "marks", "()V"⟩ ⟨"WorkMeterModel", "marks", "()V"⟩ ∈ xTT := xwS (i := 49) rfl rfl
theorem qs50 : Jvm.Cond.selects "WorkMeterModel" ⟨"WorkMeterModel", "isMissing", "()Z"⟩ ⟨"WorkMeterModel", "isMissing", "()Z"⟩ ∈ xTT := xwS (i := 50) rfl rfl
theorem qs51 : Jvm.Cond.selects "WorkMeterModel" ⟨"WorkMeterModel", "isReversed", "()Z"⟩ ⟨"WorkMeterModel", "isReversed", "()Z"⟩ ∈ xTT := xwS (i := 51) rfl rfl
theorem qs52 : Jvm.Cond.selects "WorkMeterModel" ⟨"WorkMeterModel", "isStrange", "()Z"⟩ ⟨"WorkMeterModel", "isStrange", "()Z"⟩ ∈ xTT := xwS (i := 52) rfl rfl
theorem qs53 : Jvm.Cond.selects "WorkMeterModel" ⟨"WorkMeterModel", "turnsOn", "(I)V"⟩ ⟨"WorkMeterModel", "turnsOn", "(I)V"⟩ ∈ xTT := xwS (i := 53) rfl rfl
theorem qs54 : Jvm.Cond.selects "WorkMeterModel" ⟨"WorkMeterModel", "turnsOff", "(I)V"⟩ ⟨"WorkMeterModel", "turnsOff", "(I)V"⟩ ∈ xTT := xwS (i := 54) rfl rfl
theorem qs55 : Jvm.Cond.selects "WorkMeterModel" ⟨"WorkMeterModel", "goes", "()V"⟩ ⟨"WorkMeterModel", "goes", "()V"⟩ ∈ xTT := xwS (i := 55) rfl rfl
theorem qs56 : Jvm.Cond.selects "WorkMeterModel" ⟨"WorkMeterModel", "marksOn", "()J"⟩ ⟨"WorkMeterModel", "marksOn", "()J"⟩ ∈ xTT := xwS (i := 56) rfl rfl
theorem qs57 : Jvm.Cond.selects "WorkMeterModel" ⟨"WorkMeterModel", "ends", "(J)V"⟩ ⟨"WorkMeterModel", "ends", "(J)V"⟩ ∈ xTT := xwS (i := 57) rfl rfl
theorem qs58 : Jvm.Cond.selects "WorkMeterModel" ⟨"WorkMeterModel", "beginsBlock", "()V"⟩ ⟨"WorkMeterModel", "beginsBlock", "()V"⟩ ∈ xTT := xwS (i := 58) rfl rfl
theorem qs59 : Jvm.Cond.selects "WorkMeterModel" ⟨"WorkMeterModel", "line", "(II)J"⟩ ⟨"WorkMeterModel", "line", "(II)J"⟩ ∈ xTT := xwS (i := 59) rfl rfl
theorem qs60 : Jvm.Cond.selects "WorkMeterModel" ⟨"WorkMeterModel", "lines", "()I"⟩ ⟨"WorkMeterModel", "lines", "()I"⟩ ∈ xTT := xwS (i := 60) rfl rfl
theorem qs61 : Jvm.Cond.selects "WorkMeterModel" ⟨"WorkMeterModel", "demands", "()V"⟩ ⟨"WorkMeterModel", "demands", "()V"⟩ ∈ xTT := xwS (i := 61) rfl rfl
theorem qs62 : Jvm.Cond.selects "WorkMeterModel" ⟨"WorkMeterModel", "greatestRoot", "(I)J"⟩ ⟨"WorkMeterModel", "greatestRoot", "(I)J"⟩ ∈ xTT := xwS (i := 62) rfl rfl
theorem qs63 : Jvm.Cond.selects "WorkMeterModel" ⟨"WorkMeterModel", "puts", "(III)I"⟩ ⟨"WorkMeterModel", "puts", "(III)I"⟩ ∈ xTT := xwS (i := 63) rfl rfl
theorem qs64 : Jvm.Cond.selects "WorkMeterModel" ⟨"WorkMeterModel", "specials", "()I"⟩ ⟨"WorkMeterModel", "specials", "()I"⟩ ∈ xTT := xwS (i := 64) rfl rfl
theorem qs65 : Jvm.Cond.selects "WorkMeterModel" ⟨"WorkMeterModel", "nextTime", "()I"⟩ ⟨"WorkMeterModel", "nextTime", "()I"⟩ ∈ xTT := xwS (i := 65) rfl rfl
theorem qs66 : Jvm.Cond.selects "WorkMeterModel" ⟨"WorkMeterModel", "comes", "(I)V"⟩ ⟨"WorkMeterModel", "comes", "(I)V"⟩ ∈ xTT := xwS (i := 66) rfl rfl
theorem qs67 : Jvm.Cond.selects "WorkMeterModel" ⟨"WorkMeterModel", "clears", "()V"⟩ ⟨"WorkMeterModel", "clears", "()V"⟩ ∈ xTT := xwS (i := 67) rfl rfl
theorem qs68 : Jvm.Cond.selects "WorkMeterModel" ⟨"WorkMeterModel", "blanks", "()V"⟩ ⟨"WorkMeterModel", "blanks", "()V"⟩ ∈ xTT := xwS (i := 68) rfl rfl
theorem qs69 : Jvm.Cond.selects "WorkMeterModel" ⟨"WorkMeterModel", "line", "()V"⟩ ⟨"WorkMeterModel", "line", "()V"⟩ ∈ xTT := xwS (i := 69) rfl rfl
theorem qs70 : Jvm.Cond.selects "WorkMeterModel" ⟨"WorkMeterModel", "word", "()I"⟩ ⟨"WorkMeterModel", "word", "()I"⟩ ∈ xTT := xwS (i := 70) rfl rfl
theorem qs71 : Jvm.Cond.selects "WorkMeterModel" ⟨"WorkMeterModel", "spells", "(IIIIIIII)Z"⟩ ⟨"WorkMeterModel", "spells", "(IIIIIIII)Z"⟩ ∈ xTT := xwS (i := 71) rfl rfl
theorem qs72 : Jvm.Cond.selects "WorkMeterModel" ⟨"WorkMeterModel", "wordEnd", "()I"⟩ ⟨"WorkMeterModel", "wordEnd", "()I"⟩ ∈ xTT := xwS (i := 72) rfl rfl
theorem qs73 : Jvm.Cond.selects "WorkMeterModel" ⟨"WorkMeterModel", "wrong", "(II)V"⟩ ⟨"WorkMeterModel", "wrong", "(II)V"⟩ ∈ xTT := xwS (i := 73) rfl rfl
theorem qs74 : Jvm.Cond.selects "WorkMeterModel" ⟨"WorkMeterModel", "tableLine", "()V"⟩ ⟨"WorkMeterModel", "tableLine", "()V"⟩ ∈ xTT := xwS (i := 74) rfl rfl
theorem qs75 : Jvm.Cond.selects "WorkMeterModel" ⟨"WorkMeterModel", "number", "(II)I"⟩ ⟨"WorkMeterModel", "number", "(II)I"⟩ ∈ xTT := xwS (i := 75) rfl rfl
theorem qs76 : Jvm.Cond.selects "WorkMeterModel" ⟨"WorkMeterModel", "isDigitNext", "()Z"⟩ ⟨"WorkMeterModel", "isDigitNext", "()Z"⟩ ∈ xTT := xwS (i := 76) rfl rfl
theorem qs77 : Jvm.Cond.selects "WorkMeterModel" ⟨"WorkMeterModel", "must", "(C)V"⟩ ⟨"WorkMeterModel", "must", "(C)V"⟩ ∈ xTT := xwS (i := 77) rfl rfl
theorem qs78 : Jvm.Cond.selects "WorkMeterModel" ⟨"WorkMeterModel", "isSwitch", "(II)Z"⟩ ⟨"WorkMeterModel", "isSwitch", "(II)Z"⟩ ∈ xTT := xwS (i := 78) rfl rfl
theorem qs79 : Jvm.Cond.selects "WorkMeterModel" ⟨"WorkMeterModel", "seasonLine", "()V"⟩ ⟨"WorkMeterModel", "seasonLine", "()V"⟩ ∈ xTT := xwS (i := 79) rfl rfl
theorem qs80 : Jvm.Cond.selects "WorkMeterModel" ⟨"WorkMeterModel", "specialLine", "()V"⟩ ⟨"WorkMeterModel", "specialLine", "()V"⟩ ∈ xTT := xwS (i := 80) rfl rfl
theorem qs81 : Jvm.Cond.selects "WorkMeterModel" ⟨"WorkMeterModel", "lockedFor", "()J"⟩ ⟨"WorkMeterModel", "lockedFor", "()J"⟩ ∈ xTT := xwS (i := 81) rfl rfl
theorem qs82 : Jvm.Cond.selects "WorkMeterModel" ⟨"WorkMeterModel", "billMany", "()I"⟩ ⟨"WorkMeterModel", "billMany", "()I"⟩ ∈ xTT := xwS (i := 82) rfl rfl
theorem qs83 : Jvm.Cond.selects "WorkMeterModel" ⟨"WorkMeterModel", "billAt", "(I)I"⟩ ⟨"WorkMeterModel", "billAt", "(I)I"⟩ ∈ xTT := xwS (i := 83) rfl rfl
theorem qs84 : Jvm.Cond.selects "WorkMeterModel" ⟨"WorkMeterModel", "seen", "(I)J"⟩ ⟨"WorkMeterModel", "seen", "(I)J"⟩ ∈ xTT := xwS (i := 84) rfl rfl
theorem qs85 : Jvm.Cond.selects "WorkMeterModel" ⟨"WorkMeterModel", "greatestOfAll", "()J"⟩ ⟨"WorkMeterModel", "greatestOfAll", "()J"⟩ ∈ xTT := xwS (i := 85) rfl rfl
theorem qs86 : Jvm.Cond.selects "WorkMeterModel" ⟨"WorkMeterModel", "costFrom", "(II)J"⟩ ⟨"WorkMeterModel", "costFrom", "(II)J"⟩ ∈ xTT := xwS (i := 86) rfl rfl
theorem qs87 : Jvm.Cond.selects "WorkMeterModel" ⟨"WorkMeterModel", "costOfDay", "(III)J"⟩ ⟨"WorkMeterModel", "costOfDay", "(III)J"⟩ ∈ xTT := xwS (i := 87) rfl rfl
