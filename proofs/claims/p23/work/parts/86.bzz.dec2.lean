/-! The tables' instructions against the bytes of the methods: each distinct instruction is decoded once. -/
abbrev yEn : Type := Option xI × List UInt8
def yGood (e : yEn) : Bool := match e.1 with
  | none => true
  | some x => match e.2 with
    | op :: r => Nat.beq (Nat.land (Nat.shiftRight yMask op.toNat) 1) 1 && decide (decode ⟨⟨op :: r⟩⟩ 0 = .ok (x.1, x.2.1))
    | [] => false
noncomputable def yPre (b : List UInt8) : List UInt8 → Bool := @List.rec UInt8 (fun _ => List UInt8 → Bool) (fun _ => true) (fun a _ ih w => match w with
  | [] => false
  | c :: t => Nat.beq a.toNat c.toNat && ih t) b
theorem yPre_c {b c : UInt8} {r t : List UInt8} : yPre (b :: r) (c :: t) = (Nat.beq b.toNat c.toNat && yPre r t) := rfl
theorem yPre_n {b : UInt8} {r : List UInt8} : yPre (b :: r) [] = false := rfl
noncomputable def yOne (cc : ByteArray) (nL pc : Nat) (L : List UInt8) (e : yEn) : Bool := match e.1 with
  | none => true
  | some x => ((yGood e && yPre e.2 L) || decide (decode cc pc = .ok (x.1, x.2.1))) && x_stokb x.1 nL
noncomputable def yWalk (cc : ByteArray) (nL pc : Nat) (L : List UInt8) (r : List yEn) : Bool := @List.rec yEn (fun _ => Nat → List UInt8 → Bool) (fun _ _ => true) (fun e _ ih pc L => yOne cc nL pc L e && ih (pc + 1) L.tail) r pc L
theorem yWalk_c {cc : ByteArray} {nL pc : Nat} {L : List UInt8} {e : yEn} {r : List yEn} : yWalk cc nL pc L (e :: r) = (yOne cc nL pc L e && yWalk cc nL (pc + 1) L.tail r) := rfl
noncomputable def yRows (cc : ByteArray) (nL pc : Nat) (L : List UInt8) (t : List (List yEn)) : Bool := @List.rec (List yEn) (fun _ => Nat → List UInt8 → Bool) (fun _ _ => true) (fun r _ ih pc L => yWalk cc nL pc L r && ih (pc + 16) (L.drop 16)) t pc L
theorem yRows_c {cc : ByteArray} {nL pc : Nat} {L : List UInt8} {r : List yEn} {t : List (List yEn)} : yRows cc nL pc L (r :: t) = (yWalk cc nL pc L r && yRows cc nL (pc + 16) (L.drop 16) t) := rfl
theorem y_drop {k n : Nat} {l w : List UInt8} (h : yWin k l w) : yWin (k + n) l (w.drop n) := fun i b e => by
  rw [List.getElem?_drop] at e
  have h1 := h _ b e
  rwa [show n + i + k = i + (k + n) by omega] at h1
theorem y_pre {k : Nat} {l : List UInt8} : ∀ (b w : List UInt8), yWin k l w → yPre b w = true → yWin k l b := by
  intro b w hw h
  have key : ∀ (b w : List UInt8), yPre b w = true → ∀ (i : Nat) (c : UInt8), b[i]? = some c → w[i]? = some c := by
    intro b
    induction b with
    | nil =>
      intro w _ i c e
      simp at e
    | cons a r ih =>
      intro w h i c e
      cases w with
      | nil =>
        rw [yPre_n] at h
        cases h
      | cons d t =>
        rw [yPre_c, Bool.and_eq_true] at h
        have hd : a = d := UInt8.toNat_inj.mp (Nat.eq_of_beq_eq_true h.1)
        cases i with
        | zero =>
          rw [List.getElem?_cons_zero] at e ⊢
          rw [← hd]
          exact e
        | succ i =>
          rw [List.getElem?_cons_succ] at e ⊢
          exact ih t h.2 i c e
  exact fun i c e => hw i c (key b w h i c e)
theorem y_walk {cc : ByteArray} {nL : Nat} : ∀ (r : List yEn) (pc : Nat) (L : List UInt8), yWin pc cc.data.toList L → yWalk cc nL pc L r = true → x_rchk cc nL pc (r.map Prod.fst) = true
  | [], _, _, _, _ => rfl
  | (none, b) :: r, pc, L, hw, h => by
    rw [yWalk_c, Bool.and_eq_true] at h
    exact y_walk r (pc + 1) L.tail (by rw [← List.drop_one]; exact y_drop hw) h.2
  | (some x, b) :: r, pc, L, hw, h => by
    rw [yWalk_c, Bool.and_eq_true] at h
    obtain ⟨h, h3⟩ := h
    simp only [yOne, Bool.and_eq_true, Bool.or_eq_true] at h
    obtain ⟨h1, h2⟩ := h
    have h4 := y_walk r (pc + 1) L.tail (by rw [← List.drop_one]; exact y_drop hw) h3
    have h5 : decode cc pc = .ok (x.1, x.2.1) := by
      rcases h1 with ⟨g, p⟩ | h1
      · cases b with
        | nil => exact absurd g (by simp [yGood])
        | cons op t =>
          simp only [yGood, Bool.and_eq_true] at g
          have h6 := y_dec (y_pre _ L hw p) (p := 0) (fun b e => by
            rw [List.getElem?_cons_zero] at e
            cases e
            exact y_mask _ op.toNat_lt g.1) (of_decide_eq_true g.2)
          rw [Nat.zero_add] at h6
          exact h6
      · exact of_decide_eq_true h1
    show (decide (decode cc pc = .ok (x.1, x.2.1)) && (x_stokb x.1 nL && x_rchk cc nL (pc + 1) (r.map Prod.fst))) = true
    rw [decide_eq_true h5, h2, h4]
    rfl
theorem y_rows {cc : ByteArray} {nL : Nat} : ∀ (t : List (List yEn)) (pc : Nat) (L : List UInt8), yWin pc cc.data.toList L → yRows cc nL pc L t = true → x_tchk cc nL pc (t.map (List.map Prod.fst)) = true
  | [], _, _, _, _ => rfl
  | r :: t, pc, L, hw, h => by
    rw [yRows_c, Bool.and_eq_true] at h
    exact x_tcons (y_walk r pc L hw h.1) (y_rows t (pc + 16) (L.drop 16) (y_drop hw) h.2)
noncomputable def zqn : yEn := (none, [])
noncomputable def zq0 : yEn := (ze0, [42])
noncomputable def zq1 : yEn := (ze1, [183, 0, 3])
noncomputable def zq2 : yEn := (ze2, [187, 0, 9])
noncomputable def zq3 : yEn := (ze3, [89])
noncomputable def zq4 : yEn := (ze4, [183, 0, 11])
noncomputable def zq5 : yEn := (ze5, [181, 0, 12])
noncomputable def zq6 : yEn := (ze6, [181, 0, 16])
noncomputable def zq7 : yEn := (ze7, [181, 0, 19])
noncomputable def zq8 : yEn := (ze8, [187, 0, 22])
noncomputable def zq9 : yEn := (ze9, [183, 0, 24])
noncomputable def zq10 : yEn := (ze10, [181, 0, 25])
noncomputable def zq11 : yEn := (ze11, [177])
noncomputable def zq12 : yEn := (ze12, [187, 0, 9])
noncomputable def zq13 : yEn := (ze13, [183, 0, 11])
noncomputable def zq14 : yEn := (ze14, [181, 0, 12])
noncomputable def zq15 : yEn := (ze15, [187, 0, 18])
noncomputable def zq16 : yEn := (ze16, [183, 0, 20])
noncomputable def zq17 : yEn := (ze17, [181, 0, 21])
noncomputable def zq18 : yEn := (ze18, [187, 0, 25])
noncomputable def zq19 : yEn := (ze19, [183, 0, 27])
noncomputable def zq20 : yEn := (ze20, [181, 0, 28])
noncomputable def zq21 : yEn := (ze21, [187, 0, 32])
noncomputable def zq22 : yEn := (ze22, [183, 0, 34])
noncomputable def zq23 : yEn := (ze23, [181, 0, 35])
noncomputable def zq24 : yEn := (ze24, [187, 0, 39])
noncomputable def zq25 : yEn := (ze25, [183, 0, 41])
noncomputable def zq26 : yEn := (ze26, [181, 0, 42])
noncomputable def zq27 : yEn := (ze27, [187, 0, 46])
noncomputable def zq28 : yEn := (ze28, [183, 0, 48])
noncomputable def zq29 : yEn := (ze29, [181, 0, 49])
noncomputable def zq30 : yEn := (ze30, [187, 0, 53])
noncomputable def zq31 : yEn := (ze31, [183, 0, 55])
noncomputable def zq32 : yEn := (ze32, [181, 0, 56])
noncomputable def zq33 : yEn := (ze33, [187, 0, 60])
noncomputable def zq34 : yEn := (ze34, [183, 0, 62])
noncomputable def zq35 : yEn := (ze35, [181, 0, 63])
noncomputable def zq36 : yEn := (ze36, [187, 0, 67])
noncomputable def zq37 : yEn := (ze37, [183, 0, 69])
noncomputable def zq38 : yEn := (ze38, [181, 0, 70])
noncomputable def zq39 : yEn := (ze39, [16, 13])
noncomputable def zq40 : yEn := (ze40, [])
noncomputable def zq41 : yEn := (ze41, [181, 0, 11])
noncomputable def zq42 : yEn := (ze42, [178, 0, 15])
noncomputable def zq43 : yEn := (ze43, [3])
noncomputable def zq44 : yEn := (ze44, [180, 0, 11])
noncomputable def zq45 : yEn := (ze45, [184, 0, 18])
noncomputable def zq46 : yEn := (ze46, [183, 0, 5])
noncomputable def zq47 : yEn := (ze47, [16, 8])
noncomputable def zq48 : yEn := (ze48, [181, 0, 11])
noncomputable def zq49 : yEn := (ze49, [16, 48])
noncomputable def zq50 : yEn := (ze50, [181, 0, 15])
noncomputable def zq51 : yEn := (ze51, [181, 0, 18])
noncomputable def zq52 : yEn := (ze52, [7])
noncomputable def zq53 : yEn := (ze53, [181, 0, 21])
noncomputable def zq54 : yEn := (ze54, [16, 28])
noncomputable def zq55 : yEn := (ze55, [181, 0, 24])
noncomputable def zq56 : yEn := (ze56, [16, 16])
noncomputable def zq57 : yEn := (ze57, [181, 0, 27])
noncomputable def zq58 : yEn := (ze58, [181, 0, 30])
noncomputable def zq59 : yEn := (ze59, [182, 0, 33])
noncomputable def zq60 : yEn := (ze60, [180, 0, 11])
noncomputable def zq61 : yEn := (ze61, [184, 0, 36])
noncomputable def zq62 : yEn := (ze62, [180, 0, 21])
noncomputable def zq63 : yEn := (ze63, [2])
noncomputable def zq64 : yEn := (ze64, [79])
noncomputable def zq65 : yEn := (ze65, [180, 0, 24])
noncomputable def zq66 : yEn := (ze66, [181, 0, 42])
noncomputable def zq67 : yEn := (ze67, [61])
noncomputable def zq68 : yEn := (ze68, [190])
noncomputable def zq69 : yEn := (ze69, [62])
noncomputable def zq70 : yEn := (ze70, [28])
noncomputable def zq71 : yEn := (ze71, [29])
noncomputable def zq72 : yEn := (ze72, [162, 0, 13])
noncomputable def zq73 : yEn := (ze73, [28])
noncomputable def zq74 : yEn := (ze74, [27])
noncomputable def zq75 : yEn := (ze75, [132, 2, 1])
noncomputable def zq76 : yEn := (ze76, [167, 255, 244])
noncomputable def zq77 : yEn := (ze77, [177])
noncomputable def zq78 : yEn := (ze78, [181, 0, 11])
noncomputable def zq79 : yEn := (ze79, [181, 0, 15])
noncomputable def zq80 : yEn := (ze80, [])
noncomputable def zq81 : yEn := (ze81, [181, 0, 18])
noncomputable def zq82 : yEn := (ze82, [4])
noncomputable def zq83 : yEn := (ze83, [181, 0, 22])
noncomputable def zq84 : yEn := (ze84, [181, 0, 26])
noncomputable def zq85 : yEn := (ze85, [181, 0, 11])
noncomputable def zq86 : yEn := (ze86, [181, 0, 15])
noncomputable def zq87 : yEn := (ze87, [17, 0, 198])
noncomputable def zq88 : yEn := (ze88, [181, 0, 18])
noncomputable def zq89 : yEn := (ze89, [17, 1, 128])
noncomputable def zq90 : yEn := (ze90, [181, 0, 11])
noncomputable def zq91 : yEn := (ze91, [181, 0, 15])
noncomputable def zq92 : yEn := (ze92, [181, 0, 9])
noncomputable def zq93 : yEn := (ze93, [181, 0, 15])
noncomputable def zq94 : yEn := (ze94, [20, 0, 19])
noncomputable def zq95 : yEn := (ze95, [181, 0, 21])
noncomputable def zq96 : yEn := (ze96, [181, 0, 25])
noncomputable def zq97 : yEn := (ze97, [182, 0, 29])
noncomputable def zq98 : yEn := (ze98, [180, 0, 9])
noncomputable def zq99 : yEn := (ze99, [184, 0, 32])
noncomputable def zq100 : yEn := (ze100, [180, 0, 15])
noncomputable def zq101 : yEn := (ze101, [184, 0, 38])
noncomputable def zq102 : yEn := (ze102, [54, 4])
noncomputable def zq103 : yEn := (ze103, [29])
noncomputable def zq104 : yEn := (ze104, [21, 4])
noncomputable def zq105 : yEn := (ze105, [31])
noncomputable def zq106 : yEn := (ze106, [80])
noncomputable def zq107 : yEn := (ze107, [132, 3, 1])
noncomputable def zq108 : yEn := (ze108, [167, 255, 243])
noncomputable def zq109 : yEn := (ze109, [183, 0, 1])
noncomputable def zq110 : yEn := (ze110, [8])
noncomputable def zq111 : yEn := (ze111, [181, 0, 9])
noncomputable def zq112 : yEn := (ze112, [181, 0, 13])
noncomputable def zq113 : yEn := (ze113, [181, 0, 16])
noncomputable def zq114 : yEn := (ze114, [16, 120])
noncomputable def zq115 : yEn := (ze115, [181, 0, 9])
noncomputable def zq116 : yEn := (ze116, [17, 1, 44])
noncomputable def zq117 : yEn := (ze117, [181, 0, 11])
noncomputable def zq118 : yEn := (ze118, [187, 0, 15])
noncomputable def zq119 : yEn := (ze119, [183, 0, 17])
noncomputable def zq120 : yEn := (ze120, [181, 0, 18])
noncomputable def zq121 : yEn := (ze121, [181, 0, 22])
noncomputable def zq122 : yEn := (ze122, [181, 0, 25])
noncomputable def zq123 : yEn := (ze123, [180, 0, 12])
noncomputable def zq124 : yEn := (ze124, [180, 0, 29])
noncomputable def zq125 : yEn := (ze125, [182, 0, 33])
noncomputable def zq126 : yEn := (ze126, [153, 0, 5])
noncomputable def zq127 : yEn := (ze127, [172])
noncomputable def zq128 : yEn := (ze128, [42])
noncomputable def zq129 : yEn := (ze129, [180, 0, 39])
noncomputable def zq130 : yEn := (ze130, [182, 0, 43])
noncomputable def zq131 : yEn := (ze131, [180, 0, 7])
noncomputable def zq132 : yEn := (ze132, [153, 0, 13])
noncomputable def zq133 : yEn := (ze133, [180, 0, 20])
noncomputable def zq134 : yEn := (ze134, [96])
noncomputable def zq135 : yEn := (ze135, [181, 0, 20])
noncomputable def zq136 : yEn := (ze136, [42])
noncomputable def zq137 : yEn := (ze137, [161, 0, 25])
noncomputable def zq138 : yEn := (ze138, [6])
noncomputable def zq139 : yEn := (ze139, [163, 0, 20])
noncomputable def zq140 : yEn := (ze140, [161, 0, 15])
noncomputable def zq141 : yEn := (ze141, [163, 0, 9])
noncomputable def zq142 : yEn := (ze142, [112])
noncomputable def zq143 : yEn := (ze143, [3])
noncomputable def zq144 : yEn := (ze144, [181, 0, 35])
noncomputable def zq145 : yEn := (ze145, [9])
noncomputable def zq146 : yEn := (ze146, [181, 0, 38])
noncomputable def zq147 : yEn := (ze147, [180, 0, 18])
noncomputable def zq148 : yEn := (ze148, [184, 0, 42])
noncomputable def zq149 : yEn := (ze149, [17, 254, 12])
noncomputable def zq150 : yEn := (ze150, [161, 0, 24])
noncomputable def zq151 : yEn := (ze151, [17, 1, 244])
noncomputable def zq152 : yEn := (ze152, [163, 0, 17])
noncomputable def zq153 : yEn := (ze153, [161, 0, 10])
noncomputable def zq154 : yEn := (ze154, [164, 0, 5])
noncomputable def zq155 : yEn := (ze155, [2])
noncomputable def zq156 : yEn := (ze156, [182, 0, 49])
noncomputable def zq157 : yEn := (ze157, [153, 0, 11])
noncomputable def zq158 : yEn := (ze158, [182, 0, 52])
noncomputable def zq159 : yEn := (ze159, [180, 0, 56])
noncomputable def zq160 : yEn := (ze160, [180, 0, 11])
noncomputable def zq161 : yEn := (ze161, [180, 0, 35])
noncomputable def zq162 : yEn := (ze162, [180, 0, 15])
noncomputable def zq163 : yEn := (ze163, [180, 0, 22])
noncomputable def zq164 : yEn := (ze164, [180, 0, 26])
noncomputable def zq165 : yEn := (ze165, [104])
noncomputable def zq166 : yEn := (ze166, [162, 0, 5])
noncomputable def zq167 : yEn := (ze167, [182, 0, 48])
noncomputable def zq168 : yEn := (ze168, [108])
noncomputable def zq169 : yEn := (ze169, [60])
noncomputable def zq170 : yEn := (ze170, [28])
noncomputable def zq171 : yEn := (ze171, [162, 0, 142])
noncomputable def zq172 : yEn := (ze172, [21, 4])
noncomputable def zq173 : yEn := (ze173, [162, 0, 115])
noncomputable def zq174 : yEn := (ze174, [54, 5])
noncomputable def zq175 : yEn := (ze175, [21, 5])
noncomputable def zq176 : yEn := (ze176, [46])
noncomputable def zq177 : yEn := (ze177, [182, 0, 51])
noncomputable def zq178 : yEn := (ze178, [5])
noncomputable def zq179 : yEn := (ze179, [132, 4, 1])
noncomputable def zq180 : yEn := (ze180, [167, 255, 138])
noncomputable def zq181 : yEn := (ze181, [132, 2, 1])
noncomputable def zq182 : yEn := (ze182, [167, 255, 112])
noncomputable def zq183 : yEn := (ze183, [182, 0, 55])
noncomputable def zq184 : yEn := (ze184, [92])
noncomputable def zq185 : yEn := (ze185, [47])
noncomputable def zq186 : yEn := (ze186, [133])
noncomputable def zq187 : yEn := (ze187, [97])
noncomputable def zq188 : yEn := (ze188, [65])
noncomputable def zq189 : yEn := (ze189, [55, 4])
noncomputable def zq190 : yEn := (ze190, [32])
noncomputable def zq191 : yEn := (ze191, [105])
noncomputable def zq192 : yEn := (ze192, [22, 4])
noncomputable def zq193 : yEn := (ze193, [184, 0, 59])
noncomputable def zq194 : yEn := (ze194, [173])
noncomputable def zq195 : yEn := (ze195, [16, 25])
noncomputable def zq196 : yEn := (ze196, [21, 4])
noncomputable def zq197 : yEn := (ze197, [155, 0, 30])
noncomputable def zq198 : yEn := (ze198, [10])
noncomputable def zq199 : yEn := (ze199, [121])
noncomputable def zq200 : yEn := (ze200, [55, 5])
noncomputable def zq201 : yEn := (ze201, [22, 5])
noncomputable def zq202 : yEn := (ze202, [30])
noncomputable def zq203 : yEn := (ze203, [148])
noncomputable def zq204 : yEn := (ze204, [157, 0, 6])
noncomputable def zq205 : yEn := (ze205, [132, 4, 255])
noncomputable def zq206 : yEn := (ze206, [167, 255, 227])
noncomputable def zq207 : yEn := (ze207, [32])
noncomputable def zq208 : yEn := (ze208, [29])
noncomputable def zq209 : yEn := (ze209, [162, 0, 21])
noncomputable def zq210 : yEn := (ze210, [158, 0, 17])
noncomputable def zq211 : yEn := (ze211, [182, 0, 214])
noncomputable def zq212 : yEn := (ze212, [100])
noncomputable def zq213 : yEn := (ze213, [167, 255, 236])
noncomputable def zq214 : yEn := (ze214, [180, 0, 21])
noncomputable def zq215 : yEn := (ze215, [180, 0, 102])
noncomputable def zq216 : yEn := (ze216, [182, 0, 208])
noncomputable def zq217 : yEn := (ze217, [180, 0, 28])
noncomputable def zq218 : yEn := (ze218, [180, 0, 12])
noncomputable def zq219 : yEn := (ze219, [182, 0, 217])
noncomputable def zq220 : yEn := (ze220, [182, 0, 220])
noncomputable def zq221 : yEn := (ze221, [182, 0, 223])
noncomputable def zq222 : yEn := (ze222, [182, 0, 227])
noncomputable def zq223 : yEn := (ze223, [180, 0, 117])
noncomputable def zq224 : yEn := (ze224, [181, 0, 117])
noncomputable def zq225 : yEn := (ze225, [181, 0, 102])
noncomputable def zq226 : yEn := (ze226, [182, 0, 230])
noncomputable def zq227 : yEn := (ze227, [180, 0, 56])
noncomputable def zq228 : yEn := (ze228, [182, 0, 233])
noncomputable def zq229 : yEn := (ze229, [180, 0, 63])
noncomputable def zq230 : yEn := (ze230, [182, 0, 236])
noncomputable def zq231 : yEn := (ze231, [180, 0, 42])
noncomputable def zq232 : yEn := (ze232, [180, 0, 202])
noncomputable def zq233 : yEn := (ze233, [182, 0, 240])
noncomputable def zq234 : yEn := (ze234, [18, 243])
noncomputable def zq235 : yEn := (ze235, [42])
noncomputable def zq236 : yEn := (ze236, [182, 0, 211])
noncomputable def zq237 : yEn := (ze237, [18, 67])
noncomputable def zq238 : yEn := (ze238, [182, 0, 68])
noncomputable def zq239 : yEn := (ze239, [182, 0, 71])
noncomputable def zq240 : yEn := (ze240, [17, 1, 109])
noncomputable def zq241 : yEn := (ze241, [182, 0, 60])
noncomputable def zq242 : yEn := (ze242, [159, 0, 10])
noncomputable def zq243 : yEn := (ze243, [180, 0, 30])
noncomputable def zq244 : yEn := (ze244, [42])
noncomputable def zq245 : yEn := (ze245, [182, 0, 64])
noncomputable def zq246 : yEn := (ze246, [16, 7])
noncomputable def zq247 : yEn := (ze247, [180, 0, 42])
noncomputable def zq248 : yEn := (ze248, [180, 0, 27])
noncomputable def zq249 : yEn := (ze249, [160, 0, 5])
noncomputable def zq250 : yEn := (ze250, [167, 255, 233])
noncomputable def zq251 : yEn := (ze251, [162, 0, 77])
noncomputable def zq252 : yEn := (ze252, [160, 0, 6])
noncomputable def zq253 : yEn := (ze253, [167, 0, 57])
noncomputable def zq254 : yEn := (ze254, [42])
noncomputable def zq255 : yEn := (ze255, [163, 0, 27])
noncomputable def zq256 : yEn := (ze256, [159, 0, 19])
noncomputable def zq257 : yEn := (ze257, [164, 0, 6])
noncomputable def zq258 : yEn := (ze258, [21, 4])
noncomputable def zq259 : yEn := (ze259, [132, 4, 1])
noncomputable def zq260 : yEn := (ze260, [167, 255, 179])
noncomputable def zq261 : yEn := (ze261, [28])
noncomputable def zq262 : yEn := (ze262, [160, 0, 7])
noncomputable def zq263 : yEn := (ze263, [167, 0, 4])
noncomputable def zq264 : yEn := (ze264, [28])
noncomputable def zq265 : yEn := (ze265, [172])
noncomputable def zq266 : yEn := (ze266, [182, 0, 52])
noncomputable def zq267 : yEn := (ze267, [154, 0, 7])
noncomputable def zq268 : yEn := (ze268, [167, 0, 16])
noncomputable def zq269 : yEn := (ze269, [42])
noncomputable def zq270 : yEn := (ze270, [180, 0, 18])
noncomputable def zq271 : yEn := (ze271, [16, 6])
noncomputable def zq272 : yEn := (ze272, [162, 0, 22])
noncomputable def zq273 : yEn := (ze273, [180, 0, 15])
noncomputable def zq274 : yEn := (ze274, [162, 0, 9])
noncomputable def zq275 : yEn := (ze275, [167, 255, 229])
noncomputable def zq276 : yEn := (ze276, [21, 4])
noncomputable def zq277 : yEn := (ze277, [54, 6])
noncomputable def zq278 : yEn := (ze278, [54, 7])
noncomputable def zq279 : yEn := (ze279, [21, 7])
noncomputable def zq280 : yEn := (ze280, [162, 0, 155])
noncomputable def zq281 : yEn := (ze281, [21, 7])
noncomputable def zq282 : yEn := (ze282, [55, 8])
noncomputable def zq283 : yEn := (ze283, [55, 10])
noncomputable def zq284 : yEn := (ze284, [22, 8])
noncomputable def zq285 : yEn := (ze285, [156, 0, 7])
noncomputable def zq286 : yEn := (ze286, [3])
noncomputable def zq287 : yEn := (ze287, [54, 12])
noncomputable def zq288 : yEn := (ze288, [154, 0, 8])
noncomputable def zq289 : yEn := (ze289, [21, 12])
noncomputable def zq290 : yEn := (ze290, [153, 0, 7])
noncomputable def zq291 : yEn := (ze291, [4])
noncomputable def zq292 : yEn := (ze292, [3])
noncomputable def zq293 : yEn := (ze293, [61])
noncomputable def zq294 : yEn := (ze294, [4])
noncomputable def zq295 : yEn := (ze295, [3])
noncomputable def zq296 : yEn := (ze296, [62])
noncomputable def zq297 : yEn := (ze297, [154, 0, 10])
noncomputable def zq298 : yEn := (ze298, [22, 10])
noncomputable def zq299 : yEn := (ze299, [158, 0, 7])
noncomputable def zq300 : yEn := (ze300, [4])
noncomputable def zq301 : yEn := (ze301, [3])
noncomputable def zq302 : yEn := (ze302, [54, 4])
noncomputable def zq303 : yEn := (ze303, [4])
noncomputable def zq304 : yEn := (ze304, [3])
noncomputable def zq305 : yEn := (ze305, [54, 5])
noncomputable def zq306 : yEn := (ze306, [21, 6])
noncomputable def zq307 : yEn := (ze307, [154, 0, 25])
noncomputable def zq308 : yEn := (ze308, [154, 0, 22])
noncomputable def zq309 : yEn := (ze309, [16, 12])
noncomputable def zq310 : yEn := (ze310, [4])
noncomputable def zq311 : yEn := (ze311, [3])
noncomputable def zq312 : yEn := (ze312, [54, 6])
noncomputable def zq313 : yEn := (ze313, [132, 7, 1])
noncomputable def zq314 : yEn := (ze314, [167, 255, 98])
noncomputable def zq315 : yEn := (ze315, [28])
noncomputable def zq316 : yEn := (ze316, [3])
noncomputable def zq317 : yEn := (ze317, [21, 4])
noncomputable def zq318 : yEn := (ze318, [153, 0, 8])
noncomputable def zq319 : yEn := (ze319, [3])
noncomputable def zq320 : yEn := (ze320, [128])
noncomputable def zq321 : yEn := (ze321, [128])
noncomputable def zq322 : yEn := (ze322, [161, 0, 5])
noncomputable def zq323 : yEn := (ze323, [42])
noncomputable def zq324 : yEn := (ze324, [182, 0, 142])
noncomputable def zq325 : yEn := (ze325, [184, 0, 196])
noncomputable def zq326 : yEn := (ze326, [182, 0, 244])
noncomputable def zq327 : yEn := (ze327, [182, 0, 247])
noncomputable def zq328 : yEn := (ze328, [182, 0, 250])
noncomputable def zq329 : yEn := (ze329, [184, 0, 34])
noncomputable def zq330 : yEn := (ze330, [162, 0, 18])
noncomputable def zq331 : yEn := (ze331, [167, 0, 5])
noncomputable def zq332 : yEn := (ze332, [18, 67])
noncomputable def zq333 : yEn := (ze333, [54, 5])
noncomputable def zq334 : yEn := (ze334, [21, 5])
noncomputable def zq335 : yEn := (ze335, [162, 0, 78])
noncomputable def zq336 : yEn := (ze336, [122])
noncomputable def zq337 : yEn := (ze337, [126])
noncomputable def zq338 : yEn := (ze338, [3])
noncomputable def zq339 : yEn := (ze339, [54, 6])
noncomputable def zq340 : yEn := (ze340, [182, 0, 35])
noncomputable def zq341 : yEn := (ze341, [153, 0, 10])
noncomputable def zq342 : yEn := (ze342, [154, 0, 5])
noncomputable def zq343 : yEn := (ze343, [42])
noncomputable def zq344 : yEn := (ze344, [154, 0, 30])
noncomputable def zq345 : yEn := (ze345, [153, 0, 25])
noncomputable def zq346 : yEn := (ze346, [180, 0, 16])
noncomputable def zq347 : yEn := (ze347, [184, 0, 43])
noncomputable def zq348 : yEn := (ze348, [184, 0, 49])
noncomputable def zq349 : yEn := (ze349, [132, 5, 1])
noncomputable def zq350 : yEn := (ze350, [167, 255, 178])
noncomputable def zq351 : yEn := (ze351, [180, 0, 25])
noncomputable def zq352 : yEn := (ze352, [182, 1, 0])
noncomputable def zq353 : yEn := (ze353, [66])
noncomputable def zq354 : yEn := (ze354, [182, 1, 11])
noncomputable def zq355 : yEn := (ze355, [180, 0, 110])
noncomputable def zq356 : yEn := (ze356, [153, 0, 28])
noncomputable def zq357 : yEn := (ze357, [180, 0, 114])
noncomputable def zq358 : yEn := (ze358, [154, 0, 21])
noncomputable def zq359 : yEn := (ze359, [33])
noncomputable def zq360 : yEn := (ze360, [158, 0, 15])
noncomputable def zq361 : yEn := (ze361, [158, 0, 10])
noncomputable def zq362 : yEn := (ze362, [182, 1, 14])
noncomputable def zq363 : yEn := (ze363, [42])
noncomputable def zq364 : yEn := (ze364, [180, 0, 106])
noncomputable def zq365 : yEn := (ze365, [101])
noncomputable def zq366 : yEn := (ze366, [109])
noncomputable def zq367 : yEn := (ze367, [55, 6])
noncomputable def zq368 : yEn := (ze368, [180, 0, 35])
noncomputable def zq369 : yEn := (ze369, [182, 1, 17])
noncomputable def zq370 : yEn := (ze370, [182, 0, 134])
noncomputable def zq371 : yEn := (ze371, [22, 6])
noncomputable def zq372 : yEn := (ze372, [184, 1, 21])
noncomputable def zq373 : yEn := (ze373, [184, 1, 24])
noncomputable def zq374 : yEn := (ze374, [136])
noncomputable def zq375 : yEn := (ze375, [182, 0, 253])
noncomputable def zq376 : yEn := (ze376, [167, 0, 10])
noncomputable def zq377 : yEn := (ze377, [65])
noncomputable def zq378 : yEn := (ze378, [182, 1, 4])
noncomputable def zq379 : yEn := (ze379, [55, 4])
noncomputable def zq380 : yEn := (ze380, [184, 1, 7])
noncomputable def zq381 : yEn := (ze381, [156, 0, 18])
noncomputable def zq382 : yEn := (ze382, [180, 0, 11])
noncomputable def zq383 : yEn := (ze383, [153, 0, 14])
noncomputable def zq384 : yEn := (ze384, [180, 0, 120])
noncomputable def zq385 : yEn := (ze385, [181, 0, 120])
noncomputable def zq386 : yEn := (ze386, [153, 0, 4])
noncomputable def zq387 : yEn := (ze387, [180, 1, 27])
noncomputable def zq388 : yEn := (ze388, [55, 7])
noncomputable def zq389 : yEn := (ze389, [182, 1, 30])
noncomputable def zq390 : yEn := (ze390, [22, 7])
noncomputable def zq391 : yEn := (ze391, [55, 9])
noncomputable def zq392 : yEn := (ze392, [22, 9])
noncomputable def zq393 : yEn := (ze393, [181, 0, 106])
noncomputable def zq394 : yEn := (ze394, [182, 1, 34])
noncomputable def zq395 : yEn := (ze395, [158, 0, 18])
noncomputable def zq396 : yEn := (ze396, [167, 0, 15])
noncomputable def zq397 : yEn := (ze397, [42])
noncomputable def zq398 : yEn := (ze398, [5])
noncomputable def zq399 : yEn := (ze399, [184, 0, 31])
noncomputable def zq400 : yEn := (ze400, [54, 8])
noncomputable def zq401 : yEn := (ze401, [21, 8])
noncomputable def zq402 : yEn := (ze402, [184, 0, 37])
noncomputable def zq403 : yEn := (ze403, [16, 24])
noncomputable def zq404 : yEn := (ze404, [155, 0, 15])
noncomputable def zq405 : yEn := (ze405, [155, 0, 7])
noncomputable def zq406 : yEn := (ze406, [7])
noncomputable def zq407 : yEn := (ze407, [6])
noncomputable def zq408 : yEn := (ze408, [158, 0, 16])
noncomputable def zq409 : yEn := (ze409, [180, 0, 28])
noncomputable def zq410 : yEn := (ze410, [181, 0, 28])
noncomputable def zq411 : yEn := (ze411, [167, 0, 13])
noncomputable def zq412 : yEn := (ze412, [180, 0, 32])
noncomputable def zq413 : yEn := (ze413, [181, 0, 32])
noncomputable def zq414 : yEn := (ze414, [42])
noncomputable def zq415 : yEn := (ze415, [180, 0, 35])
noncomputable def zq416 : yEn := (ze416, [181, 0, 35])
noncomputable def zq417 : yEn := (ze417, [153, 0, 16])
noncomputable def zq418 : yEn := (ze418, [157, 0, 7])
noncomputable def zq419 : yEn := (ze419, [3])
noncomputable def zq420 : yEn := (ze420, [60])
noncomputable def zq421 : yEn := (ze421, [159, 0, 27])
noncomputable def zq422 : yEn := (ze422, [181, 0, 114])
noncomputable def zq423 : yEn := (ze423, [16, 22])
noncomputable def zq424 : yEn := (ze424, [16, 23])
noncomputable def zq425 : yEn := (ze425, [182, 0, 165])
noncomputable def zq426 : yEn := (ze426, [182, 0, 126])
noncomputable def zq427 : yEn := (ze427, [180, 0, 19])
noncomputable def zq428 : yEn := (ze428, [16, 40])
noncomputable def zq429 : yEn := (ze429, [180, 0, 9])
noncomputable def zq430 : yEn := (ze430, [181, 0, 19])
noncomputable def zq431 : yEn := (ze431, [21, 6])
noncomputable def zq432 : yEn := (ze432, [162, 0, 143])
noncomputable def zq433 : yEn := (ze433, [161, 0, 94])
noncomputable def zq434 : yEn := (ze434, [3])
noncomputable def zq435 : yEn := (ze435, [54, 8])
noncomputable def zq436 : yEn := (ze436, [153, 0, 15])
noncomputable def zq437 : yEn := (ze437, [3])
noncomputable def zq438 : yEn := (ze438, [79])
noncomputable def zq439 : yEn := (ze439, [154, 0, 42])
noncomputable def zq440 : yEn := (ze440, [167, 0, 19])
noncomputable def zq441 : yEn := (ze441, [21, 8])
noncomputable def zq442 : yEn := (ze442, [153, 0, 34])
noncomputable def zq443 : yEn := (ze443, [164, 0, 23])
noncomputable def zq444 : yEn := (ze444, [42])
noncomputable def zq445 : yEn := (ze445, [25, 4])
noncomputable def zq446 : yEn := (ze446, [182, 0, 39])
noncomputable def zq447 : yEn := (ze447, [153, 0, 23])
noncomputable def zq448 : yEn := (ze448, [180, 0, 13])
noncomputable def zq449 : yEn := (ze449, [4])
noncomputable def zq450 : yEn := (ze450, [96])
noncomputable def zq451 : yEn := (ze451, [132, 6, 1])
noncomputable def zq452 : yEn := (ze452, [167, 255, 113])
noncomputable def zq453 : yEn := (ze453, [153, 0, 36])
noncomputable def zq454 : yEn := (ze454, [120])
noncomputable def zq455 : yEn := (ze455, [128])
noncomputable def zq456 : yEn := (ze456, [181, 0, 25])
noncomputable def zq457 : yEn := (ze457, [180, 0, 9])
noncomputable def zq458 : yEn := (ze458, [45])
noncomputable def zq459 : yEn := (ze459, [182, 0, 29])
noncomputable def zq460 : yEn := (ze460, [167, 0, 28])
noncomputable def zq461 : yEn := (ze461, [42])
noncomputable def zq462 : yEn := (ze462, [130])
noncomputable def zq463 : yEn := (ze463, [16, 10])
noncomputable def zq464 : yEn := (ze464, [180, 0, 38])
noncomputable def zq465 : yEn := (ze465, [181, 0, 38])
noncomputable def zq466 : yEn := (ze466, [180, 0, 44])
noncomputable def zq467 : yEn := (ze467, [181, 0, 44])
noncomputable def zq468 : yEn := (ze468, [154, 0, 36])
noncomputable def zq469 : yEn := (ze469, [182, 0, 145])
noncomputable def zq470 : yEn := (ze470, [180, 0, 49])
noncomputable def zq471 : yEn := (ze471, [182, 1, 38])
noncomputable def zq472 : yEn := (ze472, [182, 1, 41])
noncomputable def zq473 : yEn := (ze473, [180, 0, 41])
noncomputable def zq474 : yEn := (ze474, [158, 0, 34])
noncomputable def zq475 : yEn := (ze475, [182, 0, 56])
noncomputable def zq476 : yEn := (ze476, [153, 0, 12])
noncomputable def zq477 : yEn := (ze477, [17, 0, 128])
noncomputable def zq478 : yEn := (ze478, [21, 4])
noncomputable def zq479 : yEn := (ze479, [182, 0, 60])
noncomputable def zq480 : yEn := (ze480, [181, 0, 41])
noncomputable def zq481 : yEn := (ze481, [181, 0, 47])
noncomputable def zq482 : yEn := (ze482, [158, 0, 8])
noncomputable def zq483 : yEn := (ze483, [16, 32])
noncomputable def zq484 : yEn := (ze484, [180, 0, 47])
noncomputable def zq485 : yEn := (ze485, [180, 0, 24])
noncomputable def zq486 : yEn := (ze486, [16, 64])
noncomputable def zq487 : yEn := (ze487, [162, 0, 30])
noncomputable def zq488 : yEn := (ze488, [180, 0, 15])
noncomputable def zq489 : yEn := (ze489, [180, 0, 11])
noncomputable def zq490 : yEn := (ze490, [167, 255, 226])
noncomputable def zq491 : yEn := (ze491, [181, 0, 24])
noncomputable def zq492 : yEn := (ze492, [43])
noncomputable def zq493 : yEn := (ze493, [184, 0, 47])
noncomputable def zq494 : yEn := (ze494, [154, 0, 4])
noncomputable def zq495 : yEn := (ze495, [42])
noncomputable def zq496 : yEn := (ze496, [182, 0, 51])
noncomputable def zq497 : yEn := (ze497, [182, 0, 57])
noncomputable def zq498 : yEn := (ze498, [180, 0, 21])
noncomputable def zq499 : yEn := (ze499, [158, 0, 25])
noncomputable def zq500 : yEn := (ze500, [180, 0, 25])
noncomputable def zq501 : yEn := (ze501, [182, 0, 60])
noncomputable def zq502 : yEn := (ze502, [3])
noncomputable def zq503 : yEn := (ze503, [162, 0, 53])
noncomputable def zq504 : yEn := (ze504, [20, 0, 64])
noncomputable def zq505 : yEn := (ze505, [127])
noncomputable def zq506 : yEn := (ze506, [158, 0, 26])
noncomputable def zq507 : yEn := (ze507, [132, 3, 1])
noncomputable def zq508 : yEn := (ze508, [167, 255, 204])
noncomputable def zq509 : yEn := (ze509, [4])
noncomputable def zq510 : yEn := (ze510, [184, 0, 50])
noncomputable def zq511 : yEn := (ze511, [21, 5])
noncomputable def zq512 : yEn := (ze512, [162, 0, 19])
noncomputable def zq513 : yEn := (ze513, [182, 0, 64])
noncomputable def zq514 : yEn := (ze514, [132, 5, 1])
noncomputable def zq515 : yEn := (ze515, [167, 255, 235])
noncomputable def zq516 : yEn := (ze516, [33])
noncomputable def zq517 : yEn := (ze517, [17, 3, 132])
noncomputable def zq518 : yEn := (ze518, [164, 0, 7])
noncomputable def zq519 : yEn := (ze519, [20, 0, 60])
noncomputable def zq520 : yEn := (ze520, [182, 0, 62])
noncomputable def zq521 : yEn := (ze521, [182, 0, 130])
noncomputable def zq522 : yEn := (ze522, [184, 0, 43])
noncomputable def zq523 : yEn := (ze523, [159, 0, 9])
noncomputable def zq524 : yEn := (ze524, [9])
noncomputable def zq525 : yEn := (ze525, [21, 5])
noncomputable def zq526 : yEn := (ze526, [167, 255, 238])
noncomputable def zq527 : yEn := (ze527, [182, 0, 66])
noncomputable def zq528 : yEn := (ze528, [182, 0, 138])
noncomputable def zq529 : yEn := (ze529, [160, 0, 12])
noncomputable def zq530 : yEn := (ze530, [158, 0, 5])
noncomputable def zq531 : yEn := (ze531, [27])
noncomputable def zq532 : yEn := (ze532, [160, 0, 23])
noncomputable def zq533 : yEn := (ze533, [182, 0, 148])
noncomputable def zq534 : yEn := (ze534, [184, 0, 24])
noncomputable def zq535 : yEn := (ze535, [159, 0, 21])
noncomputable def zq536 : yEn := (ze536, [178, 0, 28])
noncomputable def zq537 : yEn := (ze537, [161, 0, 12])
noncomputable def zq538 : yEn := (ze538, [178, 0, 31])
noncomputable def zq539 : yEn := (ze539, [27])
noncomputable def zq540 : yEn := (ze540, [160, 0, 37])
noncomputable def zq541 : yEn := (ze541, [16, 60])
noncomputable def zq542 : yEn := (ze542, [159, 0, 31])
noncomputable def zq543 : yEn := (ze543, [159, 0, 24])
noncomputable def zq544 : yEn := (ze544, [159, 0, 17])
noncomputable def zq545 : yEn := (ze545, [17, 7, 8])
noncomputable def zq546 : yEn := (ze546, [17, 14, 16])
noncomputable def zq547 : yEn := (ze547, [26])
noncomputable def zq548 : yEn := (ze548, [155, 0, 10])
noncomputable def zq549 : yEn := (ze549, [163, 0, 5])
noncomputable def zq550 : yEn := (ze550, [26])
noncomputable def zq551 : yEn := (ze551, [161, 0, 17])
noncomputable def zq552 : yEn := (ze552, [16, 14])
noncomputable def zq553 : yEn := (ze553, [162, 0, 11])
noncomputable def zq554 : yEn := (ze554, [16, 20])
noncomputable def zq555 : yEn := (ze555, [163, 0, 11])
noncomputable def zq556 : yEn := (ze556, [27])
noncomputable def zq557 : yEn := (ze557, [184, 0, 69])
noncomputable def zq558 : yEn := (ze558, [153, 0, 20])
noncomputable def zq559 : yEn := (ze559, [184, 0, 73])
noncomputable def zq560 : yEn := (ze560, [155, 0, 9])
noncomputable def zq561 : yEn := (ze561, [18, 76])
noncomputable def zq562 : yEn := (ze562, [180, 0, 77])
noncomputable def zq563 : yEn := (ze563, [182, 0, 81])
noncomputable def zq564 : yEn := (ze564, [155, 0, 13])
noncomputable def zq565 : yEn := (ze565, [162, 0, 7])
noncomputable def zq566 : yEn := (ze566, [155, 0, 12])
noncomputable def zq567 : yEn := (ze567, [182, 0, 56])
noncomputable def zq568 : yEn := (ze568, [153, 0, 18])
noncomputable def zq569 : yEn := (ze569, [42])
noncomputable def zq570 : yEn := (ze570, [21, 4])
noncomputable def zq571 : yEn := (ze571, [21, 6])
noncomputable def zq572 : yEn := (ze572, [164, 0, 41])
noncomputable def zq573 : yEn := (ze573, [132, 6, 255])
noncomputable def zq574 : yEn := (ze574, [167, 255, 214])
noncomputable def zq575 : yEn := (ze575, [162, 0, 17])
noncomputable def zq576 : yEn := (ze576, [182, 0, 87])
noncomputable def zq577 : yEn := (ze577, [180, 0, 25])
noncomputable def zq578 : yEn := (ze578, [182, 0, 91])
noncomputable def zq579 : yEn := (ze579, [182, 0, 94])
noncomputable def zq580 : yEn := (ze580, [180, 0, 97])
noncomputable def zq581 : yEn := (ze581, [180, 0, 29])
noncomputable def zq582 : yEn := (ze582, [163, 0, 7])
noncomputable def zq583 : yEn := (ze583, [155, 0, 45])
noncomputable def zq584 : yEn := (ze584, [162, 0, 35])
noncomputable def zq585 : yEn := (ze585, [180, 0, 11])
noncomputable def zq586 : yEn := (ze586, [124])
noncomputable def zq587 : yEn := (ze587, [17, 0, 255])
noncomputable def zq588 : yEn := (ze588, [181, 0, 29])
noncomputable def zq589 : yEn := (ze589, [132, 2, 248])
noncomputable def zq590 : yEn := (ze590, [167, 255, 213])
noncomputable def zq591 : yEn := (ze591, [182, 0, 100])
noncomputable def zq592 : yEn := (ze592, [155, 0, 11])
noncomputable def zq593 : yEn := (ze593, [182, 0, 103])
noncomputable def zq594 : yEn := (ze594, [182, 0, 106])
noncomputable def zq595 : yEn := (ze595, [159, 0, 47])
noncomputable def zq596 : yEn := (ze596, [180, 0, 110])
noncomputable def zq597 : yEn := (ze597, [182, 0, 113])
noncomputable def zq598 : yEn := (ze598, [180, 0, 117])
noncomputable def zq599 : yEn := (ze599, [180, 0, 121])
noncomputable def zq600 : yEn := (ze600, [180, 0, 125])
noncomputable def zq601 : yEn := (ze601, [182, 0, 129])
noncomputable def zq602 : yEn := (ze602, [27])
noncomputable def zq603 : yEn := (ze603, [181, 0, 32])
noncomputable def zq604 : yEn := (ze604, [180, 0, 18])
noncomputable def zq605 : yEn := (ze605, [182, 0, 35])
noncomputable def zq606 : yEn := (ze606, [181, 0, 38])
noncomputable def zq607 : yEn := (ze607, [181, 0, 42])
noncomputable def zq608 : yEn := (ze608, [181, 0, 45])
noncomputable def zq609 : yEn := (ze609, [181, 0, 48])
noncomputable def zq610 : yEn := (ze610, [182, 0, 51])
noncomputable def zq611 : yEn := (ze611, [163, 0, 50])
noncomputable def zq612 : yEn := (ze612, [180, 0, 42])
noncomputable def zq613 : yEn := (ze613, [162, 0, 39])
noncomputable def zq614 : yEn := (ze614, [180, 0, 32])
noncomputable def zq615 : yEn := (ze615, [154, 0, 32])
noncomputable def zq616 : yEn := (ze616, [182, 0, 54])
noncomputable def zq617 : yEn := (ze617, [153, 0, 19])
noncomputable def zq618 : yEn := (ze618, [16, 59])
noncomputable def zq619 : yEn := (ze619, [182, 0, 58])
noncomputable def zq620 : yEn := (ze620, [132, 1, 1])
noncomputable def zq621 : yEn := (ze621, [167, 255, 205])
noncomputable def zq622 : yEn := (ze622, [160, 0, 16])
noncomputable def zq623 : yEn := (ze623, [167, 255, 221])
noncomputable def zq624 : yEn := (ze624, [182, 0, 62])
noncomputable def zq625 : yEn := (ze625, [18, 66])
noncomputable def zq626 : yEn := (ze626, [182, 0, 68])
noncomputable def zq627 : yEn := (ze627, [182, 0, 72])
noncomputable def zq628 : yEn := (ze628, [18, 75])
noncomputable def zq629 : yEn := (ze629, [182, 0, 77])
noncomputable def zq630 : yEn := (ze630, [18, 80])
noncomputable def zq631 : yEn := (ze631, [182, 0, 82])
noncomputable def zq632 : yEn := (ze632, [18, 85])
noncomputable def zq633 : yEn := (ze633, [182, 0, 87])
noncomputable def zq634 : yEn := (ze634, [182, 0, 90])
noncomputable def zq635 : yEn := (ze635, [27])
noncomputable def zq636 : yEn := (ze636, [162, 0, 31])
noncomputable def zq637 : yEn := (ze637, [16, 97])
noncomputable def zq638 : yEn := (ze638, [161, 0, 20])
noncomputable def zq639 : yEn := (ze639, [16, 122])
noncomputable def zq640 : yEn := (ze640, [167, 255, 223])
noncomputable def zq641 : yEn := (ze641, [182, 0, 141])
noncomputable def zq642 : yEn := (ze642, [182, 0, 145])
noncomputable def zq643 : yEn := (ze643, [159, 0, 5])
noncomputable def zq644 : yEn := (ze644, [182, 0, 94])
noncomputable def zq645 : yEn := (ze645, [180, 0, 45])
noncomputable def zq646 : yEn := (ze646, [182, 0, 98])
noncomputable def zq647 : yEn := (ze647, [163, 0, 26])
noncomputable def zq648 : yEn := (ze648, [182, 0, 102])
noncomputable def zq649 : yEn := (ze649, [182, 0, 105])
noncomputable def zq650 : yEn := (ze650, [167, 255, 230])
noncomputable def zq651 : yEn := (ze651, [182, 0, 109])
noncomputable def zq652 : yEn := (ze652, [160, 0, 15])
noncomputable def zq653 : yEn := (ze653, [180, 0, 116])
noncomputable def zq654 : yEn := (ze654, [87])
noncomputable def zq655 : yEn := (ze655, [29])
noncomputable def zq656 : yEn := (ze656, [181, 0, 116])
noncomputable def zq657 : yEn := (ze657, [162, 0, 54])
noncomputable def zq658 : yEn := (ze658, [184, 0, 149])
noncomputable def zq659 : yEn := (ze659, [153, 0, 39])
noncomputable def zq660 : yEn := (ze660, [18, 152])
noncomputable def zq661 : yEn := (ze661, [184, 0, 153])
noncomputable def zq662 : yEn := (ze662, [167, 255, 197])
noncomputable def zq663 : yEn := (ze663, [164, 0, 15])
noncomputable def zq664 : yEn := (ze664, [161, 0, 13])
noncomputable def zq665 : yEn := (ze665, [16, 57])
noncomputable def zq666 : yEn := (ze666, [16, 23])
noncomputable def zq667 : yEn := (ze667, [180, 0, 113])
noncomputable def zq668 : yEn := (ze668, [16, 58])
noncomputable def zq669 : yEn := (ze669, [182, 0, 119])
noncomputable def zq670 : yEn := (ze670, [42])
noncomputable def zq671 : yEn := (ze671, [42])
noncomputable def zq672 : yEn := (ze672, [182, 0, 122])
noncomputable def zq673 : yEn := (ze673, [162, 0, 16])
noncomputable def zq674 : yEn := (ze674, [159, 0, 13])
noncomputable def zq675 : yEn := (ze675, [180, 0, 48])
noncomputable def zq676 : yEn := (ze676, [17, 1, 108])
noncomputable def zq677 : yEn := (ze677, [180, 0, 126])
noncomputable def zq678 : yEn := (ze678, [29])
noncomputable def zq679 : yEn := (ze679, [162, 0, 41])
noncomputable def zq680 : yEn := (ze680, [180, 0, 129])
noncomputable def zq681 : yEn := (ze681, [167, 255, 215])
noncomputable def zq682 : yEn := (ze682, [180, 0, 132])
noncomputable def zq683 : yEn := (ze683, [182, 0, 135])
noncomputable def zq684 : yEn := (ze684, [182, 0, 138])
noncomputable def zq685 : yEn := (ze685, [159, 0, 7])
noncomputable def zq686 : yEn := (ze686, [160, 0, 29])
noncomputable def zq687 : yEn := (ze687, [180, 0, 38])
noncomputable def zq688 : yEn := (ze688, [16, 100])
noncomputable def zq689 : yEn := (ze689, [180, 0, 22])
noncomputable def zq690 : yEn := (ze690, [184, 0, 46])
noncomputable def zq691 : yEn := (ze691, [154, 0, 11])
noncomputable def zq692 : yEn := (ze692, [180, 0, 135])
noncomputable def zq693 : yEn := (ze693, [160, 0, 13])
noncomputable def zq694 : yEn := (ze694, [180, 0, 138])
noncomputable def zq695 : yEn := (ze695, [182, 0, 141])
noncomputable def zq696 : yEn := (ze696, [16, 30])
noncomputable def zq697 : yEn := (ze697, [182, 0, 144])
noncomputable def zq698 : yEn := (ze698, [154, 0, 14])
noncomputable def zq699 : yEn := (ze699, [17, 39, 15])
noncomputable def zq700 : yEn := (ze700, [181, 0, 7])
noncomputable def zq701 : yEn := (ze701, [181, 0, 13])
noncomputable def zq702 : yEn := (ze702, [182, 0, 148])
noncomputable def zq703 : yEn := (ze703, [180, 0, 70])
noncomputable def zq704 : yEn := (ze704, [180, 0, 152])
noncomputable def zq705 : yEn := (ze705, [153, 0, 17])
noncomputable def zq706 : yEn := (ze706, [182, 0, 155])
noncomputable def zq707 : yEn := (ze707, [180, 0, 159])
noncomputable def zq708 : yEn := (ze708, [160, 0, 19])
noncomputable def zq709 : yEn := (ze709, [182, 0, 162])
noncomputable def zq710 : yEn := (ze710, [16, 31])
noncomputable def zq711 : yEn := (ze711, [180, 0, 168])
noncomputable def zq712 : yEn := (ze712, [181, 0, 168])
noncomputable def zq713 : yEn := (ze713, [182, 0, 171])
noncomputable def zq714 : yEn := (ze714, [153, 0, 21])
noncomputable def zq715 : yEn := (ze715, [182, 0, 175])
noncomputable def zq716 : yEn := (ze716, [16, 33])
noncomputable def zq717 : yEn := (ze717, [180, 0, 23])
noncomputable def zq718 : yEn := (ze718, [184, 0, 26])
noncomputable def zq719 : yEn := (ze719, [181, 0, 17])
noncomputable def zq720 : yEn := (ze720, [181, 0, 23])
noncomputable def zq721 : yEn := (ze721, [180, 0, 17])
noncomputable def zq722 : yEn := (ze722, [161, 0, 7])
noncomputable def zq723 : yEn := (ze723, [184, 0, 151])
noncomputable def zq724 : yEn := (ze724, [180, 0, 154])
noncomputable def zq725 : yEn := (ze725, [154, 0, 17])
noncomputable def zq726 : yEn := (ze726, [180, 0, 157])
noncomputable def zq727 : yEn := (ze727, [182, 0, 160])
noncomputable def zq728 : yEn := (ze728, [153, 0, 22])
noncomputable def zq729 : yEn := (ze729, [182, 0, 163])
noncomputable def zq730 : yEn := (ze730, [42])
noncomputable def zq731 : yEn := (ze731, [184, 0, 166])
noncomputable def zq732 : yEn := (ze732, [182, 0, 169])
noncomputable def zq733 : yEn := (ze733, [18, 176])
noncomputable def zq734 : yEn := (ze734, [181, 0, 179])
noncomputable def zq735 : yEn := (ze735, [161, 0, 23])
noncomputable def zq736 : yEn := (ze736, [18, 172])
noncomputable def zq737 : yEn := (ze737, [180, 0, 173])
noncomputable def zq738 : yEn := (ze738, [182, 0, 177])
noncomputable def zq739 : yEn := (ze739, [16, 21])
noncomputable def zq740 : yEn := (ze740, [182, 0, 189])
noncomputable def zq741 : yEn := (ze741, [181, 0, 193])
noncomputable def zq742 : yEn := (ze742, [162, 0, 87])
noncomputable def zq743 : yEn := (ze743, [158, 0, 83])
noncomputable def zq744 : yEn := (ze744, [182, 0, 205])
noncomputable def zq745 : yEn := (ze745, [180, 0, 123])
noncomputable def zq746 : yEn := (ze746, [181, 0, 123])
noncomputable def zq747 : yEn := (ze747, [167, 255, 169])
noncomputable def zq748 : yEn := (ze748, [162, 0, 32])
noncomputable def zq749 : yEn := (ze749, [167, 255, 225])
noncomputable def zq750 : yEn := (ze750, [155, 0, 23])
noncomputable def zq751 : yEn := (ze751, [180, 0, 182])
noncomputable def zq752 : yEn := (ze752, [182, 0, 186])
noncomputable def zq753 : yEn := (ze753, [180, 0, 189])
noncomputable def zq754 : yEn := (ze754, [182, 0, 193])
noncomputable def zq755 : yEn := (ze755, [180, 0, 197])
noncomputable def zq756 : yEn := (ze756, [181, 0, 197])
noncomputable def zq757 : yEn := (ze757, [182, 0, 200])
noncomputable def zq758 : yEn := (ze758, [18, 203])
noncomputable def zq759 : yEn := (ze759, [20, 0, 204])
noncomputable def zq760 : yEn := (ze760, [180, 0, 206])
noncomputable def zq761 : yEn := (ze761, [181, 0, 206])
noncomputable def zq762 : yEn := (ze762, [182, 0, 210])
noncomputable def zq763 : yEn := (ze763, [180, 0, 213])
noncomputable def zq764 : yEn := (ze764, [180, 0, 217])
noncomputable def zq765 : yEn := (ze765, [182, 0, 182])
noncomputable def zq766 : yEn := (ze766, [182, 0, 186])
noncomputable def zq767 : yEn := (ze767, [180, 0, 27])
noncomputable def zq768 : yEn := (ze768, [162, 0, 47])
noncomputable def zq769 : yEn := (ze769, [180, 0, 18])
noncomputable def zq770 : yEn := (ze770, [180, 0, 15])
noncomputable def zq771 : yEn := (ze771, [167, 255, 208])
noncomputable def zq772 : yEn := (ze772, [44])
noncomputable def zq773 : yEn := (ze773, [180, 0, 47])
noncomputable def zq774 : yEn := (ze774, [184, 0, 21])
noncomputable def zq775 : yEn := (ze775, [181, 0, 27])
noncomputable def zq776 : yEn := (ze776, [161, 0, 27])
noncomputable def zq777 : yEn := (ze777, [180, 0, 222])
noncomputable def zq778 : yEn := (ze778, [182, 0, 225])
noncomputable def zq779 : yEn := (ze779, [62])
noncomputable def zq780 : yEn := (ze780, [])
noncomputable def zq781 : yEn := (ze781, [22, 4])
noncomputable def zq782 : yEn := (ze782, [184, 0, 63])
noncomputable def zq783 : yEn := (ze783, [182, 0, 67])
noncomputable def zq784 : yEn := (ze784, [184, 0, 71])
noncomputable def zq785 : yEn := (ze785, [28])
noncomputable def zq786 : yEn := (ze786, [155, 0, 21])
noncomputable def zq787 : yEn := (ze787, [163, 0, 16])
noncomputable def zq788 : yEn := (ze788, [167, 0, 6])
noncomputable def zq789 : yEn := (ze789, [20, 0, 75])
noncomputable def zq790 : yEn := (ze790, [173])
noncomputable def zq791 : yEn := (ze791, [162, 0, 36])
noncomputable def zq792 : yEn := (ze792, [33])
noncomputable def zq793 : yEn := (ze793, [184, 0, 79])
noncomputable def zq794 : yEn := (ze794, [132, 5, 1])
noncomputable def zq795 : yEn := (ze795, [167, 255, 217])
noncomputable def zq796 : yEn := (ze796, [33])
noncomputable def zq797 : yEn := (ze797, [184, 0, 84])
noncomputable def zq798 : yEn := (ze798, [20, 0, 77])
noncomputable def zq799 : yEn := (ze799, [184, 0, 229])
noncomputable def zq800 : yEn := (ze800, [184, 0, 232])
noncomputable def zq801 : yEn := (ze801, [182, 0, 235])
noncomputable def zq802 : yEn := (ze802, [182, 0, 238])
noncomputable def zq803 : yEn := (ze803, [182, 0, 241])
noncomputable def zq804 : yEn := (ze804, [184, 0, 244])
noncomputable def zq805 : yEn := (ze805, [182, 0, 247])
noncomputable def zq806 : yEn := (ze806, [155, 0, 14])
noncomputable def zq807 : yEn := (ze807, [17, 90, 108])
noncomputable def zq808 : yEn := (ze808, [180, 0, 250])
noncomputable def zq809 : yEn := (ze809, [28])
noncomputable def zq810 : yEn := (ze810, [155, 0, 18])
noncomputable def zq811 : yEn := (ze811, [162, 0, 12])
noncomputable def zq812 : yEn := (ze812, [155, 0, 8])
noncomputable def zq813 : yEn := (ze813, [154, 0, 19])
noncomputable def zq814 : yEn := (ze814, [180, 0, 253])
noncomputable def zq815 : yEn := (ze815, [42])
noncomputable def zq816 : yEn := (ze816, [180, 1, 0])
noncomputable def zq817 : yEn := (ze817, [182, 1, 3])
noncomputable def zq818 : yEn := (ze818, [18, 74])
noncomputable def zq819 : yEn := (ze819, [184, 0, 75])
noncomputable def zq820 : yEn := (ze820, [182, 0, 80])
noncomputable def zq821 : yEn := (ze821, [182, 0, 83])
noncomputable def zq822 : yEn := (ze822, [21, 5])
noncomputable def zq823 : yEn := (ze823, [16, 105])
noncomputable def zq824 : yEn := (ze824, [163, 0, 30])
noncomputable def zq825 : yEn := (ze825, [159, 0, 6])
noncomputable def zq826 : yEn := (ze826, [42])
noncomputable def zq827 : yEn := (ze827, [167, 255, 219])
noncomputable def zq828 : yEn := (ze828, [])
noncomputable def zq829 : yEn := (ze829, [180, 1, 6])
noncomputable def zq830 : yEn := (ze830, [180, 1, 9])
noncomputable def zq831 : yEn := (ze831, [180, 1, 10])
noncomputable def zq832 : yEn := (ze832, [180, 1, 13])
noncomputable def zq833 : yEn := (ze833, [182, 1, 17])
noncomputable def zq834 : yEn := (ze834, [182, 1, 22])
noncomputable def zq835 : yEn := (ze835, [])
noncomputable def zq836 : yEn := (ze836, [180, 1, 25])
noncomputable def zq837 : yEn := (ze837, [180, 1, 28])
noncomputable def zq838 : yEn := (ze838, [180, 1, 31])
noncomputable def zq839 : yEn := (ze839, [180, 1, 34])
noncomputable def zq840 : yEn := (ze840, [180, 1, 37])
noncomputable def zq841 : yEn := (ze841, [182, 1, 40])
noncomputable def zq842 : yEn := (ze842, [182, 1, 43])
noncomputable def zq843 : yEn := (ze843, [180, 1, 46])
noncomputable def zq844 : yEn := (ze844, [180, 1, 50])
noncomputable def zq845 : yEn := (ze845, [160, 0, 17])
noncomputable def zq846 : yEn := (ze846, [180, 1, 55])
noncomputable def zq847 : yEn := (ze847, [20, 0, 60])
noncomputable def zq848 : yEn := (ze848, [154, 0, 16])
noncomputable def zq849 : yEn := (ze849, [180, 1, 58])
noncomputable def zq850 : yEn := (ze850, [180, 1, 62])
noncomputable def zq851 : yEn := (ze851, [182, 1, 65])
noncomputable def zq852 : yEn := (ze852, [182, 1, 68])
noncomputable def zq853 : yEn := (ze853, [155, 0, 20])
noncomputable def zq854 : yEn := (ze854, [184, 0, 52])
noncomputable def zq855 : yEn := (ze855, [182, 0, 56])
noncomputable def zq856 : yEn := (ze856, [182, 1, 72])
noncomputable def zq857 : yEn := (ze857, [167, 0, 17])
noncomputable def zq858 : yEn := (ze858, [182, 1, 75])
noncomputable def zq859 : yEn := (ze859, [182, 1, 78])
noncomputable def zq860 : yEn := (ze860, [20, 1, 82])
noncomputable def zq861 : yEn := (ze861, [184, 1, 84])
noncomputable def zq862 : yEn := (ze862, [22, 5])
noncomputable def zq863 : yEn := (ze863, [22, 7])
noncomputable def zq864 : yEn := (ze864, [21, 7])
noncomputable def zq865 : yEn := (ze865, [162, 0, 42])
noncomputable def zq866 : yEn := (ze866, [182, 0, 60])
noncomputable def zq867 : yEn := (ze867, [44])
noncomputable def zq868 : yEn := (ze868, [182, 0, 64])
noncomputable def zq869 : yEn := (ze869, [182, 0, 69])
noncomputable def zq870 : yEn := (ze870, [184, 0, 73])
noncomputable def zq871 : yEn := (ze871, [182, 0, 77])
noncomputable def zq872 : yEn := (ze872, [20, 0, 80])
noncomputable def zq873 : yEn := (ze873, [167, 0, 9])
noncomputable def zq874 : yEn := (ze874, [21, 8])
noncomputable def zq875 : yEn := (ze875, [17, 0, 200])
noncomputable def zq876 : yEn := (ze876, [153, 0, 24])
noncomputable def zq877 : yEn := (ze877, [113])
noncomputable def zq878 : yEn := (ze878, [132, 8, 1])
noncomputable def zq879 : yEn := (ze879, [22, 4])
noncomputable def zq880 : yEn := (ze880, [10])
noncomputable def zq881 : yEn := (ze881, [163, 0, 13])
noncomputable def zq882 : yEn := (ze882, [180, 0, 19])
noncomputable def zq883 : yEn := (ze883, [182, 1, 88])
noncomputable def zq884 : yEn := (ze884, [])
noncomputable def zq885 : yEn := (ze885, [182, 1, 91])
noncomputable def zq886 : yEn := (ze886, [180, 1, 95])
noncomputable def zq887 : yEn := (ze887, [180, 1, 98])
noncomputable def zq888 : yEn := (ze888, [9])
noncomputable def zq889 : yEn := (ze889, [182, 0, 74])
noncomputable def zq890 : yEn := (ze890, [182, 0, 78])
noncomputable def zq891 : yEn := (ze891, [182, 0, 81])
noncomputable def zq892 : yEn := (ze892, [182, 0, 84])
noncomputable def zq893 : yEn := (ze893, [182, 0, 87])
noncomputable def zq894 : yEn := (ze894, [182, 0, 90])
noncomputable def zq895 : yEn := (ze895, [182, 0, 93])
noncomputable def zq896 : yEn := (ze896, [182, 0, 96])
noncomputable def zq897 : yEn := (ze897, [182, 0, 99])
noncomputable def zq898 : yEn := (ze898, [181, 0, 110])
noncomputable def zq899 : yEn := (ze899, [184, 0, 29])
noncomputable def zq900 : yEn := (ze900, [180, 0, 38])
noncomputable def zq901 : yEn := (ze901, [184, 0, 41])
noncomputable def zq902 : yEn := (ze902, [184, 0, 19])
noncomputable def zq903 : yEn := (ze903, [184, 0, 13])
noncomputable def zq904 : yEn := (ze904, [180, 0, 13])
noncomputable def zq905 : yEn := (ze905, [64])
noncomputable def zq906 : yEn := (ze906, [162, 0, 20])
noncomputable def zq907 : yEn := (ze907, [184, 0, 66])
noncomputable def zq908 : yEn := (ze908, [167, 255, 237])
noncomputable def zq909 : yEn := (ze909, [31])
noncomputable def zq910 : yEn := (ze910, [163, 0, 19])
noncomputable def zq911 : yEn := (ze911, [182, 1, 101])
noncomputable def zq912 : yEn := (ze912, [21, 8])
noncomputable def zq913 : yEn := (ze913, [162, 0, 56])
noncomputable def zq914 : yEn := (ze914, [162, 0, 49])
noncomputable def zq915 : yEn := (ze915, [54, 9])
noncomputable def zq916 : yEn := (ze916, [182, 0, 86])
noncomputable def zq917 : yEn := (ze917, [21, 9])
noncomputable def zq918 : yEn := (ze918, [167, 255, 200])
noncomputable def zq919 : yEn := (ze919, [22, 6])
noncomputable def zq920 : yEn := (ze920, [161, 0, 18])
noncomputable def zq921 : yEn := (ze921, [163, 0, 12])
noncomputable def zq922 : yEn := (ze922, [19, 1, 105])
noncomputable def zq923 : yEn := (ze923, [21, 6])
noncomputable def zq924 : yEn := (ze924, [16, 96])
noncomputable def zq925 : yEn := (ze925, [162, 0, 62])
noncomputable def zq926 : yEn := (ze926, [156, 0, 10])
noncomputable def zq927 : yEn := (ze927, [132, 6, 1])
noncomputable def zq928 : yEn := (ze928, [167, 255, 193])
noncomputable def zq929 : yEn := (ze929, [28])
noncomputable def zq930 : yEn := (ze930, [182, 1, 106])
noncomputable def zq931 : yEn := (ze931, [162, 0, 33])
noncomputable def zq932 : yEn := (ze932, [162, 0, 28])
noncomputable def zq933 : yEn := (ze933, [167, 255, 224])
noncomputable def zq934 : yEn := (ze934, [180, 1, 109])
noncomputable def zq935 : yEn := (ze935, [161, 0, 26])
noncomputable def zq936 : yEn := (ze936, [182, 1, 112])
noncomputable def zq937 : yEn := (ze937, [154, 0, 18])
noncomputable def zq938 : yEn := (ze938, [182, 1, 115])
noncomputable def zq939 : yEn := (ze939, [182, 0, 68])
noncomputable def zq940 : yEn := (ze940, [21, 7])
noncomputable def zq941 : yEn := (ze941, [182, 0, 71])
noncomputable def zq942 : yEn := (ze942, [163, 0, 47])
noncomputable def zq943 : yEn := (ze943, [132, 7, 1])
noncomputable def zq944 : yEn := (ze944, [21, 6])
noncomputable def zq945 : yEn := (ze945, [158, 0, 27])
noncomputable def zq946 : yEn := (ze946, [157, 0, 19])
noncomputable def zq947 : yEn := (ze947, [132, 6, 1])
noncomputable def zq948 : yEn := (ze948, [167, 255, 199])
noncomputable def zq949 : yEn := (ze949, [155, 0, 26])
noncomputable def zq950 : yEn := (ze950, [182, 1, 118])
noncomputable def zq951 : yEn := (ze951, [182, 1, 121])
noncomputable def zq952 : yEn := (ze952, [184, 0, 23])
noncomputable def zq953 : yEn := (ze953, [182, 1, 124])
noncomputable def zq954 : yEn := (ze954, [162, 0, 48])
noncomputable def zq955 : yEn := (ze955, [160, 0, 18])
noncomputable def zq956 : yEn := (ze956, [42])
noncomputable def zq957 : yEn := (ze957, [167, 255, 201])
noncomputable def zq958 : yEn := (ze958, [21, 6])
noncomputable def zq959 : yEn := (ze959, [160, 0, 14])
noncomputable def zq960 : yEn := (ze960, [180, 0, 16])
noncomputable def zq961 : yEn := (ze961, [181, 1, 127])
noncomputable def zq962 : yEn := (ze962, [167, 0, 21])
noncomputable def zq963 : yEn := (ze963, [180, 1, 127])
noncomputable def zq964 : yEn := (ze964, [20, 0, 204])
noncomputable def zq965 : yEn := (ze965, [182, 1, 130])
noncomputable def zq966 : yEn := (ze966, [16, 15])
noncomputable def zq967 : yEn := (ze967, [182, 1, 133])
noncomputable def zq968 : yEn := (ze968, [16, 43])
noncomputable def zq969 : yEn := (ze969, [16, 53])
noncomputable def zq970 : yEn := (ze970, [161, 0, 9])
noncomputable def zq971 : yEn := (ze971, [182, 1, 136])
noncomputable def zq972 : yEn := (ze972, [184, 1, 139])
noncomputable def zq973 : yEn := (ze973, [160, 0, 9])
noncomputable def zq974 : yEn := (ze974, [182, 1, 142])
noncomputable def zq975 : yEn := (ze975, [])
noncomputable def zq976 : yEn := (ze976, [180, 1, 145])
noncomputable def zq977 : yEn := (ze977, [180, 1, 146])
noncomputable def zq978 : yEn := (ze978, [180, 1, 149])
noncomputable def zq979 : yEn := (ze979, [])
noncomputable def zq980 : yEn := (ze980, [180, 1, 152])
noncomputable def zq981 : yEn := (ze981, [180, 1, 155])
noncomputable def zq982 : yEn := (ze982, [180, 1, 156])
noncomputable def zq983 : yEn := (ze983, [180, 1, 159])
noncomputable def zq984 : yEn := (ze984, [])
noncomputable def zq985 : yEn := (ze985, [180, 1, 162])
noncomputable def zq986 : yEn := (ze986, [180, 1, 165])
noncomputable def zq987 : yEn := (ze987, [182, 1, 168])
noncomputable def zq988 : yEn := (ze988, [180, 1, 171])
noncomputable def zq989 : yEn := (ze989, [161, 0, 16])
noncomputable def zq990 : yEn := (ze990, [163, 0, 10])
noncomputable def zq991 : yEn := (ze991, [16, 50])
noncomputable def zq992 : yEn := (ze992, [16, 52])
noncomputable def zq993 : yEn := (ze993, [17, 6, 83])
noncomputable def zq994 : yEn := (ze994, [181, 0, 9])
noncomputable def zq995 : yEn := (ze995, [181, 0, 13])
noncomputable def zq996 : yEn := (ze996, [181, 0, 16])
noncomputable def zq997 : yEn := (ze997, [])
noncomputable def zq998 : yEn := (ze998, [181, 0, 19])
noncomputable def zq999 : yEn := (ze999, [181, 0, 23])
noncomputable def zq1000 : yEn := (ze1000, [])
noncomputable def zq1001 : yEn := (ze1001, [181, 0, 27])
noncomputable def zq1002 : yEn := (ze1002, [181, 0, 31])
noncomputable def zq1003 : yEn := (ze1003, [180, 0, 9])
noncomputable def zq1004 : yEn := (ze1004, [20, 0, 34])
noncomputable def zq1005 : yEn := (ze1005, [20, 0, 36])
noncomputable def zq1006 : yEn := (ze1006, [20, 0, 38])
noncomputable def zq1007 : yEn := (ze1007, [20, 0, 40])
noncomputable def zq1008 : yEn := (ze1008, [20, 0, 42])
noncomputable def zq1009 : yEn := (ze1009, [16, 9])
noncomputable def zq1010 : yEn := (ze1010, [17, 6, 76])
noncomputable def zq1011 : yEn := (ze1011, [20, 0, 44])
noncomputable def zq1012 : yEn := (ze1012, [16, 19])
noncomputable def zq1013 : yEn := (ze1013, [20, 0, 46])
noncomputable def zq1014 : yEn := (ze1014, [16, 36])
noncomputable def zq1015 : yEn := (ze1015, [4])
noncomputable def zq1016 : yEn := (ze1016, [17, 1, 135])
noncomputable def zq1017 : yEn := (ze1017, [17, 1, 167])
noncomputable def zq1018 : yEn := (ze1018, [182, 0, 50])
noncomputable def zq1019 : yEn := (ze1019, [154, 0, 35])
noncomputable def zq1020 : yEn := (ze1020, [184, 0, 54])
noncomputable def zq1021 : yEn := (ze1021, [20, 0, 58])
noncomputable def zq1022 : yEn := (ze1022, [20, 0, 60])
noncomputable def zq1023 : yEn := (ze1023, [153, 0, 9])
noncomputable def zq1024 : yEn := (ze1024, [16, 95])
noncomputable def zq1025 : yEn := (ze1025, [29])
noncomputable def zq1026 : yEn := (ze1026, [17, 0, 191])
noncomputable def zq1027 : yEn := (ze1027, [167, 255, 239])
noncomputable def zq1028 : yEn := (ze1028, [17, 6, 82])
noncomputable def zq1029 : yEn := (ze1029, [17, 6, 78])
noncomputable def zq1030 : yEn := (ze1030, [20, 0, 62])
noncomputable def zq1031 : yEn := (ze1031, [20, 0, 64])
noncomputable def zq1032 : yEn := (ze1032, [182, 0, 66])
noncomputable def zq1033 : yEn := (ze1033, [184, 0, 70])
noncomputable def zq1034 : yEn := (ze1034, [17, 0, 239])
noncomputable def zq1035 : yEn := (ze1035, [156, 0, 11])
noncomputable def zq1036 : yEn := (ze1036, [21, 4])
noncomputable def zq1037 : yEn := (ze1037, [182, 0, 74])
noncomputable def zq1038 : yEn := (ze1038, [167, 0, 8])
noncomputable def zq1039 : yEn := (ze1039, [182, 0, 101])
noncomputable def zq1040 : yEn := (ze1040, [64])
noncomputable def zq1041 : yEn := (ze1041, [66])
noncomputable def zq1042 : yEn := (ze1042, [184, 0, 95])
noncomputable def zq1043 : yEn := (ze1043, [184, 1, 2])
noncomputable def zq1044 : yEn := (ze1044, [156, 0, 31])
noncomputable def zq1045 : yEn := (ze1045, [156, 0, 17])
noncomputable def zq1046 : yEn := (ze1046, [167, 0, 11])
noncomputable def zq1047 : yEn := (ze1047, [42])
noncomputable def zq1048 : yEn := (ze1048, [182, 1, 20])
noncomputable def zq1049 : yEn := (ze1049, [182, 1, 24])
noncomputable def zq1050 : yEn := (ze1050, [182, 1, 27])
noncomputable def zq1051 : yEn := (ze1051, [182, 1, 30])
noncomputable def zq1052 : yEn := (ze1052, [21, 4])
noncomputable def zq1053 : yEn := (ze1053, [162, 0, 64])
noncomputable def zq1054 : yEn := (ze1054, [154, 0, 12])
noncomputable def zq1055 : yEn := (ze1055, [182, 0, 80])
noncomputable def zq1056 : yEn := (ze1056, [167, 0, 42])
noncomputable def zq1057 : yEn := (ze1057, [27])
noncomputable def zq1058 : yEn := (ze1058, [182, 0, 84])
noncomputable def zq1059 : yEn := (ze1059, [182, 0, 87])
noncomputable def zq1060 : yEn := (ze1060, [167, 0, 12])
noncomputable def zq1061 : yEn := (ze1061, [17, 0, 143])
noncomputable def zq1062 : yEn := (ze1062, [97])
noncomputable def zq1063 : yEn := (ze1063, [167, 255, 189])
noncomputable def zq1064 : yEn := (ze1064, [182, 0, 77])
noncomputable def zq1065 : yEn := (ze1065, [162, 0, 40])
noncomputable def zq1066 : yEn := (ze1066, [162, 0, 52])
noncomputable def zq1067 : yEn := (ze1067, [162, 0, 37])
noncomputable def zq1068 : yEn := (ze1068, [167, 255, 216])
noncomputable def zq1069 : yEn := (ze1069, [20, 0, 91])
noncomputable def zq1070 : yEn := (ze1070, [32])
noncomputable def zq1071 : yEn := (ze1071, [156, 0, 40])
noncomputable def zq1072 : yEn := (ze1072, [20, 0, 93])
noncomputable def zq1073 : yEn := (ze1073, [157, 0, 9])
noncomputable def zq1074 : yEn := (ze1074, [22, 6])
noncomputable def zq1075 : yEn := (ze1075, [167, 255, 215])
noncomputable def zq1076 : yEn := (ze1076, [156, 0, 8])
noncomputable def zq1077 : yEn := (ze1077, [117])
noncomputable def zq1078 : yEn := (ze1078, [30])
noncomputable def zq1079 : yEn := (ze1079, [182, 0, 147])
noncomputable def zq1080 : yEn := (ze1080, [158, 0, 11])
noncomputable def zq1081 : yEn := (ze1081, [182, 0, 254])
noncomputable def zq1082 : yEn := (ze1082, [31])
noncomputable def zq1083 : yEn := (ze1083, [156, 0, 12])
noncomputable def zq1084 : yEn := (ze1084, [42])
noncomputable def zq1085 : yEn := (ze1085, [184, 0, 104])
noncomputable def zq1086 : yEn := (ze1086, [9])
noncomputable def zq1087 : yEn := (ze1087, [97])
noncomputable def zq1088 : yEn := (ze1088, [9])
noncomputable def zq1089 : yEn := (ze1089, [97])
noncomputable def zq1090 : yEn := (ze1090, [18, 119])
noncomputable def zq1091 : yEn := (ze1091, [182, 0, 120])
noncomputable def zq1092 : yEn := (ze1092, [17, 1, 31])
noncomputable def zq1093 : yEn := (ze1093, [156, 0, 52])
noncomputable def zq1094 : yEn := (ze1094, [17, 1, 39])
noncomputable def zq1095 : yEn := (ze1095, [157, 0, 21])
noncomputable def zq1096 : yEn := (ze1096, [17, 1, 87])
noncomputable def zq1097 : yEn := (ze1097, [17, 1, 139])
noncomputable def zq1098 : yEn := (ze1098, [182, 0, 115])
noncomputable def zq1099 : yEn := (ze1099, [162, 0, 85])
noncomputable def zq1100 : yEn := (ze1100, [154, 0, 6])
noncomputable def zq1101 : yEn := (ze1101, [167, 0, 54])
noncomputable def zq1102 : yEn := (ze1102, [22, 5])
noncomputable def zq1103 : yEn := (ze1103, [157, 0, 27])
noncomputable def zq1104 : yEn := (ze1104, [158, 0, 6])
noncomputable def zq1105 : yEn := (ze1105, [21, 4])
noncomputable def zq1106 : yEn := (ze1106, [167, 255, 171])
noncomputable def zq1107 : yEn := (ze1107, [155, 0, 17])
noncomputable def zq1108 : yEn := (ze1108, [167, 0, 18])
noncomputable def zq1109 : yEn := (ze1109, [167, 0, 14])
noncomputable def zq1110 : yEn := (ze1110, [16, 11])
noncomputable def zq1111 : yEn := (ze1111, [160, 0, 8])
noncomputable def zq1112 : yEn := (ze1112, [182, 0, 244])
noncomputable def zq1113 : yEn := (ze1113, [155, 0, 43])
noncomputable def zq1114 : yEn := (ze1114, [17, 5, 207])
noncomputable def zq1115 : yEn := (ze1115, [167, 255, 222])
noncomputable def zq1116 : yEn := (ze1116, [17, 5, 207])
noncomputable def zq1117 : yEn := (ze1117, [156, 0, 13])
noncomputable def zq1118 : yEn := (ze1118, [20, 0, 48])
noncomputable def zq1119 : yEn := (ze1119, [136])
noncomputable def zq1120 : yEn := (ze1120, [162, 0, 138])
noncomputable def zq1121 : yEn := (ze1121, [160, 0, 10])
noncomputable def zq1122 : yEn := (ze1122, [182, 1, 5])
noncomputable def zq1123 : yEn := (ze1123, [182, 1, 8])
noncomputable def zq1124 : yEn := (ze1124, [167, 0, 7])
noncomputable def zq1125 : yEn := (ze1125, [182, 1, 11])
noncomputable def zq1126 : yEn := (ze1126, [61])
noncomputable def zq1127 : yEn := (ze1127, [16, 55])
noncomputable def zq1128 : yEn := (ze1128, [9])
noncomputable def zq1129 : yEn := (ze1129, [80])
noncomputable def zq1130 : yEn := (ze1130, [182, 1, 14])
noncomputable def zq1131 : yEn := (ze1131, [182, 1, 17])
noncomputable def zq1132 : yEn := (ze1132, [132, 1, 1])
noncomputable def zq1133 : yEn := (ze1133, [167, 255, 119])
noncomputable def zq1134 : yEn := (ze1134, [162, 0, 71])
noncomputable def zq1135 : yEn := (ze1135, [3])
noncomputable def zq1136 : yEn := (ze1136, [54, 4])
noncomputable def zq1137 : yEn := (ze1137, [4])
noncomputable def zq1138 : yEn := (ze1138, [3])
noncomputable def zq1139 : yEn := (ze1139, [60])
noncomputable def zq1140 : yEn := (ze1140, [4])
noncomputable def zq1141 : yEn := (ze1141, [3])
noncomputable def zq1142 : yEn := (ze1142, [61])
noncomputable def zq1143 : yEn := (ze1143, [167, 255, 183])
noncomputable def zq1144 : yEn := (ze1144, [154, 0, 13])
noncomputable def zq1145 : yEn := (ze1145, [4])
noncomputable def zq1146 : yEn := (ze1146, [3])
noncomputable def zq1147 : yEn := (ze1147, [60])
noncomputable def zq1148 : yEn := (ze1148, [167, 255, 218])
noncomputable def zq1149 : yEn := (ze1149, [16, 45])
noncomputable def zq1150 : yEn := (ze1150, [16, 27])
noncomputable def zq1151 : yEn := (ze1151, [182, 1, 33])
noncomputable def zq1152 : yEn := (ze1152, [129])
noncomputable def zq1153 : yEn := (ze1153, [20, 0, 145])
noncomputable def zq1154 : yEn := (ze1154, [182, 1, 36])
noncomputable def zq1155 : yEn := (ze1155, [162, 0, 23])
noncomputable def zq1156 : yEn := (ze1156, [167, 255, 234])
noncomputable def zq1157 : yEn := (ze1157, [16, 26])
noncomputable def zq1158 : yEn := (ze1158, [182, 1, 42])
noncomputable def zq1159 : yEn := (ze1159, [3])
noncomputable def zq1160 : yEn := (ze1160, [133])
noncomputable def zq1161 : yEn := (ze1161, [17, 0, 128])
noncomputable def zq1162 : yEn := (ze1162, [16, 17])
noncomputable def zq1163 : yEn := (ze1163, [20, 1, 40])
noncomputable def zq1164 : yEn := (ze1164, [155, 0, 84])
noncomputable def zq1165 : yEn := (ze1165, [17, 6, 71])
noncomputable def zq1166 : yEn := (ze1166, [182, 1, 45])
noncomputable def zq1167 : yEn := (ze1167, [16, 6])
noncomputable def zq1168 : yEn := (ze1168, [162, 0, 34])
noncomputable def zq1169 : yEn := (ze1169, [17, 3, 20])
noncomputable def zq1170 : yEn := (ze1170, [167, 255, 220])
noncomputable def zq1171 : yEn := (ze1171, [17, 3, 20])
noncomputable def zq1172 : yEn := (ze1172, [182, 1, 47])
noncomputable def zq1173 : yEn := (ze1173, [162, 0, 10])
noncomputable def zq1174 : yEn := (ze1174, [16, 63])
noncomputable def zq1175 : yEn := (ze1175, [104])
noncomputable def zq1176 : yEn := (ze1176, [182, 1, 50])
noncomputable def zq1177 : yEn := (ze1177, [167, 255, 240])
noncomputable def zq1178 : yEn := (ze1178, [80])
noncomputable def zq1179 : yEn := (ze1179, [20, 1, 40])
noncomputable def zq1180 : yEn := (ze1180, [136])
noncomputable def zq1181 : yEn := (ze1181, [156, 0, 4])
noncomputable def zq1182 : yEn := (ze1182, [156, 0, 77])
noncomputable def zq1183 : yEn := (ze1183, [20, 1, 53])
noncomputable def zq1184 : yEn := (ze1184, [158, 0, 32])
noncomputable def zq1185 : yEn := (ze1185, [32])
noncomputable def zq1186 : yEn := (ze1186, [157, 0, 4])
noncomputable def zq1187 : yEn := (ze1187, [159, 0, 23])
noncomputable def zq1188 : yEn := (ze1188, [20, 0, 99])
noncomputable def zq1189 : yEn := (ze1189, [55, 4])
noncomputable def zq1190 : yEn := (ze1190, [55, 6])
noncomputable def zq1191 : yEn := (ze1191, [])
noncomputable def zq1192 : yEn := (ze1192, [22, 8])
noncomputable def zq1193 : yEn := (ze1193, [22, 4])
noncomputable def zq1194 : yEn := (ze1194, [182, 0, 108])
noncomputable def zq1195 : yEn := (ze1195, [167, 0, 20])
noncomputable def zq1196 : yEn := (ze1196, [22, 4])
noncomputable def zq1197 : yEn := (ze1197, [184, 0, 111])
noncomputable def zq1198 : yEn := (ze1198, [20, 0, 99])
noncomputable def zq1199 : yEn := (ze1199, [32])
noncomputable def zq1200 : yEn := (ze1200, [65])
noncomputable def zq1201 : yEn := (ze1201, [167, 255, 212])
noncomputable def zq1202 : yEn := (ze1202, [30])
noncomputable def zq1203 : yEn := (ze1203, [156, 0, 15])
noncomputable def zq1204 : yEn := (ze1204, [20, 0, 36])
noncomputable def zq1205 : yEn := (ze1205, [154, 0, 29])
noncomputable def zq1206 : yEn := (ze1206, [184, 0, 125])
noncomputable def zq1207 : yEn := (ze1207, [20, 0, 128])
noncomputable def zq1208 : yEn := (ze1208, [184, 0, 130])
noncomputable def zq1209 : yEn := (ze1209, [182, 0, 133])
noncomputable def zq1210 : yEn := (ze1210, [20, 0, 123])
noncomputable def zq1211 : yEn := (ze1211, [162, 0, 29])
noncomputable def zq1212 : yEn := (ze1212, [156, 0, 9])
noncomputable def zq1213 : yEn := (ze1213, [132, 6, 1])
noncomputable def zq1214 : yEn := (ze1214, [162, 0, 27])
noncomputable def zq1215 : yEn := (ze1215, [3])
noncomputable def zq1216 : yEn := (ze1216, [54, 7])
noncomputable def zq1217 : yEn := (ze1217, [21, 5])
noncomputable def zq1218 : yEn := (ze1218, [21, 8])
noncomputable def zq1219 : yEn := (ze1219, [164, 0, 74])
noncomputable def zq1220 : yEn := (ze1220, [154, 0, 69])
noncomputable def zq1221 : yEn := (ze1221, [132, 8, 255])
noncomputable def zq1222 : yEn := (ze1222, [167, 255, 181])
noncomputable def zq1223 : yEn := (ze1223, [42])
noncomputable def zq1224 : yEn := (ze1224, [10])
noncomputable def zq1225 : yEn := (ze1225, [97])
noncomputable def zq1226 : yEn := (ze1226, [184, 0, 136])
noncomputable def zq1227 : yEn := (ze1227, [20, 0, 46])
noncomputable def zq1228 : yEn := (ze1228, [20, 0, 138])
noncomputable def zq1229 : yEn := (ze1229, [20, 0, 140])
noncomputable def zq1230 : yEn := (ze1230, [154, 0, 27])
noncomputable def zq1231 : yEn := (ze1231, [20, 0, 138])
noncomputable def zq1232 : yEn := (ze1232, [159, 0, 12])
noncomputable def zq1233 : yEn := (ze1233, [182, 0, 142])
noncomputable def zq1234 : yEn := (ze1234, [4])
noncomputable def zq1235 : yEn := (ze1235, [96])
noncomputable def zq1236 : yEn := (ze1236, [20, 0, 150])
noncomputable def zq1237 : yEn := (ze1237, [154, 0, 9])
noncomputable def zq1238 : yEn := (ze1238, [17, 1, 87])
noncomputable def zq1239 : yEn := (ze1239, [16, 6])
noncomputable def zq1240 : yEn := (ze1240, [21, 8])
noncomputable def zq1241 : yEn := (ze1241, [163, 0, 90])
noncomputable def zq1242 : yEn := (ze1242, [18, 119])
noncomputable def zq1243 : yEn := (ze1243, [54, 9])
noncomputable def zq1244 : yEn := (ze1244, [160, 0, 11])
noncomputable def zq1245 : yEn := (ze1245, [3])
noncomputable def zq1246 : yEn := (ze1246, [96])
noncomputable def zq1247 : yEn := (ze1247, [132, 8, 1])
noncomputable def zq1248 : yEn := (ze1248, [167, 255, 165])
noncomputable def zq1249 : yEn := (ze1249, [21, 5])
noncomputable def zq1250 : yEn := (ze1250, [182, 0, 154])
noncomputable def zq1251 : yEn := (ze1251, [167, 0, 25])
noncomputable def zq1252 : yEn := (ze1252, [163, 0, 134])
noncomputable def zq1253 : yEn := (ze1253, [20, 0, 152])
noncomputable def zq1254 : yEn := (ze1254, [156, 0, 87])
noncomputable def zq1255 : yEn := (ze1255, [97])
noncomputable def zq1256 : yEn := (ze1256, [158, 0, 35])
noncomputable def zq1257 : yEn := (ze1257, [157, 0, 26])
noncomputable def zq1258 : yEn := (ze1258, [167, 255, 158])
noncomputable def zq1259 : yEn := (ze1259, [167, 255, 120])
noncomputable def zq1260 : yEn := (ze1260, [180, 0, 157])
noncomputable def zq1261 : yEn := (ze1261, [182, 0, 160])
noncomputable def zq1262 : yEn := (ze1262, [155, 0, 32])
noncomputable def zq1263 : yEn := (ze1263, [180, 0, 19])
noncomputable def zq1264 : yEn := (ze1264, [145])
noncomputable def zq1265 : yEn := (ze1265, [84])
noncomputable def zq1266 : yEn := (ze1266, [181, 0, 157])
noncomputable def zq1267 : yEn := (ze1267, [180, 0, 164])
noncomputable def zq1268 : yEn := (ze1268, [180, 0, 23])
noncomputable def zq1269 : yEn := (ze1269, [181, 0, 164])
noncomputable def zq1270 : yEn := (ze1270, [180, 0, 13])
noncomputable def zq1271 : yEn := (ze1271, [184, 0, 232])
noncomputable def zq1272 : yEn := (ze1272, [181, 0, 167])
noncomputable def zq1273 : yEn := (ze1273, [181, 0, 171])
noncomputable def zq1274 : yEn := (ze1274, [182, 0, 236])
noncomputable def zq1275 : yEn := (ze1275, [182, 0, 173])
noncomputable def zq1276 : yEn := (ze1276, [180, 0, 171])
noncomputable def zq1277 : yEn := (ze1277, [162, 0, 24])
noncomputable def zq1278 : yEn := (ze1278, [180, 0, 167])
noncomputable def zq1279 : yEn := (ze1279, [182, 0, 239])
noncomputable def zq1280 : yEn := (ze1280, [162, 0, 15])
noncomputable def zq1281 : yEn := (ze1281, [180, 0, 27])
noncomputable def zq1282 : yEn := (ze1282, [20, 0, 46])
noncomputable def zq1283 : yEn := (ze1283, [80])
noncomputable def zq1284 : yEn := (ze1284, [180, 0, 31])
noncomputable def zq1285 : yEn := (ze1285, [181, 0, 199])
noncomputable def zq1286 : yEn := (ze1286, [181, 0, 202])
noncomputable def zq1287 : yEn := (ze1287, [51])
noncomputable def zq1288 : yEn := (ze1288, [182, 0, 220])
noncomputable def zq1289 : yEn := (ze1289, [182, 0, 184])
noncomputable def zq1290 : yEn := (ze1290, [180, 0, 199])
noncomputable def zq1291 : yEn := (ze1291, [180, 0, 202])
noncomputable def zq1292 : yEn := (ze1292, [182, 0, 192])
noncomputable def zq1293 : yEn := (ze1293, [28])
noncomputable def zq1294 : yEn := (ze1294, [182, 0, 223])
noncomputable def zq1295 : yEn := (ze1295, [182, 0, 226])
noncomputable def zq1296 : yEn := (ze1296, [182, 0, 229])
noncomputable def zq1297 : yEn := (ze1297, [160, 0, 38])
noncomputable def zq1298 : yEn := (ze1298, [162, 0, 26])
noncomputable def zq1299 : yEn := (ze1299, [182, 0, 205])
noncomputable def zq1300 : yEn := (ze1300, [167, 255, 231])
noncomputable def zq1301 : yEn := (ze1301, [182, 0, 212])
noncomputable def zq1302 : yEn := (ze1302, [16, 116])
noncomputable def zq1303 : yEn := (ze1303, [16, 98])
noncomputable def zq1304 : yEn := (ze1304, [16, 108])
noncomputable def zq1305 : yEn := (ze1305, [16, 101])
noncomputable def zq1306 : yEn := (ze1306, [182, 0, 195])
noncomputable def zq1307 : yEn := (ze1307, [16, 115])
noncomputable def zq1308 : yEn := (ze1308, [16, 111])
noncomputable def zq1309 : yEn := (ze1309, [16, 110])
noncomputable def zq1310 : yEn := (ze1310, [16, 112])
noncomputable def zq1311 : yEn := (ze1311, [16, 99])
noncomputable def zq1312 : yEn := (ze1312, [16, 114])
noncomputable def zq1313 : yEn := (ze1313, [160, 0, 79])
noncomputable def zq1314 : yEn := (ze1314, [160, 0, 66])
noncomputable def zq1315 : yEn := (ze1315, [160, 0, 51])
noncomputable def zq1316 : yEn := (ze1316, [160, 0, 35])
noncomputable def zq1317 : yEn := (ze1317, [27])
noncomputable def zq1318 : yEn := (ze1318, [161, 0, 19])
noncomputable def zq1319 : yEn := (ze1319, [160, 0, 30])
noncomputable def zq1320 : yEn := (ze1320, [27])
noncomputable def zq1321 : yEn := (ze1321, [20, 0, 188])
noncomputable def zq1322 : yEn := (ze1322, [20, 0, 190])
noncomputable def zq1323 : yEn := (ze1323, [180, 0, 180])
noncomputable def zq1324 : yEn := (ze1324, [154, 0, 131])
noncomputable def zq1325 : yEn := (ze1325, [182, 0, 209])
noncomputable def zq1326 : yEn := (ze1326, [153, 0, 124])
noncomputable def zq1327 : yEn := (ze1327, [182, 0, 216])
noncomputable def zq1328 : yEn := (ze1328, [167, 255, 124])
noncomputable def zq1329 : yEn := (ze1329, [181, 0, 180])
noncomputable def zq1330 : yEn := (ze1330, [162, 0, 66])
noncomputable def zq1331 : yEn := (ze1331, [20, 0, 176])
noncomputable def zq1332 : yEn := (ze1332, [20, 0, 178])
noncomputable def zq1333 : yEn := (ze1333, [153, 0, 44])
noncomputable def zq1334 : yEn := (ze1334, [18, 183])
noncomputable def zq1335 : yEn := (ze1335, [16, 10])
noncomputable def zq1336 : yEn := (ze1336, [167, 255, 185])
noncomputable def zq1337 : yEn := (ze1337, [167, 0, 24])
noncomputable def zq1338 : yEn := (ze1338, [156, 0, 32])
noncomputable def zq1339 : yEn := (ze1339, [20, 0, 242])
noncomputable def zq1340 : yEn := (ze1340, [17, 6, 79])
noncomputable def zq1341 : yEn := (ze1341, [182, 0, 248])
noncomputable def zq1342 : yEn := (ze1342, [154, 0, 39])
noncomputable def zq1343 : yEn := (ze1343, [17, 6, 80])
noncomputable def zq1344 : yEn := (ze1344, [17, 6, 81])
noncomputable def zq1345 : yEn := (ze1345, [156, 0, 5])
noncomputable def zq1346 : yEn := (ze1346, [20, 0, 252])
noncomputable def zq1347 : yEn := (ze1347, [158, 0, 21])
noncomputable def zq1357 : yEn := (ze1357, [17, 6, 75])
noncomputable def zq1360 : yEn := (ze1360, [154, 0, 15])
noncomputable def zq1361 : yEn := (ze1361, [20, 1, 67])
noncomputable def zq1362 : yEn := (ze1362, [162, 0, 38])
noncomputable def zq1363 : yEn := (ze1363, [153, 0, 26])
noncomputable def zq1364 : yEn := (ze1364, [9])
noncomputable def zq1365 : yEn := (ze1365, [80])
noncomputable def zq1366 : yEn := (ze1366, [20, 1, 69])
noncomputable def zq1367 : yEn := (ze1367, [16, 18])
noncomputable def zq1368 : yEn := (ze1368, [155, 0, 42])
noncomputable def zq1369 : yEn := (ze1369, [17, 1, 59])
noncomputable def zq1370 : yEn := (ze1370, [17, 4, 148])
noncomputable def zq1371 : yEn := (ze1371, [17, 4, 148])
noncomputable def zq1372 : yEn := (ze1372, [182, 1, 71])
noncomputable def zq1373 : yEn := (ze1373, [16, 6])
noncomputable def zq1374 : yEn := (ze1374, [104])
noncomputable def zq1375 : yEn := (ze1375, [16, 35])
noncomputable def zq1376 : yEn := (ze1376, [167, 255, 228])
noncomputable def zq1377 : yEn := (ze1377, [20, 0, 123])
noncomputable def zq1378 : yEn := (ze1378, [182, 1, 74])
noncomputable def zq1379 : yEn := (ze1379, [159, 0, 11])
noncomputable def zq1380 : yEn := (ze1380, [184, 1, 77])
noncomputable def zq1381 : yEn := (ze1381, [20, 0, 46])
noncomputable def zq1382 : yEn := (ze1382, [184, 1, 80])
noncomputable def zq1383 : yEn := (ze1383, [42])
noncomputable def zq1384 : yEn := (ze1384, [101])
noncomputable def zq1385 : yEn := (ze1385, [20, 0, 140])
noncomputable def zq1386 : yEn := (ze1386, [136])
noncomputable def zq1387 : yEn := (ze1387, [96])
noncomputable def zq1388 : yEn := (ze1388, [159, 0, 15])
noncomputable def zq1389 : yEn := (ze1389, [42])
noncomputable def zq1390 : yEn := (ze1390, [9])
noncomputable def zq1391 : yEn := (ze1391, [21, 8])
noncomputable def zq1392 : yEn := (ze1392, [162, 0, 70])
noncomputable def zq1393 : yEn := (ze1393, [182, 1, 86])
noncomputable def zq1394 : yEn := (ze1394, [22, 6])
noncomputable def zq1395 : yEn := (ze1395, [55, 6])
noncomputable def zq1396 : yEn := (ze1396, [167, 255, 186])
noncomputable def zq1397 : yEn := (ze1397, [20, 0, 38])
noncomputable def zq1398 : yEn := (ze1398, [9])
noncomputable def zq1399 : yEn := (ze1399, [17, 6, 77])
noncomputable def zq1400 : yEn := (ze1400, [55, 12])
noncomputable def zq1401 : yEn := (ze1401, [22, 12])
noncomputable def zq1402 : yEn := (ze1402, [184, 1, 83])
noncomputable def zq1403 : yEn := (ze1403, [55, 14])
noncomputable def zq1404 : yEn := (ze1404, [22, 12])
noncomputable def zq1405 : yEn := (ze1405, [22, 14])
noncomputable def zq1406 : yEn := (ze1406, [32])
noncomputable def zq1407 : yEn := (ze1407, [])
noncomputable def zq1408 : yEn := (ze1408, [153, 0, 31])
noncomputable def zq1409 : yEn := (ze1409, [20, 1, 90])
noncomputable def zq1410 : yEn := (ze1410, [])
noncomputable def zq1411 : yEn := (ze1411, [133])
noncomputable def zq1412 : yEn := (ze1412, [133])
noncomputable def zq1413 : yEn := (ze1413, [167, 0, 23])
noncomputable def zq1414 : yEn := (ze1414, [182, 1, 95])
noncomputable def zq1415 : yEn := (ze1415, [])
noncomputable def zq1416 : yEn := (ze1416, [16, 69])
noncomputable def zq1417 : yEn := (ze1417, [182, 1, 92])
noncomputable def zq1418 : yEn := (ze1418, [31])
noncomputable def zq1419 : yEn := (ze1419, [64])
noncomputable def zq1420 : yEn := (ze1420, [157, 0, 18])
noncomputable def zq1421 : yEn := (ze1421, [182, 1, 101])
noncomputable def zq1422 : yEn := (ze1422, [162, 0, 69])
noncomputable def zq1423 : yEn := (ze1423, [18, 119])
noncomputable def zq1424 : yEn := (ze1424, [54, 7])
noncomputable def zq1425 : yEn := (ze1425, [182, 1, 98])
noncomputable def zq1426 : yEn := (ze1426, [21, 9])
noncomputable def zq1427 : yEn := (ze1427, [157, 0, 151])
noncomputable def zq1428 : yEn := (ze1428, [156, 0, 24])
noncomputable def zq1429 : yEn := (ze1429, [18, 119])
noncomputable def zq1430 : yEn := (ze1430, [54, 10])
noncomputable def zq1431 : yEn := (ze1431, [164, 0, 8])
noncomputable def zq1432 : yEn := (ze1432, [28])
noncomputable def zq1433 : yEn := (ze1433, [54, 11])
noncomputable def zq1434 : yEn := (ze1434, [21, 10])
noncomputable def zq1435 : yEn := (ze1435, [162, 0, 8])
noncomputable def zq1436 : yEn := (ze1436, [29])
noncomputable def zq1437 : yEn := (ze1437, [54, 12])
noncomputable def zq1438 : yEn := (ze1438, [21, 11])
noncomputable def zq1439 : yEn := (ze1439, [164, 0, 25])
noncomputable def zq1440 : yEn := (ze1440, [21, 10])
noncomputable def zq1441 : yEn := (ze1441, [156, 0, 23])
noncomputable def zq1442 : yEn := (ze1442, [132, 9, 1])
noncomputable def zq1443 : yEn := (ze1443, [167, 255, 93])
noncomputable def zq1444 : yEn := (ze1444, [22, 5])
noncomputable def zq1445 : yEn := (ze1445, [153, 0, 33])
noncomputable def zq1446 : yEn := (ze1446, [20, 1, 104])
noncomputable def zq1447 : yEn := (ze1447, [157, 0, 13])
noncomputable def zq1448 : yEn := (ze1448, [162, 0, 45])
noncomputable def zq1449 : yEn := (ze1449, [156, 0, 6])
noncomputable def zq1450 : yEn := (ze1450, [167, 255, 210])
noncomputable def zq1451 : yEn := (ze1451, [162, 0, 25])
noncomputable def zq1452 : yEn := (ze1452, [163, 0, 63])
noncomputable def zq1453 : yEn := (ze1453, [21, 9])
noncomputable def zq1454 : yEn := (ze1454, [132, 9, 1])
noncomputable def zq1455 : yEn := (ze1455, [167, 255, 232])
noncomputable def zq1456 : yEn := (ze1456, [22, 7])
noncomputable def zq1457 : yEn := (ze1457, [22, 7])
noncomputable def zq1458 : yEn := (ze1458, [167, 255, 188])
noncomputable def zq1459 : yEn := (ze1459, [28])
noncomputable def zq1460 : yEn := (ze1460, [9])
noncomputable def zq1461 : yEn := (ze1461, [97])
noncomputable def zq1462 : yEn := (ze1462, [20, 0, 44])
noncomputable def zq1463 : yEn := (ze1463, [153, 0, 37])
noncomputable def zq1464 : yEn := (ze1464, [180, 1, 106])
noncomputable def zq1465 : yEn := (ze1465, [180, 0, 16])
noncomputable def zq1466 : yEn := (ze1466, [181, 1, 106])
noncomputable def pq0 : List (List yEn) := [
  [zq0, zq1, zqn, zqn, zq0, zq2, zqn, zqn, zq3, zq4, zqn, zqn, zq5, zqn, zqn, zq0],
  [zq2, zqn, zqn, zq3, zq4, zqn, zqn, zq6, zqn, zqn, zq0, zq2, zqn, zqn, zq3, zq4],
  [zqn, zqn, zq7, zqn, zqn, zq0, zq8, zqn, zqn, zq3, zq9, zqn, zqn, zq10, zqn, zqn],
  [zq11]]
noncomputable def pq1 : List (List yEn) := [
  [zq0, zq1, zqn, zqn, zq0, zq12, zqn, zqn, zq3, zq13, zqn, zqn, zq14, zqn, zqn, zq0],
  [zq15, zqn, zqn, zq3, zq16, zqn, zqn, zq17, zqn, zqn, zq0, zq18, zqn, zqn, zq3, zq19],
  [zqn, zqn, zq20, zqn, zqn, zq0, zq21, zqn, zqn, zq3, zq22, zqn, zqn, zq23, zqn, zqn],
  [zq0, zq24, zqn, zqn, zq3, zq25, zqn, zqn, zq26, zqn, zqn, zq0, zq27, zqn, zqn, zq3],
  [zq28, zqn, zqn, zq29, zqn, zqn, zq0, zq30, zqn, zqn, zq3, zq31, zqn, zqn, zq32, zqn],
  [zqn, zq0, zq33, zqn, zqn, zq3, zq34, zqn, zqn, zq35, zqn, zqn, zq0, zq36, zqn, zqn],
  [zq3, zq37, zqn, zqn, zq38, zqn, zqn, zq11]]
noncomputable def pq2 : List (List yEn) := [
  [zq0, zq1, zqn, zqn, zq0, zq39, zqn, zq40, zqn, zq41, zqn, zqn, zq42, zqn, zqn, zq43],
  [zq0, zq44, zqn, zqn, zq43, zq39, zqn, zq45, zqn, zqn, zq11]]
noncomputable def pq3 : List (List yEn) := [
  [zq0, zq46, zqn, zqn, zq0, zq47, zqn, zq40, zqn, zq48, zqn, zqn, zq0, zq49, zqn, zq40],
  [zqn, zq50, zqn, zqn, zq0, zq49, zqn, zq40, zqn, zq51, zqn, zqn, zq0, zq52, zq40, zqn],
  [zq53, zqn, zqn, zq0, zq54, zqn, zq40, zqn, zq55, zqn, zqn, zq0, zq56, zqn, zq40, zqn],
  [zq57, zqn, zqn, zq0, zq56, zqn, zq40, zqn, zq58, zqn, zqn, zq0, zq59, zqn, zqn, zq11]]
noncomputable def pq4 : List (List yEn) := [
  [zq0, zq60, zqn, zqn, zq43, zq61, zqn, zqn, zq0, zq62, zqn, zqn, zq63, zq61, zqn, zqn],
  [zq0, zq62, zqn, zqn, zq43, zq43, zq64, zq0, zq65, zqn, zqn, zq43, zq61, zqn, zqn, zq0],
  [zq43, zq66, zqn, zqn, zq11]]
noncomputable def pq5 : List (List yEn) := [
  [zq43, zq67, zq0, zq68, zq69, zq70, zq71, zq72, zqn, zqn, zq0, zq73, zq74, zq64, zq75, zqn],
  [zqn, zq76, zqn, zqn, zq77]]
noncomputable def pq6 : List (List yEn) := [
  [zq0, zq46, zqn, zqn, zq0, zq49, zqn, zq40, zqn, zq78, zqn, zqn, zq0, zq49, zqn, zq40],
  [zqn, zq79, zqn, zqn, zq0, zq56, zqn, zq80, zqn, zq81, zqn, zqn, zq0, zq82, zq83, zqn],
  [zqn, zq0, zq47, zqn, zq84, zqn, zqn, zq11]]
noncomputable def pq7 : List (List yEn) := [
  [zq0, zq46, zqn, zqn, zq0, zq54, zqn, zq80, zqn, zq85, zqn, zqn, zq0, zq54, zqn, zq80],
  [zqn, zq86, zqn, zqn, zq0, zq87, zqn, zqn, zq80, zqn, zq88, zqn, zqn, zq11]]
noncomputable def pq8 : List (List yEn) := [
  [zq0, zq1, zqn, zqn, zq0, zq89, zqn, zqn, zq80, zqn, zq90, zqn, zqn, zq0, zq52, zq80],
  [zqn, zq91, zqn, zqn, zq11]]
noncomputable def pq9 : List (List yEn) := [
  [zq0, zq1, zqn, zqn, zq0, zq52, zq80, zqn, zq92, zqn, zqn, zq0, zq52, zq40, zqn, zq93],
  [zqn, zqn, zq0, zq94, zqn, zqn, zq95, zqn, zqn, zq0, zq63, zq96, zqn, zqn, zq0, zq97],
  [zqn, zqn, zq11]]
noncomputable def pq10 : List (List yEn) := [
  [zq0, zq98, zqn, zqn, zq94, zqn, zqn, zq99, zqn, zqn, zq0, zq100, zqn, zqn, zq63, zq101],
  [zqn, zqn, zq11]]
noncomputable def pq11 : List (List yEn) := [
  [zq43, zq69, zq0, zq68, zq102, zqn, zq103, zq104, zqn, zq72, zqn, zqn, zq0, zq71, zq105, zq106],
  [zq107, zqn, zqn, zq108, zqn, zqn, zq77]]
noncomputable def pq12 : List (List yEn) := [
  [zq0, zq109, zqn, zqn, zq0, zq110, zq40, zqn, zq111, zqn, zqn, zq0, zq110, zq40, zqn, zq112],
  [zqn, zqn, zq0, zq110, zq40, zqn, zq113, zqn, zqn, zq11]]
noncomputable def pq13 : List (List yEn) := [
  [zq0, zq109, zqn, zqn, zq0, zq114, zqn, zq40, zqn, zq115, zqn, zqn, zq11]]
noncomputable def pq14 : List (List yEn) := [
  [zq0, zq109, zqn, zqn, zq11]]
noncomputable def pq15 : List (List yEn) := [
  [zq0, zq1, zqn, zqn, zq0, zq116, zqn, zqn, zq40, zqn, zq117, zqn, zqn, zq0, zq118, zqn],
  [zqn, zq3, zq119, zqn, zqn, zq120, zqn, zqn, zq0, zq52, zq40, zqn, zq121, zqn, zqn, zq0],
  [zq63, zq122, zqn, zqn, zq11]]
noncomputable def pq16 : List (List yEn) := [
  [zq0, zq123, zqn, zqn, zq124, zqn, zqn, zq125, zqn, zqn, zq126, zqn, zqn, zq43, zq127, zq128],
  [zq123, zqn, zqn, zq129, zqn, zqn, zq74, zq73, zq130, zqn, zqn, zq127]]
noncomputable def pq17 : List (List yEn) := [
  [zq0, zq131, zqn, zqn, zq132, zqn, zqn, zq0, zq3, zq133, zqn, zqn, zq82, zq134, zq135, zqn],
  [zqn, zq136, zq131, zqn, zqn, zq127]]
noncomputable def pq18 : List (List yEn) := [
  [zq74, zq82, zq137, zqn, zqn, zq74, zq138, zq139, zqn, zqn, zq73, zq52, zq140, zqn, zqn, zq73],
  [zq56, zqn, zq141, zqn, zqn, zq73, zq52, zq142, zq126, zqn, zqn, zq143, zq127, zq128, zq74, zq83],
  [zqn, zqn, zq0, zq73, zq84, zqn, zqn, zq0, zq43, zq144, zqn, zqn, zq0, zq145, zq146, zqn],
  [zqn, zq0, zq147, zqn, zqn, zq145, zq148, zqn, zqn, zq82, zq127]]
noncomputable def pq19 : List (List yEn) := [
  [zq74, zq149, zqn, zqn, zq150, zqn, zqn, zq74, zq151, zqn, zqn, zq152, zqn, zqn, zq73, zq149],
  [zqn, zqn, zq153, zqn, zqn, zq73, zq151, zqn, zqn, zq154, zqn, zqn, zq155, zq127, zq128, zq123],
  [zqn, zqn, zq129, zqn, zqn, zq74, zq73, zq156, zqn, zqn, zq157, zqn, zqn, zq0, zq123, zqn],
  [zqn, zq82, zq158, zqn, zqn, zq136, zq123, zqn, zqn, zq129, zqn, zqn, zq159, zqn, zqn, zq127]]
noncomputable def pq20 : List (List yEn) := [
  [zq0, zq160, zqn, zqn, zq0, zq161, zqn, zqn, zq74, zq64, zq0, zq162, zqn, zqn, zq0, zq161],
  [zqn, zqn, zq73, zq64, zq0, zq3, zq161, zqn, zqn, zq82, zq134, zq144, zqn, zqn, zq0, zq161],
  [zqn, zqn, zq0, zq163, zqn, zqn, zq0, zq164, zqn, zqn, zq165, zq166, zqn, zqn, zq43, zq127],
  [zq136, zq43, zq144, zqn, zqn, zq0, zq167, zqn, zqn, zq82, zq127]]
noncomputable def pq21 : List (List yEn) := [
  [zq0, zq147, zqn, zqn, zq145, zq148, zqn, zqn, zq0, zq164, zqn, zqn, zq52, zq168, zq169, zq43],
  [zq67, zq170, zq0, zq164, zqn, zqn, zq171, zqn, zqn, zq73, zq74, zq134, zq0, zq164, zqn, zqn],
  [zq142, zq69, zq43, zq102, zqn, zq172, zqn, zq0, zq163, zqn, zqn, zq173, zqn, zqn, zq73, zq0],
  [zq163, zqn, zqn, zq165, zq104, zqn, zq134, zq174, zqn, zq0, zq43, zq104, zqn, zq0, zq160, zqn],
  [zqn, zq175, zqn, zq176, zq0, zq162, zqn, zqn, zq175, zqn, zq176, zq165, zq177, zqn, zqn, zq0],
  [zq82, zq104, zqn, zq0, zq160, zqn, zqn, zq175, zqn, zq176, zq0, zq162, zqn, zqn, zq71, zq0],
  [zq163, zqn, zqn, zq165, zq104, zqn, zq134, zq176, zq165, zq177, zqn, zqn, zq0, zq178, zq104, zqn],
  [zq0, zq160, zqn, zqn, zq175, zqn, zq176, zq0, zq160, zqn, zqn, zq175, zqn, zq176, zq165, zq177],
  [zqn, zqn, zq0, zq138, zq104, zqn, zq0, zq162, zqn, zqn, zq175, zqn, zq176, zq0, zq162, zqn],
  [zqn, zq175, zqn, zq176, zq165, zq177, zqn, zqn, zq179, zqn, zqn, zq180, zqn, zqn, zq181, zqn],
  [zqn, zq182, zqn, zqn, zq136, zq0, zq138, zq183, zqn, zqn, zq146, zqn, zqn, zq11]]
noncomputable def pq22 : List (List yEn) := [
  [zq0, zq147, zqn, zqn, zq74, zq52, zq165, zq73, zq134, zq184, zq185, zq71, zq186, zq187, zq106, zq0],
  [zq147, zqn, zqn, zq74, zq52, zq165, zq138, zq134, zq184, zq185, zq71, zq186, zq187, zq106, zq11]]
noncomputable def pq23 : List (List yEn) := [
  [zq0, zq147, zqn, zqn, zq43, zq74, zq134, zq185, zq188, zq0, zq147, zqn, zqn, zq52, zq74, zq134],
  [zq185, zq189, zqn, zq190, zq190, zq191, zq192, zqn, zq192, zqn, zq191, zq187, zq193, zqn, zqn, zq194]]
noncomputable def pq24 : List (List yEn) := [
  [zq145, zq188, zq195, zqn, zq102, zqn, zq196, zqn, zq197, zqn, zqn, zq190, zq198, zq104, zqn, zq199],
  [zq187, zq200, zqn, zq201, zqn, zq201, zqn, zq191, zq202, zq203, zq204, zqn, zqn, zq201, zqn, zq188],
  [zq205, zqn, zqn, zq206, zqn, zqn, zq207, zq194]]
noncomputable def pq25 : List (List yEn) := [
  [zq74, zq67, zq43, zq69, zq208, zq74, zq209, zqn, zqn, zq73, zq210, zqn, zqn, zq73, zq0, zq73],
  [zq211, zqn, zqn, zq212, zq67, zq107, zqn, zqn, zq213, zqn, zqn, zq77]]
noncomputable def pq26 : List (List yEn) := [
  [zq0, zq214, zqn, zqn, zq0, zq215, zqn, zqn, zq216, zqn, zqn, zq67, zq0, zq217, zqn, zqn],
  [zq0, zq218, zqn, zqn, zq219, zqn, zqn, zq220, zqn, zqn, zq69, zq0, zq74, zq73, zq71, zq221],
  [zqn, zqn, zq102, zqn, zq0, zq104, zqn, zq73, zq222, zqn, zqn, zq0, zq3, zq223, zqn, zqn],
  [zq104, zqn, zq134, zq224, zqn, zqn, zq0, zq3, zq215, zqn, zqn, zq104, zqn, zq82, zq212, zq134],
  [zq225, zqn, zqn, zq0, zq226, zqn, zqn, zq0, zq227, zqn, zqn, zq104, zqn, zq71, zq0, zq218],
  [zqn, zqn, zq228, zqn, zqn, zq0, zq229, zqn, zqn, zq0, zq215, zqn, zqn, zq230, zqn, zqn],
  [zq0, zq231, zqn, zqn, zq104, zqn, zq0, zq227, zqn, zqn, zq232, zqn, zqn, zq233, zqn, zqn],
  [zq0, zq215, zqn, zqn, zq234, zqn, zq72, zqn, zqn, zq0, zq3, zq215, zqn, zqn, zq82, zq134],
  [zq225, zqn, zqn, zq235, zq73, zq236, zqn, zqn, zq104, zqn, zq127]]
noncomputable def pq27 : List (List yEn) := [
  [zq0, zq0, zq74, zq237, zqn, zq168, zq238, zqn, zqn, zq74, zq237, zqn, zq142, zq239, zqn, zqn],
  [zq127]]
noncomputable def pq28 : List (List yEn) := [
  [zq0, zq74, zq240, zqn, zqn, zq142, zq241, zqn, zqn, zq67, zq73, zq63, zq242, zqn, zqn, zq0],
  [zq243, zqn, zqn, zq73, zq176, zq127, zq244, zq65, zqn, zqn, zq0, zq74, zq240, zqn, zqn, zq142],
  [zq245, zqn, zqn, zq246, zqn, zq165, zq74, zq246, zqn, zq142, zq134, zq176, zq127]]
noncomputable def pq29 : List (List yEn) := [
  [zq43, zq67, zq170, zq0, zq247, zqn, zqn, zq209, zqn, zqn, zq0, zq248, zqn, zqn, zq73, zq176],
  [zq74, zq249, zqn, zqn, zq73, zq127, zq181, zqn, zqn, zq250, zqn, zqn, zq155, zq127]]
noncomputable def pq30 : List (List yEn) := [
  [zq63, zq67, zq43, zq69, zq43, zq102, zqn, zq172, zqn, zq52, zq251, zqn, zqn, zq0, zq62, zqn],
  [zqn, zq104, zqn, zq176, zq63, zq252, zqn, zqn, zq253, zqn, zqn, zq254, zq62, zqn, zqn, zq104],
  [zqn, zq176, zq74, zq255, zqn, zqn, zq73, zq63, zq256, zqn, zqn, zq0, zq62, zqn, zqn, zq104],
  [zqn, zq176, zq0, zq62, zqn, zqn, zq73, zq176, zq257, zqn, zqn, zq258, zqn, zq67, zq254, zq62],
  [zqn, zqn, zq104, zqn, zq176, zq0, zq62, zqn, zqn, zq71, zq176, zq257, zqn, zqn, zq104, zqn],
  [zq69, zq259, zqn, zqn, zq260, zqn, zqn, zq261, zq63, zq262, zqn, zqn, zq71, zq263, zqn, zqn],
  [zq264, zq265]]
noncomputable def pq31 : List (List yEn) := [
  [zq0, zq74, zq73, zq82, zq134, zq266, zqn, zqn, zq69, zq71, zq267, zqn, zqn, zq43, zq268, zqn],
  [zqn, zq269, zq270, zqn, zqn, zq74, zq271, zqn, zq165, zq71, zq134, zq82, zq212, zq176, zq265]]
noncomputable def pq32 : List (List yEn) := [
  [zq74, zq271, zqn, zq165, zq69, zq43, zq102, zqn, zq172, zqn, zq0, zq60, zqn, zqn, zq74, zq176],
  [zq272, zqn, zqn, zq0, zq273, zqn, zqn, zq71, zq104, zqn, zq134, zq176, zq73, zq274, zqn, zqn],
  [zq179, zqn, zqn, zq275, zqn, zqn, zq276, zqn, zq127]]
noncomputable def pq33 : List (List yEn) := [
  [zq0, zq44, zqn, zqn, zq178, zq176, zq127]]
noncomputable def pq34 : List (List yEn) := [
  [zq43, zq67, zq43, zq69, zq43, zq102, zqn, zq43, zq174, zqn, zq43, zq277, zqn, zq43, zq278, zqn],
  [zq279, zqn, zq0, zq163, zqn, zqn, zq280, zqn, zqn, zq0, zq147, zqn, zqn, zq47, zqn, zq281],
  [zqn, zq134, zq185, zq282, zqn, zq0, zq147, zqn, zqn, zq43, zq281, zqn, zq134, zq185, zq283, zqn],
  [zq284, zqn, zq0, zq164, zqn, zqn, zq186, zq74, zq186, zq191, zq203, zq285, zqn, zqn, zq82, zq263],
  [zqn, zqn, zq286, zq287, zqn, zq73, zq288, zqn, zqn, zq289, zqn, zq290, zqn, zqn, zq291, zq263],
  [zqn, zqn, zq292, zq293, zq71, zq288, zqn, zqn, zq289, zqn, zq267, zqn, zqn, zq294, zq263, zqn],
  [zqn, zq295, zq296, zq104, zqn, zq297, zqn, zqn, zq298, zqn, zq145, zq203, zq299, zqn, zqn, zq300],
  [zq263, zqn, zqn, zq301, zq302, zqn, zq175, zqn, zq297, zqn, zqn, zq298, zqn, zq145, zq203, zq285],
  [zqn, zqn, zq303, zq263, zqn, zqn, zq304, zq305, zqn, zq306, zqn, zq307, zqn, zqn, zq284, zqn],
  [zq145, zq203, zq308, zqn, zqn, zq0, zq147, zqn, zqn, zq309, zqn, zq281, zqn, zq134, zq185, zq145],
  [zq203, zq299, zqn, zqn, zq310, zq263, zqn, zqn, zq311, zq312, zqn, zq313, zqn, zqn, zq314, zqn],
  [zqn, zq315, zq157, zqn, zqn, zq71, zq290, zqn, zqn, zq52, zq263, zqn, zqn, zq316, zq317, zqn],
  [zq132, zqn, zqn, zq175, zqn, zq318, zqn, zqn, zq47, zqn, zq263, zqn, zqn, zq319, zq320, zq306],
  [zqn, zq318, zqn, zqn, zq56, zqn, zq263, zqn, zqn, zq143, zq321, zq127]]
noncomputable def pq35 : List (List yEn) := [
  [zq0, zq215, zqn, zqn, zq234, zqn, zq322, zqn, zqn, zq82, zq127, zq323, zq218, zqn, zqn, zq324],
  [zqn, zqn, zq102, zqn, zq74, zq234, zqn, zq0, zq215, zqn, zqn, zq212, zq325, zqn, zqn, zq174],
  [zqn, zq175, zqn, zq0, zq214, zqn, zqn, zq0, zq215, zqn, zqn, zq326, zqn, zqn, zq0, zq215],
  [zqn, zqn, zq212, zq325, zqn, zqn, zq174, zqn, zq175, zqn, zq104, zqn, zq0, zq215, zqn, zqn],
  [zq104, zqn, zq142, zq212, zq325, zqn, zqn, zq174, zqn, zq0, zq227, zqn, zqn, zq71, zq0, zq218],
  [zqn, zqn, zq228, zqn, zqn, zq175, zqn, zq327, zqn, zqn, zq174, zqn, zq0, zq73, zq175, zqn],
  [zq328, zqn, zqn, zq127]]
noncomputable def pq36 : List (List yEn) := [
  [zq82, zq0, zq44, zqn, zqn, zq52, zq176, zq329, zqn, zqn, zq127]]
noncomputable def pq37 : List (List yEn) := [
  [zq74, zq237, zqn, zq168, zq67, zq0, zq73, zq238, zqn, zqn, zq69, zq0, zq71, zq74, zq237, zqn],
  [zq142, zq82, zq134, zq266, zqn, zqn, zq102, zqn, zq104, zqn, zq0, zq60, zqn, zqn, zq71, zq176],
  [zq330, zqn, zqn, zq0, zq273, zqn, zqn, zq71, zq271, zqn, zq165, zq104, zqn, zq134, zq176, zq331],
  [zqn, zqn, zq332, zqn, zq333, zqn, zq73, zq237, zqn, zq165, zq175, zqn, zq134, zq127]]
noncomputable def pq38 : List (List yEn) := [
  [zq0, zq44, zqn, zqn, zq138, zq176, zq127]]
noncomputable def pq39 : List (List yEn) := [
  [zq71, zq102, zqn, zq178, zq174, zqn, zq334, zqn, zq110, zq335, zqn, zqn, zq74, zq175, zqn, zq336],
  [zq82, zq337, zq82, zq262, zqn, zqn, zq82, zq263, zqn, zqn, zq338, zq339, zqn, zq0, zq175, zqn],
  [zq340, zqn, zqn, zq341, zqn, zqn, zq306, zqn, zq342, zqn, zqn, zq82, zq127, zq343, zq175, zqn],
  [zq340, zqn, zqn, zq344, zqn, zqn, zq306, zqn, zq345, zqn, zqn, zq104, zqn, zq82, zq73, zq82],
  [zq134, zq0, zq346, zqn, zqn, zq175, zqn, zq176, zq212, zq347, zqn, zqn, zq348, zqn, zqn, zq102],
  [zqn, zq349, zqn, zqn, zq350, zqn, zqn, zq276, zqn, zq127]]
noncomputable def pq40 : List (List yEn) := [
  [zq0, zq351, zqn, zqn, zq74, zq336, zq82, zq337, zq82, zq262, zqn, zqn, zq82, zq263, zqn, zqn],
  [zq143, zq265]]
noncomputable def pq41 : List (List yEn) := [
  [zq0, zq217, zqn, zqn, zq352, zqn, zqn, zq353, zq0, zq218, zqn, zqn, zq74, zq354, zqn, zqn],
  [zq174, zqn, zq0, zq355, zqn, zqn, zq356, zqn, zqn, zq0, zq357, zqn, zqn, zq358, zqn, zqn],
  [zq359, zq145, zq203, zq360, zqn, zqn, zq175, zqn, zq361, zqn, zqn, zq0, zq362, zqn, zqn, zq126],
  [zqn, zqn, zq264, zq127, zq363, zq364, zqn, zqn, zq175, zqn, zq186, zq187, zq198, zq365, zq175, zqn],
  [zq186, zq366, zq367, zqn, zq0, zq368, zqn, zqn, zq74, zq369, zqn, zqn, zq282, zqn, zq284, zqn],
  [zq0, zq218, zqn, zqn, zq370, zqn, zqn, zq186, zq366, zq371, zqn, zq187, zq0, zq218, zqn, zqn],
  [zq370, zqn, zqn, zq186, zq191, zq284, zqn, zq365, zq283, zqn, zq198, zq73, zq186, zq298, zqn, zq359],
  [zq187, zq198, zq365, zq359, zq366, zq372, zqn, zqn, zq373, zqn, zqn, zq374, zq127]]
noncomputable def pq42 : List (List yEn) := [
  [zq0, zq147, zqn, zqn, zq138, zq185, zq194]]
noncomputable def pq43 : List (List yEn) := [
  [zq0, zq44, zqn, zqn, zq271, zqn, zq74, zq134, zq176, zq127]]
noncomputable def pq44 : List (List yEn) := [
  [zq0, zq218, zqn, zqn, zq375, zqn, zqn, zq169, zq0, zq357, zqn, zqn, zq290, zqn, zqn, zq145],
  [zq376, zqn, zqn, zq244, zq217, zqn, zqn, zq352, zqn, zqn, zq377, zq0, zq357, zqn, zqn, zq290],
  [zqn, zqn, zq145, zq376, zqn, zqn, zq128, zq217, zqn, zqn, zq378, zqn, zqn, zq379, zqn, zq190],
  [zq380, zqn, zqn, zq74, zq186, zq203, zq381, zqn, zqn, zq192, zqn, zq380, zqn, zqn, zq74, zq186],
  [zq203, zq285, zqn, zqn, zq82, zq263, zqn, zqn, zq143, zq265]]
noncomputable def pq45 : List (List yEn) := [
  [zq0, zq44, zqn, zqn, zq43, zq176, zq127]]
noncomputable def pq46 : List (List yEn) := [
  [zq0, zq147, zqn, zqn, zq246, zqn, zq185, zq194]]
noncomputable def pq47 : List (List yEn) := [
  [zq0, zq382, zqn, zqn, zq43, zq74, zq134, zq185, zq194]]
noncomputable def pq48 : List (List yEn) := [
  [zq82, zq0, zq44, zqn, zqn, zq82, zq176, zq329, zqn, zqn, zq127]]
noncomputable def pq49 : List (List yEn) := [
  [zq0, zq362, zqn, zqn, zq383, zqn, zqn, zq0, zq3, zq384, zqn, zqn, zq74, zq134, zq385, zqn],
  [zqn, zq11, zq128, zq357, zqn, zqn, zq386, zqn, zqn, zq11, zq128, zq217, zqn, zqn, zq352, zqn],
  [zqn, zq74, zq186, zq191, zq353, zq0, zq217, zqn, zqn, zq387, zqn, zqn, zq74, zq186, zq191, zq200],
  [zqn, zq0, zq368, zqn, zqn, zq73, zq369, zqn, zqn, zq0, zq218, zqn, zqn, zq370, zqn, zqn],
  [zq186, zq366, zq388, zqn, zq0, zq368, zqn, zqn, zq73, zq359, zq0, zq217, zqn, zqn, zq378, zqn],
  [zqn, zq74, zq186, zq191, zq201, zqn, zq389, zqn, zqn, zq0, zq368, zqn, zqn, zq73, zq369, zqn],
  [zqn, zq0, zq218, zqn, zqn, zq370, zqn, zqn, zq186, zq366, zq390, zqn, zq365, zq391, zqn, zq0],
  [zq3, zq364, zqn, zqn, zq392, zqn, zq0, zq218, zqn, zqn, zq73, zq354, zqn, zqn, zq186, zq191],
  [zq365, zq393, zqn, zqn, zq0, zq231, zqn, zqn, zq359, zq201, zqn, zq394, zqn, zqn, zq11]]
noncomputable def pq50 : List (List yEn) := [
  [zq190, zq145, zq203, zq395, zqn, zqn, zq0, zq382, zqn, zqn, zq43, zq74, zq134, zq184, zq185, zq190],
  [zq187, zq106, zq396, zqn, zqn, zq397, zq382, zqn, zqn, zq52, zq74, zq134, zq184, zq185, zq190, zq365],
  [zq106, zq398, zq190, zq192, zqn, zq399, zqn, zqn, zq134, zq82, zq212, zq400, zqn, zq0, zq382, zqn],
  [zqn, zq401, zqn, zq52, zq165, zq74, zq134, zq184, zq185, zq192, zqn, zq402, zqn, zqn, zq187, zq106],
  [zq0, zq382, zqn, zqn, zq403, zqn, zq74, zq134, zq184, zq185, zq371, zqn, zq187, zq106, zq11]]
noncomputable def pq51 : List (List yEn) := [
  [zq202, zq145, zq203, zq404, zqn, zqn, zq190, zq145, zq203, zq405, zqn, zqn, zq82, zq263, zqn, zqn],
  [zq406, zq265, zq207, zq145, zq203, zq405, zqn, zqn, zq178, zq263, zqn, zqn, zq407, zq265]]
noncomputable def pq52 : List (List yEn) := [
  [zq105, zq145, zq203, zq408, zqn, zqn, zq0, zq3, zq409, zqn, zqn, zq105, zq187, zq410, zqn, zqn],
  [zq411, zqn, zqn, zq269, zq3, zq412, zqn, zqn, zq105, zq365, zq413, zqn, zqn, zq414, zq3, zq415],
  [zqn, zqn, zq359, zq187, zq416, zqn, zqn, zq11]]
noncomputable def pq53 : List (List yEn) := [
  [zq0, zq355, zqn, zqn, zq417, zqn, zqn, zq0, zq364, zqn, zqn, zq145, zq203, zq418, zqn, zqn],
  [zq82, zq263, zqn, zqn, zq419, zq420, zq74, zq0, zq357, zqn, zqn, zq421, zqn, zqn, zq0, zq74],
  [zq422, zqn, zqn, zq0, zq0, zq357, zqn, zqn, zq318, zqn, zqn, zq423, zqn, zq331, zqn, zqn],
  [zq424, zqn, zq143, zq425, zqn, zqn, zq77]]
noncomputable def pq54 : List (List yEn) := [
  [zq0, zq229, zqn, zqn, zq0, zq215, zqn, zqn, zq74, zq73, zq426, zqn, zqn, zq11]]
noncomputable def pq55 : List (List yEn) := [
  [zq0, zq427, zqn, zqn, zq428, zqn, zq142, zq138, zq165, zq102, zqn, zq0, zq429, zqn, zqn, zq104],
  [zqn, zq74, zq64, zq0, zq429, zqn, zqn, zq104, zqn, zq82, zq134, zq73, zq64, zq0, zq429, zqn],
  [zqn, zq104, zqn, zq178, zq134, zq71, zq64, zq0, zq3, zq427, zqn, zqn, zq82, zq134, zq430, zqn],
  [zqn, zq11]]
noncomputable def pq56 : List (List yEn) := [
  [zq43, zq277, zqn, zq431, zqn, zq110, zq432, zqn, zqn, zq0, zq306, zqn, zq340, zqn, zqn, zq278],
  [zqn, zq306, zqn, zq178, zq433, zqn, zqn, zq73, zq306, zqn, zq336, zq82, zq337, zq82, zq262, zqn],
  [zqn, zq82, zq263, zqn, zqn, zq434, zq435, zqn, zq0, zq346, zqn, zqn, zq306, zqn, zq401, zqn],
  [zq436, zqn, zqn, zq0, zq346, zqn, zqn, zq306, zqn, zq176, zq74, zq134, zq263, zqn, zqn, zq437],
  [zq438, zq281, zqn, zq157, zqn, zqn, zq401, zqn, zq439, zqn, zqn, zq440, zqn, zqn, zq441, zqn],
  [zq442, zqn, zqn, zq0, zq346, zqn, zqn, zq306, zqn, zq176, zq71, zq443, zqn, zqn, zq444, zq306],
  [zqn, zq281, zqn, zq267, zqn, zqn, zq82, zq263, zqn, zqn, zq434, zq445, zqn, zq175, zqn, zq446],
  [zqn, zqn, zq444, zq306, zqn, zq340, zqn, zqn, zq447, zqn, zqn, zq0, zq448, zqn, zqn, zq306],
  [zqn, zq184, zq176, zq281, zqn, zq290, zqn, zqn, zq74, zq263, zqn, zqn, zq449, zq450, zq64, zq451],
  [zqn, zqn, zq452, zqn, zqn, zq77]]
noncomputable def pq57 : List (List yEn) := [
  [zq73, zq453, zqn, zqn, zq0, zq3, zq351, zqn, zqn, zq82, zq74, zq454, zq455, zq456, zqn, zqn],
  [zq0, zq457, zqn, zqn, zq74, zq184, zq176, zq82, zq134, zq64, zq458, zq104, zqn, zq74, zq43, zq459],
  [zqn, zqn, zq460, zqn, zqn, zq461, zq3, zq351, zqn, zqn, zq82, zq74, zq454, zq63, zq462, zq337],
  [zq456, zqn, zqn, zq458, zq104, zqn, zq74, zq463, zqn, zq134, zq43, zq459, zqn, zqn, zq77]]
noncomputable def pq58 : List (List yEn) := [
  [zq0, zq3, zq464, zqn, zqn, zq74, zq134, zq465, zqn, zqn, zq0, zq3, zq466, zqn, zqn, zq73],
  [zq455, zq467, zqn, zqn, zq11]]
noncomputable def pq59 : List (List yEn) := [
  [zq0, zq218, zqn, zqn, zq324, zqn, zqn, zq67, zq0, zq215, zqn, zqn, zq73, zq142, zq468, zqn],
  [zqn, zq0, zq231, zqn, zqn, zq0, zq215, zqn, zqn, zq73, zq43, zq469, zqn, zqn, zq0, zq470],
  [zqn, zqn, zq0, zq231, zqn, zqn, zq0, zq218, zqn, zqn, zq471, zqn, zqn, zq73, zq74, zq472],
  [zqn, zqn, zq77]]
noncomputable def pq60 : List (List yEn) := [
  [zq0, zq464, zqn, zqn, zq0, zq473, zqn, zqn, zq134, zq474, zqn, zqn, zq0, zq73, zq475, zqn],
  [zqn, zq71, zq455, zq102, zqn, zq0, zq74, zq74, zq73, zq142, zq476, zqn, zqn, zq104, zqn, zq477],
  [zqn, zqn, zq455, zq331, zqn, zqn, zq478, zqn, zq479, zqn, zqn, zq244, zq145, zq410, zqn, zqn],
  [zq0, zq145, zq413, zqn, zqn, zq0, zq145, zq416, zqn, zqn, zq0, zq43, zq465, zqn, zqn, zq0],
  [zq43, zq480, zqn, zqn, zq0, zq43, zq467, zqn, zqn, zq0, zq74, zq481, zqn, zqn, zq11]]
noncomputable def pq61 : List (List yEn) := [
  [zq0, zq466, zqn, zqn, zq67, zq0, zq473, zqn, zqn, zq482, zqn, zqn, zq73, zq483, zqn, zq455],
  [zq67, zq128, zq484, zqn, zqn, zq74, zq142, zq157, zqn, zqn, zq73, zq477, zqn, zqn, zq455, zq263],
  [zqn, zqn, zq264, zq265]]
noncomputable def pq62 : List (List yEn) := [
  [zq0, zq485, zqn, zqn, zq486, zqn, zq142, zq271, zqn, zq165, zq69, zq43, zq102, zqn, zq172, zqn],
  [zq52, zq487, zqn, zqn, zq0, zq488, zqn, zqn, zq104, zqn, zq184, zq185, zq0, zq489, zqn, zqn],
  [zq71, zq82, zq134, zq104, zqn, zq134, zq185, zq187, zq106, zq179, zqn, zqn, zq490, zqn, zqn, zq323],
  [zq489, zqn, zqn, zq71, zq43, zq134, zq74, zq186, zq106, zq0, zq489, zqn, zqn, zq71, zq82, zq134],
  [zq0, zq409, zqn, zqn, zq106, zq0, zq489, zqn, zqn, zq71, zq178, zq134, zq0, zq412, zqn, zqn],
  [zq106, zq0, zq489, zqn, zqn, zq71, zq138, zq134, zq0, zq415, zqn, zqn, zq106, zq0, zq489, zqn],
  [zqn, zq71, zq52, zq134, zq0, zq464, zqn, zqn, zq186, zq106, zq0, zq489, zqn, zqn, zq71, zq110],
  [zq134, zq73, zq186, zq106, zq0, zq3, zq485, zqn, zqn, zq82, zq134, zq491, zqn, zqn, zq11]]
noncomputable def pq63 : List (List yEn) := [
  [zq0, zq44, zqn, zqn, zq110, zq176, zq127]]
noncomputable def pq64 : List (List yEn) := [
  [zq492, zq73, zq71, zq493, zqn, zqn, zq494, zqn, zqn, zq11, zq495, zq492, zq43, zq73, zq496, zqn],
  [zqn, zq95, zqn, zqn, zq0, zq492, zq43, zq43, zq497, zqn, zqn, zq374, zq96, zqn, zqn, zq0],
  [zq498, zqn, zqn, zq0, zq98, zqn, zqn, zq104, zqn, zq185, zq203, zq499, zqn, zqn, zq0, zq98],
  [zqn, zqn, zq104, zqn, zq0, zq498, zqn, zqn, zq106, zq0, zq100, zqn, zqn, zq104, zqn, zq0],
  [zq500, zqn, zqn, zq64, zq77]]
noncomputable def pq65 : List (List yEn) := [
  [zq0, zq501, zqn, zqn, zq74, zq166, zqn, zqn, zq43, zq127, zq502, zq69, zq208, zq74, zq503, zqn],
  [zqn, zq0, zq71, zq110, zq497, zqn, zqn, zq504, zqn, zqn, zq505, zq145, zq203, zq126, zqn, zqn],
  [zq43, zq127, zq208, zq506, zqn, zqn, zq0, zq71, zq82, zq212, zq43, zq497, zqn, zqn, zq0, zq71],
  [zq43, zq497, zqn, zqn, zq365, zq73, zq186, zq203, zq126, zqn, zqn, zq43, zq127, zq507, zqn, zqn],
  [zq508, zqn, zqn, zq509, zq127]]
noncomputable def pq66 : List (List yEn) := [
  [zq0, zq485, zqn, zqn, zq486, zqn, zq510, zqn, zqn, zq127]]
noncomputable def pq67 : List (List yEn) := [
  [zq0, zq489, zqn, zqn, zq0, zq485, zqn, zqn, zq82, zq212, zq74, zq212, zq486, zqn, zq142, zq271],
  [zqn, zq165, zq73, zq134, zq185, zq194]]
noncomputable def pq68 : List (List yEn) := [
  [zq145, zq353, zq74, zq174, zqn, zq511, zqn, zq74, zq73, zq134, zq512, zqn, zqn, zq359, zq0, zq175],
  [zqn, zq82, zq513, zqn, zqn, zq187, zq353, zq514, zqn, zqn, zq515, zqn, zqn, zq516, zq194]]
noncomputable def pq69 : List (List yEn) := [
  [zq74, zq82, zq153, zqn, zqn, zq74, zq517, zqn, zqn, zq518, zqn, zqn, zq519, zqn, zqn, zq194],
  [zq244, zq123, zqn, zqn, zq74, zq158, zqn, zqn, zq0, zq123, zqn, zqn, zq43, zq520, zqn, zqn],
  [zq194]]
noncomputable def pq70 : List (List yEn) := [
  [zq0, zq368, zqn, zqn, zq74, zq63, zq521, zqn, zqn, zq0, zq218, zqn, zqn, zq370, zqn, zqn],
  [zq186, zq366, zq194]]
noncomputable def pq71 : List (List yEn) := [
  [zq0, zq382, zqn, zqn, zq74, zq52, zq165, zq73, zq522, zqn, zqn, zq194]]
noncomputable def pq72 : List (List yEn) := [
  [zq73, zq63, zq523, zqn, zqn, zq0, zq74, zq73, zq134, zq185, zq194, zq524, zq353, zq43, zq174, zqn],
  [zq525, zqn, zq52, zq330, zqn, zqn, zq359, zq0, zq74, zq175, zqn, zq134, zq185, zq187, zq353, zq514],
  [zqn, zqn, zq526, zqn, zqn, zq516, zq194]]
noncomputable def pq73 : List (List yEn) := [
  [zq0, zq123, zqn, zqn, zq124, zqn, zqn, zq125, zqn, zqn, zq126, zqn, zqn, zq43, zq127, zq128],
  [zq123, zqn, zqn, zq74, zq73, zq527, zqn, zqn, zq127]]
noncomputable def pq74 : List (List yEn) := [
  [zq0, zq218, zqn, zqn, zq74, zq73, zq528, zqn, zqn, zq436, zqn, zqn, zq74, zq82, zq529, zqn],
  [zqn, zq0, zq223, zqn, zqn, zq530, zqn, zqn, zq143, zq127, zq531, zq52, zq532, zqn, zqn, zq0],
  [zq231, zqn, zqn, zq0, zq215, zqn, zqn, zq0, zq218, zqn, zqn, zq324, zqn, zqn, zq486, zqn],
  [zq469, zqn, zqn, zq128, zq218, zqn, zqn, zq74, zq73, zq533, zqn, zqn, zq82, zq127]]
noncomputable def pq75 : List (List yEn) := [
  [zq74, zq534, zqn, zqn, zq69, zq71, zq63, zq535, zqn, zqn, zq73, zq536, zqn, zqn, zq71, zq176],
  [zq537, zqn, zqn, zq73, zq538, zqn, zqn, zq71, zq176, zq154, zqn, zqn, zq143, zq127, zq539, zq52],
  [zq540, zqn, zqn, zq73, zq541, zqn, zq542, zqn, zqn, zq73, zq116, zqn, zqn, zq543, zqn, zqn],
  [zq73, zq517, zqn, zqn, zq544, zqn, zqn, zq73, zq545, zqn, zqn, zq242, zqn, zqn, zq73, zq546],
  [zqn, zqn, zq262, zqn, zqn, zq509, zq263, zqn, zqn, zq143, zq265]]
noncomputable def pq76 : List (List yEn) := [
  [zq547, zq548, zqn, zqn, zq547, zq110, zq549, zqn, zqn, zq547, zq127, zq550, zq463, zqn, zq551, zqn],
  [zqn, zq547, zq552, zqn, zq553, zqn, zqn, zq547, zq463, zqn, zq212, zq271, zqn, zq134, zq127, zq550],
  [zq554, zqn, zq551, zqn, zqn, zq547, zq423, zqn, zq555, zqn, zqn, zq547, zq554, zqn, zq212, zq463],
  [zqn, zq134, zq127, zq155, zq127]]
noncomputable def pq77 : List (List yEn) := [
  [zq74, zq534, zqn, zqn, zq69, zq71, zq63, zq242, zqn, zqn, zq0, zq44, zqn, zqn, zq71, zq73],
  [zq64, zq77]]
noncomputable def pq78 : List (List yEn) := [
  [zq0, zq123, zqn, zqn, zq124, zqn, zqn, zq125, zqn, zqn, zq126, zqn, zqn, zq63, zq127, zq556],
  [zq557, zqn, zqn, zq558, zqn, zqn, zq71, zq559, zqn, zqn, zq132, zqn, zqn, zq73, zq560, zqn],
  [zqn, zq73, zq561, zqn, zq322, zqn, zqn, zq155, zq127, zq323, zq123, zqn, zqn, zq562, zqn, zqn],
  [zq74, zq73, zq71, zq563, zqn, zqn, zq127]]
noncomputable def pq79 : List (List yEn) := [
  [zq547, zq564, zqn, zqn, zq547, zq47, zqn, zq565, zqn, zqn, zq82, zq263, zqn, zqn, zq143, zq265]]
noncomputable def pq80 : List (List yEn) := [
  [zq547, zq566, zqn, zqn, zq547, zq52, zq565, zqn, zqn, zq82, zq263, zqn, zqn, zq143, zq265]]
noncomputable def pq81 : List (List yEn) := [
  [zq74, zq271, zqn, zq165, zq102, zqn, zq104, zqn, zq0, zq74, zq73, zq266, zqn, zqn, zq134, zq174],
  [zqn, zq0, zq74, zq73, zq567, zqn, zqn, zq568, zqn, zqn, zq0, zq270, zqn, zqn, zq175, zqn],
  [zq71, zq64, zq0, zq60, zqn, zqn, zq74, zq176, zq127, zq569, zq60, zqn, zqn, zq74, zq176, zq271],
  [zqn, zq322, zqn, zqn, zq63, zq127, zq570, zqn, zq0, zq60, zqn, zqn, zq74, zq176, zq134, zq277],
  [zqn, zq571, zqn, zq175, zqn, zq572, zqn, zqn, zq0, zq273, zqn, zqn, zq306, zqn, zq0, zq273],
  [zqn, zqn, zq306, zqn, zq82, zq212, zq176, zq64, zq0, zq270, zqn, zqn, zq306, zqn, zq0, zq270],
  [zqn, zqn, zq306, zqn, zq82, zq212, zq176, zq64, zq573, zqn, zqn, zq574, zqn, zqn, zq363, zq273],
  [zqn, zqn, zq175, zqn, zq73, zq64, zq0, zq270, zqn, zqn, zq175, zqn, zq71, zq64, zq0, zq60],
  [zqn, zqn, zq74, zq184, zq176, zq82, zq134, zq64, zq0, zq60, zqn, zqn, zq74, zq176, zq127]]
noncomputable def pq82 : List (List yEn) := [
  [zq74, zq271, zqn, zq165, zq0, zq74, zq73, zq266, zqn, zqn, zq134, zq69, zq74, zq271, zqn, zq165],
  [zq0, zq60, zqn, zqn, zq74, zq176, zq134, zq102, zqn, zq71, zq104, zqn, zq575, zqn, zqn, zq0],
  [zq273, zqn, zqn, zq71, zq176, zq73, zq262, zqn, zqn, zq82, zq263, zqn, zqn, zq143, zq265]]
noncomputable def pq83 : List (List yEn) := [
  [zq0, zq123, zqn, zqn, zq124, zqn, zqn, zq125, zqn, zqn, zq297, zqn, zqn, zq74, zq557, zqn],
  [zqn, zq342, zqn, zqn, zq155, zq127, zq244, zq123, zqn, zqn, zq562, zqn, zqn, zq74, zq576, zqn],
  [zqn, zq127]]
noncomputable def pq84 : List (List yEn) := [
  [zq0, zq60, zqn, zqn, zq74, zq176, zq67, zq0, zq60, zqn, zqn, zq74, zq43, zq64, zq73, zq127]]
noncomputable def pq85 : List (List yEn) := [
  [zq0, zq577, zqn, zqn, zq578, zqn, zqn, zq342, zqn, zqn, zq63, zq127, zq569, zq577, zqn, zqn],
  [zq74, zq579, zqn, zqn, zq0, zq577, zqn, zqn, zq73, zq579, zqn, zqn, zq0, zq577, zqn, zqn],
  [zq71, zq579, zqn, zqn, zq0, zq577, zqn, zqn, zq104, zqn, zq579, zqn, zqn, zq0, zq577, zqn],
  [zqn, zq175, zqn, zq579, zqn, zqn, zq0, zq577, zqn, zqn, zq580, zqn, zqn, zq127]]
noncomputable def pq86 : List (List yEn) := [
  [zq0, zq581, zqn, zqn, zq554, zqn, zq134, zq116, zqn, zqn, zq582, zqn, zqn, zq82, zq263, zqn],
  [zqn, zq143, zq265]]
noncomputable def pq87 : List (List yEn) := [
  [zq403, zqn, zq67, zq170, zq583, zqn, zqn, zq0, zq581, zqn, zqn, zq116, zqn, zqn, zq584, zqn],
  [zqn, zq0, zq585, zqn, zqn, zq0, zq581, zqn, zqn, zq74, zq73, zq586, zq587, zqn, zqn, zq337],
  [zq64, zq0, zq3, zq581, zqn, zqn, zq82, zq134, zq588, zqn, zqn, zq589, zqn, zqn, zq590, zqn],
  [zqn, zq77]]
noncomputable def pq88 : List (List yEn) := [
  [zq0, zq577, zqn, zqn, zq74, zq591, zqn, zqn, zq127]]
noncomputable def pq89 : List (List yEn) := [
  [zq74, zq592, zqn, zqn, zq74, zq0, zq581, zqn, zqn, zq154, zqn, zqn, zq143, zq127, zq244, zq74],
  [zq588, zqn, zqn, zq82, zq127]]
noncomputable def pq90 : List (List yEn) := [
  [zq0, zq123, zqn, zqn, zq124, zqn, zqn, zq125, zqn, zqn, zq476, zqn, zqn, zq0, zq577, zqn],
  [zqn, zq593, zqn, zqn, zq63, zq127, zq136, zq577, zqn, zqn, zq594, zqn, zqn, zq169, zq74, zq63],
  [zq595, zqn, zqn, zq0, zq123, zqn, zqn, zq562, zqn, zqn, zq0, zq577, zqn, zqn, zq596, zqn],
  [zqn, zq597, zqn, zqn, zq0, zq577, zqn, zqn, zq598, zqn, zqn, zq558, zqn, zqn, zq0, zq123],
  [zqn, zqn, zq599, zqn, zqn, zq0, zq577, zqn, zqn, zq600, zqn, zqn, zq601, zqn, zqn, zq602],
  [zq127]]
noncomputable def pq91 : List (List yEn) := [
  [zq0, zq43, zq588, zqn, zqn, zq0, zq43, zq603, zqn, zqn, zq0, zq63, zq122, zqn, zqn, zq11]]
noncomputable def pq92 : List (List yEn) := [
  [zq0, zq604, zqn, zqn, zq605, zqn, zqn, zq0, zq43, zq603, zqn, zqn, zq0, zq63, zq122, zqn],
  [zqn, zq0, zq43, zq606, zqn, zqn, zq0, zq43, zq607, zqn, zqn, zq0, zq43, zq608, zqn, zqn],
  [zq0, zq43, zq609, zqn, zqn, zq43, zq169, zq0, zq610, zqn, zqn, zq43, zq67, zq170, zq116, zqn],
  [zqn, zq611, zqn, zqn, zq0, zq612, zqn, zqn, zq0, zq581, zqn, zqn, zq613, zqn, zqn, zq0],
  [zq614, zqn, zqn, zq615, zqn, zqn, zq0, zq616, zqn, zqn, zq617, zqn, zqn, zq0, zq618, zqn],
  [zq619, zqn, zqn, zq341, zqn, zqn, zq620, zqn, zqn, zq0, zq610, zqn, zqn, zq181, zqn, zqn],
  [zq621, zqn, zqn, zq244, zq43, zq588, zqn, zqn, zq0, zq614, zqn, zqn, zq267, zqn, zqn, zq74],
  [zq263, zqn, zqn, zq155, zq265]]
noncomputable def pq93 : List (List yEn) := [
  [zq136, zq612, zqn, zqn, zq0, zq581, zqn, zqn, zq487, zqn, zqn, zq0, zq585, zqn, zqn, zq0],
  [zq612, zqn, zqn, zq176, zq483, zqn, zq622, zqn, zqn, zq0, zq3, zq612, zqn, zqn, zq82, zq134],
  [zq607, zqn, zqn, zq623, zqn, zqn, zq77]]
noncomputable def pq94 : List (List yEn) := [
  [zq0, zq624, zqn, zqn, zq169, zq0, zq625, zqn, zq74, zq626, zqn, zqn, zq318, zqn, zqn, zq0],
  [zq627, zqn, zqn, zq127, zq244, zq628, zqn, zq74, zq626, zqn, zqn, zq318, zqn, zqn, zq0, zq629],
  [zqn, zqn, zq127, zq244, zq630, zqn, zq74, zq626, zqn, zqn, zq318, zqn, zqn, zq0, zq631, zqn],
  [zqn, zq127, zq244, zq632, zqn, zq74, zq626, zqn, zqn, zq318, zqn, zqn, zq0, zq633, zqn, zqn],
  [zq127, zq136, zq82, zq0, zq612, zqn, zqn, zq634, zqn, zqn, zq127]]
noncomputable def pq95 : List (List yEn) := [
  [zq0, zq612, zqn, zqn, zq169, zq635, zq0, zq581, zqn, zqn, zq636, zqn, zqn, zq0, zq585, zqn],
  [zqn, zq74, zq176, zq637, zqn, zq638, zqn, zqn, zq0, zq585, zqn, zqn, zq74, zq176, zq639, zqn],
  [zq141, zqn, zqn, zq620, zqn, zqn, zq640, zqn, zqn, zq635, zq0, zq612, zqn, zqn, zq212, zq127]]
noncomputable def pq96 : List (List yEn) := [
  [zq73, zq492, zq641, zqn, zqn, zq622, zqn, zqn, zq0, zq612, zqn, zqn, zq73, zq134, zq0, zq581],
  [zqn, zqn, zq154, zqn, zqn, zq143, zq127, zq502, zq69, zq208, zq73, zq487, zqn, zqn, zq0, zq585],
  [zqn, zqn, zq0, zq612, zqn, zqn, zq71, zq134, zq176, zq492, zq71, zq642, zqn, zqn, zq643, zqn],
  [zqn, zq43, zq127, zq507, zqn, zqn, zq206, zqn, zqn, zq509, zq127]]
noncomputable def pq97 : List (List yEn) := [
  [zq0, zq625, zqn, zq644, zqn, zqn, zq0, zq246, zqn, zq0, zq645, zqn, zqn, zq646, zqn, zqn],
  [zq169, zq74, zq63, zq249, zqn, zqn, zq43, zq127, zq244, zq3, zq645, zqn, zqn, zq82, zq74, zq454],
  [zq455, zq608, zqn, zqn, zq43, zq67, zq170, zq271, zqn, zq647, zqn, zqn, zq0, zq648, zqn, zqn],
  [zq617, zqn, zqn, zq0, zq74, zq649, zqn, zqn, zq342, zqn, zqn, zq43, zq127, zq181, zqn, zqn],
  [zq650, zqn, zqn, zq509, zq127]]
noncomputable def pq98 : List (List yEn) := [
  [zq0, zq3, zq612, zqn, zqn, zq492, zq641, zqn, zqn, zq134, zq607, zqn, zqn, zq11]]
noncomputable def pq99 : List (List yEn) := [
  [zq0, zq74, zq651, zqn, zqn, zq69, zq71, zq63, zq543, zqn, zqn, zq73, zq71, zq336, zq82, zq337],
  [zq82, zq652, zqn, zqn, zq0, zq138, zq0, zq653, zqn, zqn, zq634, zqn, zqn, zq654, zq63, zq127],
  [zq655, zq127]]
noncomputable def pq100 : List (List yEn) := [
  [zq0, zq610, zqn, zqn, zq0, zq0, zq612, zqn, zqn, zq656, zqn, zqn, zq43, zq67, zq128, zq612],
  [zqn, zqn, zq0, zq581, zqn, zqn, zq657, zqn, zqn, zq0, zq585, zqn, zqn, zq0, zq612, zqn],
  [zqn, zq176, zq658, zqn, zqn, zq659, zqn, zqn, zq73, zq463, zqn, zq165, zq0, zq585, zqn, zqn],
  [zq0, zq612, zqn, zqn, zq176, zq134, zq49, zqn, zq212, zq660, zqn, zq661, zqn, zqn, zq67, zq0],
  [zq3, zq612, zqn, zqn, zq82, zq134, zq607, zqn, zqn, zq662, zqn, zqn, zq128, zq612, zqn, zqn],
  [zq0, zq653, zqn, zqn, zq652, zqn, zqn, zq0, zq82, zq0, zq653, zqn, zqn, zq634, zqn, zqn],
  [zq654, zq63, zq127, zq170, zq74, zq663, zqn, zqn, zq0, zq178, zq0, zq653, zqn, zqn, zq634, zqn],
  [zqn, zq654, zq63, zq127, zq264, zq127]]
noncomputable def pq101 : List (List yEn) := [
  [zq547, zq49, zqn, zq664, zqn, zqn, zq547, zq665, zqn, zq582, zqn, zqn, zq82, zq263, zqn, zqn],
  [zq143, zq265]]
noncomputable def pq102 : List (List yEn) := [
  [zq0, zq74, zq603, zqn, zqn, zq0, zq73, zq122, zqn, zqn, zq43, zq127]]
noncomputable def pq103 : List (List yEn) := [
  [zq0, zq610, zqn, zqn, zq0, zq612, zqn, zqn, zq0, zq581, zqn, zqn, zq272, zqn, zqn, zq0],
  [zq585, zqn, zqn, zq0, zq612, zqn, zqn, zq176, zq658, zqn, zqn, zq290, zqn, zqn, zq82, zq263],
  [zqn, zqn, zq143, zq265]]
noncomputable def pq104 : List (List yEn) := [
  [zq0, zq666, zqn, zq651, zqn, zqn, zq67, zq73, zq63, zq249, zqn, zqn, zq43, zq127, zq128, zq604],
  [zqn, zqn, zq667, zqn, zqn, zq74, zq176, zq271, zqn, zq664, zqn, zqn, zq0, zq52, zq0, zq653],
  [zqn, zqn, zq634, zqn, zqn, zq127, zq128, zq668, zqn, zq619, zqn, zqn, zq342, zqn, zqn, zq43],
  [zq127, zq128, zq618, zqn, zq651, zqn, zqn, zq69, zq71, zq63, zq249, zqn, zqn, zq43, zq127, zq70],
  [zq546, zqn, zqn, zq165, zq71, zq541, zqn, zq165, zq134, zq102, zqn, zq0, zq604, zqn, zqn, zq74],
  [zq104, zqn, zq669, zqn, zqn, zq132, zqn, zqn, zq0, zq138, zq0, zq653, zqn, zqn, zq634, zqn],
  [zqn, zq127, zq670, zq138, zq651, zqn, zqn, zq174, zqn, zq175, zqn, zq63, zq249, zqn, zqn, zq43],
  [zq127, zq671, zq604, zqn, zqn, zq74, zq104, zqn, zq175, zqn, zq672, zqn, zqn, zq654, zq82, zq127]]
noncomputable def pq105 : List (List yEn) := [
  [zq0, zq610, zqn, zqn, zq0, zq612, zqn, zqn, zq0, zq581, zqn, zqn, zq673, zqn, zqn, zq0],
  [zq585, zqn, zqn, zq0, zq612, zqn, zqn, zq176, zq74, zq674, zqn, zqn, zq136, zq82, zq0, zq612],
  [zqn, zqn, zq634, zqn, zqn, zq127, zq136, zq3, zq612, zqn, zqn, zq82, zq134, zq607, zqn, zqn],
  [zq82, zq127]]
noncomputable def pq106 : List (List yEn) := [
  [zq0, zq628, zqn, zq644, zqn, zqn, zq0, zq138, zq0, zq675, zqn, zqn, zq646, zqn, zqn, zq169],
  [zq74, zq63, zq249, zqn, zqn, zq43, zq127, zq244, zq3, zq675, zqn, zqn, zq82, zq74, zq454, zq455],
  [zq609, zqn, zqn, zq0, zq676, zqn, zqn, zq651, zqn, zqn, zq67, zq73, zq63, zq249, zqn, zqn],
  [zq43, zq127, zq128, zq604, zqn, zqn, zq677, zqn, zqn, zq74, zq73, zq64, zq43, zq69, zq678, zq246],
  [zqn, zq679, zqn, zqn, zq0, zq246, zqn, zq651, zqn, zqn, zq102, zqn, zq104, zqn, zq63, zq249],
  [zqn, zqn, zq43, zq127, zq461, zq604, zqn, zqn, zq680, zqn, zqn, zq74, zq246, zqn, zq165, zq71],
  [zq134, zq104, zqn, zq64, zq107, zqn, zqn, zq681, zqn, zqn, zq509, zq127]]
noncomputable def pq107 : List (List yEn) := [
  [zq0, zq604, zqn, zqn, zq682, zqn, zqn, zq56, zqn, zq664, zqn, zqn, zq0, zq52, zq0, zq612],
  [zqn, zqn, zq634, zqn, zqn, zq127, zq136, zq630, zqn, zq644, zqn, zqn, zq0, zq676, zqn, zqn],
  [zq651, zqn, zqn, zq169, zq74, zq63, zq249, zqn, zqn, zq43, zq127, zq244, zq604, zqn, zqn, zq74],
  [zq683, zqn, zqn, zq132, zqn, zqn, zq0, zq138, zq0, zq653, zqn, zqn, zq634, zqn, zqn, zq127],
  [zq244, zq246, zqn, zq651, zqn, zqn, zq67, zq73, zq63, zq256, zqn, zqn, zq0, zq604, zqn, zqn],
  [zq74, zq73, zq684, zqn, zqn, zq290, zqn, zqn, zq82, zq263, zqn, zqn, zq143, zq265]]
noncomputable def pq108 : List (List yEn) := [
  [zq0, zq74, zq241, zqn, zqn, zq63, zq685, zqn, zqn, zq82, zq263, zqn, zqn, zq143, zq265]]
noncomputable def pq109 : List (List yEn) := [
  [zq0, zq74, zq241, zqn, zqn, zq69, zq71, zq63, zq686, zqn, zqn, zq0, zq247, zqn, zqn, zq56],
  [zqn, zq322, zqn, zqn, zq43, zq127, zq128, zq247, zqn, zqn, zq69, zq0, zq3, zq247, zqn, zqn],
  [zq82, zq134, zq66, zqn, zqn, zq323, zq248, zqn, zqn, zq71, zq74, zq64, zq0, zq243, zqn, zqn],
  [zq71, zq73, zq64, zq82, zq127]]
noncomputable def pq110 : List (List yEn) := [
  [zq0, zq687, zqn, zqn, zq132, zqn, zqn, zq0, zq138, zq0, zq612, zqn, zqn, zq634, zqn, zqn],
  [zq127, zq136, zq632, zqn, zq644, zqn, zqn, zq43, zq169, zq635, zq52, zq487, zqn, zqn, zq0, zq688],
  [zqn, zq651, zqn, zqn, zq67, zq73, zq63, zq249, zqn, zqn, zq43, zq127, zq128, zq689, zqn, zqn],
  [zq74, zq73, zq64, zq620, zqn, zqn, zq206, zqn, zqn, zq136, zq82, zq606, zqn, zqn, zq82, zq127]]
noncomputable def pq111 : List (List yEn) := [
  [zq492, zq60, zqn, zqn, zq43, zq0, zq60, zqn, zqn, zq43, zq0, zq60, zqn, zqn, zq68, zq690],
  [zqn, zqn, zq492, zq273, zqn, zqn, zq43, zq0, zq273, zqn, zqn, zq43, zq0, zq273, zqn, zqn],
  [zq68, zq690, zqn, zqn, zq492, zq270, zqn, zqn, zq43, zq0, zq270, zqn, zqn, zq43, zq0, zq270],
  [zqn, zqn, zq68, zq690, zqn, zqn, zq492, zq62, zqn, zqn, zq43, zq0, zq62, zqn, zqn, zq43],
  [zq0, zq62, zqn, zqn, zq68, zq690, zqn, zqn, zq492, zq65, zqn, zqn, zq43, zq0, zq65, zqn],
  [zqn, zq43, zq0, zq65, zqn, zqn, zq68, zq690, zqn, zqn, zq492, zq248, zqn, zqn, zq43, zq0],
  [zq248, zqn, zqn, zq43, zq56, zqn, zq690, zqn, zqn, zq492, zq243, zqn, zqn, zq43, zq0, zq243],
  [zqn, zqn, zq43, zq56, zqn, zq690, zqn, zqn, zq0, zq492, zq247, zqn, zqn, zq66, zqn, zqn],
  [zq11]]
noncomputable def pq112 : List (List yEn) := [
  [zq492, zq43, zq0, zq44, zqn, zqn, zq271, zqn, zq52, zq45, zqn, zqn, zq11]]
noncomputable def pq113 : List (List yEn) := [
  [zq74, zq691, zqn, zqn, zq0, zq577, zqn, zqn, zq692, zqn, zqn, zq127, zq635, zq82, zq693, zqn],
  [zqn, zq0, zq577, zqn, zqn, zq694, zqn, zqn, zq263, zqn, zqn, zq155, zq265]]
noncomputable def pq114 : List (List yEn) := [
  [zq0, zq123, zqn, zqn, zq124, zqn, zqn, zq74, zq695, zqn, zqn, zq342, zqn, zqn, zq43, zq127],
  [zq136, zq123, zqn, zqn, zq696, zqn, zq43, zq697, zqn, zqn, zq82, zq127]]
noncomputable def pq115 : List (List yEn) := [
  [zq0, zq131, zqn, zqn, zq698, zqn, zqn, zq74, zq548, zqn, zqn, zq74, zq699, zqn, zqn, zq154],
  [zqn, zqn, zq143, zq127, zq244, zq82, zq700, zqn, zqn, zq0, zq74, zq701, zqn, zqn, zq82, zq127]]
noncomputable def pq116 : List (List yEn) := [
  [zq0, zq123, zqn, zqn, zq74, zq702, zqn, zqn, zq127]]
noncomputable def pq117 : List (List yEn) := [
  [zq0, zq703, zqn, zqn, zq704, zqn, zqn, zq705, zqn, zqn, zq0, zq703, zqn, zqn, zq0, zq215],
  [zqn, zqn, zq706, zqn, zqn, zq530, zqn, zqn, zq143, zq127, zq635, zq0, zq703, zqn, zqn, zq707],
  [zqn, zqn, zq708, zqn, zqn, zq0, zq703, zqn, zqn, zq709, zqn, zqn, zq0, zq710, zqn, zq43],
  [zq425, zqn, zqn, zq82, zq127, zq136, zq703, zqn, zqn, zq3, zq711, zqn, zqn, zq82, zq134, zq712],
  [zqn, zqn, zq0, zq483, zqn, zq0, zq703, zqn, zqn, zq711, zqn, zqn, zq425, zqn, zqn, zq0],
  [zq703, zqn, zqn, zq713, zqn, zqn, zq714, zqn, zqn, zq0, zq703, zqn, zqn, zq0, zq215, zqn],
  [zqn, zq715, zqn, zqn, zq0, zq716, zqn, zq43, zq425, zqn, zqn, zq143, zq127]]
noncomputable def pq118 : List (List yEn) := [
  [zq43, zq0, zq717, zqn, zqn, zq74, zq212, zq718, zqn, zqn, zq127]]
noncomputable def pq119 : List (List yEn) := [
  [zq0, zq43, zq700, zqn, zqn, zq0, zq43, zq719, zqn, zqn, zq0, zq43, zq720, zqn, zqn, zq11]]
noncomputable def pq120 : List (List yEn) := [
  [zq0, zq721, zqn, zqn, zq138, zq722, zqn, zqn, zq82, zq263, zqn, zqn, zq143, zq265]]
noncomputable def pq121 : List (List yEn) := [
  [zq0, zq43, zq719, zqn, zqn, zq0, zq74, zq116, zqn, zqn, zq134, zq720, zqn, zqn, zq11]]
noncomputable def pq122 : List (List yEn) := [
  [zq0, zq123, zqn, zqn, zq124, zqn, zqn, zq125, zqn, zqn, zq308, zqn, zqn, zq74, zq723, zqn],
  [zqn, zq436, zqn, zqn, zq73, zq63, zq153, zqn, zqn, zq73, zq240, zqn, zqn, zq322, zqn, zqn],
  [zq143, zq127, zq531, zq297, zqn, zqn, zq73, zq63, zq249, zqn, zqn, zq43, zq127, zq128, zq123, zqn],
  [zqn, zq562, zqn, zqn, zq724, zqn, zqn, zq74, zq73, zq64, zq82, zq127]]
noncomputable def pq123 : List (List yEn) := [
  [zq547, zq566, zqn, zqn, zq547, zq52, zq565, zqn, zqn, zq82, zq263, zqn, zqn, zq143, zq265]]
noncomputable def pq124 : List (List yEn) := [
  [zq0, zq123, zqn, zqn, zq124, zqn, zqn, zq125, zqn, zqn, zq725, zqn, zqn, zq74, zq723, zqn],
  [zqn, zq341, zqn, zqn, zq71, zq557, zqn, zqn, zq342, zqn, zqn, zq143, zq127, zq70, zq560, zqn],
  [zqn, zq73, zq246, zqn, zq322, zqn, zqn, zq143, zq127, zq323, zq123, zqn, zqn, zq562, zqn, zqn],
  [zq726, zqn, zqn, zq74, zq246, zqn, zq165, zq73, zq134, zq71, zq64, zq82, zq127]]
noncomputable def pq125 : List (List yEn) := [
  [zq0, zq123, zqn, zqn, zq124, zqn, zqn, zq125, zqn, zqn, zq698, zqn, zqn, zq74, zq548, zqn],
  [zqn, zq74, zq240, zqn, zqn, zq322, zqn, zqn, zq143, zq127, zq170, zq63, zq652, zqn, zqn, zq0],
  [zq123, zqn, zqn, zq562, zqn, zqn, zq74, zq727, zqn, zqn, zq127, zq170, zq557, zqn, zqn, zq728],
  [zqn, zqn, zq0, zq123, zqn, zqn, zq562, zqn, zqn, zq74, zq73, zq729, zqn, zqn, zq290, zqn],
  [zqn, zq82, zq263, zqn, zqn, zq143, zq265]]
noncomputable def pq126 : List (List yEn) := [
  [zq0, zq74, zq241, zqn, zqn, zq67, zq73, zq63, zq249, zqn, zqn, zq43, zq127, zq730, zq3, zq247],
  [zqn, zqn, zq82, zq212, zq66, zqn, zqn, zq0, zq248, zqn, zqn, zq73, zq0, zq248, zqn, zqn],
  [zq0, zq247, zqn, zqn, zq176, zq64, zq0, zq243, zqn, zqn, zq73, zq0, zq243, zqn, zqn, zq0],
  [zq247, zqn, zqn, zq176, zq64, zq82, zq127]]
noncomputable def pq127 : List (List yEn) := [
  [zq0, zq123, zqn, zqn, zq124, zqn, zqn, zq125, zqn, zqn, zq297, zqn, zqn, zq74, zq731, zqn],
  [zqn, zq342, zqn, zqn, zq155, zq127, zq244, zq123, zqn, zqn, zq74, zq732, zqn, zqn, zq127]]
noncomputable def pq128 : List (List yEn) := [
  [zq547, zq564, zqn, zqn, zq547, zq733, zqn, zq582, zqn, zqn, zq82, zq263, zqn, zqn, zq143, zq265]]
noncomputable def pq129 : List (List yEn) := [
  [zq0, zq215, zqn, zqn, zq67, zq0, zq231, zqn, zqn, zq0, zq215, zqn, zqn, zq0, zq218, zqn],
  [zqn, zq324, zqn, zqn, zq486, zqn, zq469, zqn, zqn, zq0, zq74, zq225, zqn, zqn, zq0, zq231],
  [zqn, zqn, zq74, zq734, zqn, zqn, zq0, zq554, zqn, zq73, zq425, zqn, zqn, zq73, zq127]]
noncomputable def pq130 : List (List yEn) := [
  [zq74, zq82, zq735, zqn, zqn, zq74, zq736, zqn, zq152, zqn, zqn, zq0, zq123, zqn, zqn, zq737],
  [zqn, zqn, zq74, zq134, zq733, zqn, zq154, zqn, zqn, zq155, zq127, zq244, zq123, zqn, zqn, zq74],
  [zq738, zqn, zqn, zq0, zq123, zqn, zqn, zq737, zqn, zqn, zq127]]
noncomputable def pq131 : List (List yEn) := [
  [zq0, zq739, zqn, zq74, zq425, zqn, zqn, zq0, zq227, zqn, zqn, zq0, zq229, zqn, zqn, zq0],
  [zq215, zqn, zqn, zq740, zqn, zqn, zq0, zq217, zqn, zqn, zq43, zq741, zqn, zqn, zq0, zq218],
  [zqn, zqn, zq324, zqn, zqn, zq67, zq74, zq69, zq43, zq102, zqn, zq172, zqn, zq74, zq742, zqn],
  [zqn, zq71, zq743, zqn, zqn, zq71, zq73, zq0, zq215, zqn, zqn, zq73, zq142, zq212, zq325, zqn],
  [zqn, zq174, zqn, zq0, zq231, zqn, zqn, zq175, zqn, zq0, zq227, zqn, zqn, zq232, zqn, zqn],
  [zq744, zqn, zqn, zq0, zq3, zq745, zqn, zqn, zq175, zqn, zq134, zq746, zqn, zqn, zq0, zq3],
  [zq215, zqn, zqn, zq175, zqn, zq134, zq225, zqn, zqn, zq71, zq175, zqn, zq212, zq69, zq0, zq0],
  [zq214, zqn, zqn, zq0, zq215, zqn, zqn, zq82, zq212, zq216, zqn, zqn, zq236, zqn, zqn, zq179],
  [zqn, zqn, zq747, zqn, zqn, zq77]]
noncomputable def pq132 : List (List yEn) := [
  [zq178, zq69, zq208, zq110, zq748, zqn, zqn, zq0, zq346, zqn, zqn, zq71, zq43, zq64, zq0, zq71],
  [zq340, zqn, zqn, zq157, zqn, zqn, zq0, zq71, zq43, zq492, zq73, zq446, zqn, zqn, zq507, zqn],
  [zqn, zq749, zqn, zqn, zq77]]
noncomputable def pq133 : List (List yEn) := [
  [zq0, zq3, zq473, zqn, zqn, zq74, zq134, zq480, zqn, zqn, zq0, zq3, zq466, zqn, zqn, zq73],
  [zq455, zq467, zqn, zqn, zq11]]
noncomputable def pq134 : List (List yEn) := [
  [zq74, zq750, zqn, zqn, zq74, zq178, zq330, zqn, zqn, zq0, zq123, zqn, zqn, zq751, zqn, zqn],
  [zq74, zq752, zqn, zqn, zq73, zq249, zqn, zqn, zq143, zq127, zq128, zq123, zqn, zqn, zq751, zqn],
  [zqn, zq74, zq73, zq0, zq123, zqn, zqn, zq753, zqn, zqn, zq0, zq123, zqn, zqn, zq737, zqn],
  [zqn, zq754, zqn, zqn, zq82, zq127]]
noncomputable def pq135 : List (List yEn) := [
  [zq0, zq123, zqn, zqn, zq755, zqn, zqn, zq74, zq249, zqn, zqn, zq43, zq127, zq244, zq123, zqn],
  [zqn, zq74, zq756, zqn, zqn, zq0, zq123, zqn, zqn, zq757, zqn, zqn, zq82, zq127]]
noncomputable def pq136 : List (List yEn) := [
  [zq74, zq560, zqn, zqn, zq74, zq758, zqn, zq518, zqn, zqn, zq759, zqn, zqn, zq194, zq244, zq123],
  [zqn, zqn, zq3, zq760, zqn, zqn, zq74, zq186, zq187, zq761, zqn, zqn, zq0, zq123, zqn, zqn],
  [zq757, zqn, zqn, zq0, zq123, zqn, zqn, zq760, zqn, zqn, zq194]]
noncomputable def pq137 : List (List yEn) := [
  [zq0, zq123, zqn, zqn, zq762, zqn, zqn, zq0, zq123, zqn, zqn, zq763, zqn, zqn, zq764, zqn],
  [zqn, zq127]]
noncomputable def pq138 : List (List yEn) := [
  [zq0, zq368, zqn, zqn, zq0, zq215, zqn, zqn, zq0, zq470, zqn, zqn, zq765, zqn, zqn, zq0],
  [zq470, zqn, zqn, zq766, zqn, zqn, zq0, zq403, zqn, zq43, zq425, zqn, zqn, zq11]]
noncomputable def pq139 : List (List yEn) := [
  [zq0, zq767, zqn, zqn, zq271, zqn, zq142, zq716, zqn, zq165, zq69, zq43, zq102, zqn, zq172, zqn],
  [zq54, zqn, zq768, zqn, zqn, zq0, zq769, zqn, zqn, zq71, zq104, zqn, zq134, zq0, zq382, zqn],
  [zqn, zq104, zqn, zq185, zq0, zq770, zqn, zqn, zq104, zqn, zq185, zq365, zq106, zq0, zq770, zqn],
  [zqn, zq104, zqn, zq0, zq382, zqn, zqn, zq104, zqn, zq185, zq106, zq179, zqn, zqn, zq771, zqn],
  [zqn, zq772, zq773, zqn, zqn, zq43, zq0, zq769, zqn, zqn, zq71, zq54, zqn, zq134, zq52, zq774],
  [zqn, zqn, zq0, zq769, zqn, zqn, zq71, zq483, zqn, zq134, zq74, zq186, zq106, zq0, zq3, zq767],
  [zqn, zqn, zq82, zq134, zq775, zqn, zqn, zq11]]
noncomputable def pq140 : List (List yEn) := [
  [zq74, zq63, zq776, zqn, zqn, zq74, zq0, zq123, zqn, zqn, zq129, zqn, zqn, zq777, zqn, zqn],
  [zq72, zqn, zqn, zq73, zq560, zqn, zqn, zq73, zq47, zqn, zq518, zqn, zqn, zq759, zqn, zqn],
  [zq194, zq128, zq123, zqn, zqn, zq129, zqn, zqn, zq74, zq73, zq778, zqn, zqn, zq194]]
noncomputable def pq141 : List (List yEn) := [
  [zq74, zq63, zq262, zqn, zqn, zq138, zq263, zqn, zqn, zq531, zq779, zq0, zq147, zqn, zqn, zq43],
  [zq71, zq134, zq185, zq189, zqn, zq73, zq780, zqn, zqn, zqn, zqn, zqn, zqn, zqn, zqn, zqn],
  [zqn, zqn, zqn, zqn, zqn, zqn, zqn, zqn, zqn, zqn, zqn, zqn, zqn, zqn, zqn, zqn],
  [zqn, zqn, zqn, zqn, zqn, zqn, zqn, zqn, zq414, zq71, zq183, zqn, zqn, zq194, zq781, zqn],
  [zq0, zq147, zqn, zqn, zq52, zq71, zq134, zq185, zq782, zqn, zqn, zq186, zq194, zq244, zq178, zq74],
  [zq783, zqn, zqn, zq194, zq244, zq138, zq74, zq783, zqn, zqn, zq194, zq781, zqn, zq0, zq71, zq183],
  [zqn, zqn, zq784, zqn, zqn, zq194, zq785, zq786, zqn, zqn, zq73, zq138, zq787, zqn, zqn, zq0],
  [zq147, zqn, zqn, zq73, zq52, zq165, zq71, zq134, zq185, zq788, zqn, zqn, zq789, zqn, zqn, zq790]]
noncomputable def pq142 : List (List yEn) := [
  [zq145, zq353, zq43, zq174, zqn, zq511, zqn, zq0, zq163, zqn, zqn, zq791, zqn, zqn, zq73, zq63],
  [zq523, zqn, zqn, zq73, zq175, zqn, zq708, zqn, zqn, zq792, zq0, zq147, zqn, zqn, zq74, zq52],
  [zq165, zq175, zqn, zq134, zq185, zq793, zqn, zqn, zq353, zq794, zqn, zqn, zq795, zqn, zqn, zq796],
  [zq82, zq0, zq164, zqn, zqn, zq797, zqn, zqn, zq186, zq366, zq193, zqn, zqn, zq194]]
noncomputable def pq143 : List (List yEn) := [
  [zq190, zq145, zq203, zq267, zqn, zqn, zq145, zq376, zqn, zqn, zq798, zqn, zqn, zq202, zq191, zq190],
  [zq366, zq790]]
noncomputable def pq144 : List (List yEn) := [
  [zq74, zq799, zqn, zqn, zq341, zqn, zqn, zq73, zq800, zqn, zqn, zq267, zqn, zqn, zq519, zqn],
  [zqn, zq194, zq128, zq123, zqn, zqn, zq763, zqn, zqn, zq74, zq73, zq801, zqn, zqn, zq194]]
noncomputable def pq145 : List (List yEn) := [
  [zq547, zq564, zqn, zqn, zq547, zq246, zqn, zq565, zqn, zqn, zq82, zq263, zqn, zqn, zq143, zq265]]
noncomputable def pq146 : List (List yEn) := [
  [zq547, zq63, zq242, zqn, zqn, zq547, zq559, zqn, zqn, zq290, zqn, zqn, zq509, zq263, zqn, zqn],
  [zq143, zq265]]
noncomputable def pq147 : List (List yEn) := [
  [zq74, zq799, zqn, zqn, zq341, zqn, zqn, zq73, zq800, zqn, zqn, zq267, zqn, zqn, zq519, zqn],
  [zqn, zq194, zq128, zq123, zqn, zqn, zq763, zqn, zqn, zq74, zq73, zq801, zqn, zqn, zq0, zq123],
  [zqn, zqn, zq599, zqn, zqn, zq802, zqn, zqn, zq186, zq366, zq194]]
noncomputable def pq148 : List (List yEn) := [
  [zq74, zq731, zqn, zqn, zq705, zqn, zqn, zq0, zq123, zqn, zqn, zq562, zqn, zqn, zq74, zq803],
  [zqn, zqn, zq263, zqn, zqn, zq155, zq265]]
noncomputable def pq149 : List (List yEn) := [
  [zq74, zq804, zqn, zqn, zq705, zqn, zqn, zq0, zq123, zqn, zqn, zq562, zqn, zqn, zq74, zq805],
  [zqn, zqn, zq263, zqn, zqn, zq155, zq265]]
noncomputable def pq150 : List (List yEn) := [
  [zq547, zq806, zqn, zqn, zq547, zq807, zqn, zqn, zq582, zqn, zqn, zq82, zq263, zqn, zqn, zq143],
  [zq265]]
noncomputable def pq151 : List (List yEn) := [
  [zq74, zq557, zqn, zqn, zq342, zqn, zqn, zq63, zq127, zq323, zq123, zqn, zqn, zq562, zqn, zqn],
  [zq808, zqn, zqn, zq74, zq176, zq102, zqn, zq73, zq63, zq252, zqn, zqn, zq104, zqn, zq127, zq809],
  [zq810, zqn, zqn, zq73, zq104, zqn, zq811, zqn, zqn, zq71, zq812, zqn, zqn, zq71, zq82, zq154],
  [zqn, zqn, zq155, zq127, zq556, zq271, zqn, zq165, zq73, zq134, zq174, zqn, zq71, zq813, zqn, zqn],
  [zq0, zq123, zqn, zqn, zq562, zqn, zqn, zq814, zqn, zqn, zq175, zqn, zq176, zq268, zqn, zqn],
  [zq815, zq123, zqn, zqn, zq562, zqn, zqn, zq816, zqn, zqn, zq175, zqn, zq176, zq265]]
noncomputable def pq152 : List (List yEn) := [
  [zq74, zq812, zqn, zqn, zq74, zq82, zq154, zqn, zqn, zq155, zq127, zq244, zq123, zqn, zqn, zq562],
  [zqn, zqn, zq0, zq123, zqn, zqn, zq737, zqn, zqn, zq817, zqn, zqn, zq67, zq73, zq63, zq685],
  [zqn, zqn, zq74, zq342, zqn, zqn, zq264, zq127, zq730, zq123, zqn, zqn, zq562, zqn, zqn, zq73],
  [zq803, zqn, zqn, zq127]]
noncomputable def pq153 : List (List yEn) := [
  [zq74, zq237, zqn, zq168, zq552, zqn, zq134, zq82, zq134, zq237, zqn, zq165, zq82, zq212, zq818, zqn],
  [zq819, zqn, zqn, zq67, zq0, zq74, zq820, zqn, zqn, zq69, zq0, zq74, zq821, zqn, zqn, zq102],
  [zqn, zq43, zq174, zqn, zq822, zqn, zq823, zqn, zq791, zqn, zqn, zq104, zqn, zq73, zq824, zqn],
  [zqn, zq0, zq104, zqn, zq820, zqn, zqn, zq71, zq825, zqn, zqn, zq104, zqn, zq127, zq826, zq104],
  [zqn, zq821, zqn, zqn, zq102, zqn, zq514, zqn, zqn, zq827, zqn, zqn, zq155, zq127]]
noncomputable def pq154 : List (List yEn) := [
  [zq74, zq812, zqn, zqn, zq74, zq110, zq322, zqn, zqn, zq155, zq127, zq170, zq828, zqn, zqn, zqn],
  [zqn, zqn, zqn, zqn, zqn, zqn, zqn, zqn, zqn, zqn, zqn, zqn, zqn, zqn, zqn, zqn],
  [zqn, zqn, zqn, zqn, zqn, zqn, zqn, zqn, zqn, zqn, zqn, zqn, zq244, zq123, zqn, zqn],
  [zq751, zqn, zqn, zq74, zq752, zqn, zqn, zq290, zqn, zqn, zq82, zq263, zqn, zqn, zq143, zq265],
  [zq244, zq123, zqn, zqn, zq751, zqn, zqn, zq829, zqn, zqn, zq74, zq176, zq127, zq244, zq123, zqn],
  [zqn, zq751, zqn, zqn, zq830, zqn, zqn, zq74, zq176, zq127, zq244, zq123, zqn, zqn, zq751, zqn],
  [zqn, zq831, zqn, zqn, zq74, zq176, zq127, zq155, zq127]]
noncomputable def pq155 : List (List yEn) := [
  [zq0, zq123, zqn, zqn, zq832, zqn, zqn, zq833, zqn, zqn, zq69, zq74, zq63, zq252, zqn, zqn],
  [zq71, zq186, zq194, zq556, zq810, zqn, zqn, zq74, zq71, zq72, zqn, zqn, zq73, zq560, zqn, zqn],
  [zq73, zq271, zqn, zq722, zqn, zqn, zq519, zqn, zqn, zq194, zq128, zq123, zqn, zqn, zq832, zqn],
  [zqn, zq74, zq73, zq834, zqn, zqn, zq194]]
noncomputable def pq156 : List (List yEn) := [
  [zq74, zq835, zqn, zqn, zqn, zqn, zqn, zqn, zqn, zqn, zqn, zqn, zqn, zqn, zqn, zqn],
  [zqn, zqn, zqn, zqn, zqn, zqn, zqn, zqn, zqn, zqn, zqn, zqn, zqn, zqn, zqn, zqn],
  [zqn, zqn, zqn, zqn, zqn, zqn, zqn, zqn, zq136, zq123, zqn, zqn, zq832, zqn, zqn, zq836],
  [zqn, zqn, zq194, zq136, zq123, zqn, zqn, zq832, zqn, zqn, zq837, zqn, zqn, zq194, zq136, zq123],
  [zqn, zqn, zq832, zqn, zqn, zq838, zqn, zqn, zq194, zq136, zq123, zqn, zqn, zq832, zqn, zqn],
  [zq839, zqn, zqn, zq186, zq194, zq136, zq123, zqn, zqn, zq832, zqn, zqn, zq840, zqn, zqn, zq186],
  [zq194, zq136, zq123, zqn, zqn, zq832, zqn, zqn, zq0, zq123, zqn, zqn, zq599, zqn, zqn, zq841],
  [zqn, zqn, zq842, zqn, zqn, zq186, zq194, zq519, zqn, zqn, zq194]]
noncomputable def pq157 : List (List yEn) := [
  [zq74, zq698, zqn, zqn, zq0, zq123, zqn, zqn, zq843, zqn, zqn, zq844, zqn, zqn, zq194, zq635],
  [zq82, zq845, zqn, zqn, zq0, zq123, zqn, zqn, zq843, zqn, zqn, zq846, zqn, zqn, zq186, zq788],
  [zqn, zqn, zq519, zqn, zqn, zq790]]
noncomputable def pq158 : List (List yEn) := [
  [zq74, zq559, zqn, zqn, zq267, zqn, zqn, zq847, zqn, zqn, zq194, zq170, zq848, zqn, zqn, zq0],
  [zq123, zqn, zqn, zq843, zqn, zqn, zq849, zqn, zqn, zq74, zq185, zq194, zq170, zq82, zq708, zqn],
  [zqn, zq0, zq123, zqn, zqn, zq843, zqn, zqn, zq850, zqn, zqn, zq74, zq176, zq186, zq788, zqn],
  [zqn, zq519, zqn, zqn, zq790]]
noncomputable def pq159 : List (List yEn) := [
  [zq0, zq123, zqn, zqn, zq763, zqn, zqn, zq74, zq851, zqn, zqn, zq705, zqn, zqn, zq73, zq799],
  [zqn, zqn, zq341, zqn, zqn, zq71, zq800, zqn, zqn, zq267, zqn, zqn, zq519, zqn, zqn, zq194],
  [zq323, zq123, zqn, zqn, zq763, zqn, zqn, zq74, zq73, zq71, zq852, zqn, zqn, zq194]]
noncomputable def pq160 : List (List yEn) := [
  [zq74, zq853, zqn, zqn, zq74, zq0, zq767, zqn, zqn, zq271, zqn, zq854, zqn, zqn, zq565, zqn],
  [zqn, zq82, zq263, zqn, zqn, zq143, zq265]]
noncomputable def pq161 : List (List yEn) := [
  [zq0, zq769, zqn, zqn, zq0, zq74, zq855, zqn, zqn, zq73, zq52, zq165, zq134, zq71, zq522, zqn],
  [zqn, zq194]]
noncomputable def pq162 : List (List yEn) := [
  [zq0, zq767, zqn, zqn, zq82, zq212, zq74, zq212, zq271, zqn, zq142, zq716, zqn, zq165, zq127]]
noncomputable def pq163 : List (List yEn) := [
  [zq0, zq123, zqn, zqn, zq763, zqn, zqn, zq74, zq851, zqn, zqn, zq476, zqn, zqn, zq73, zq812],
  [zqn, zqn, zq73, zq52, zq518, zqn, zqn, zq519, zqn, zqn, zq194, zq170, zq725, zqn, zqn, zq0],
  [zq123, zqn, zqn, zq763, zqn, zqn, zq74, zq856, zqn, zqn, zq857, zqn, zqn, zq128, zq123, zqn],
  [zqn, zq763, zqn, zqn, zq74, zq73, zq82, zq212, zq858, zqn, zqn, zq790]]
noncomputable def pq164 : List (List yEn) := [
  [zq0, zq769, zqn, zqn, zq0, zq74, zq855, zqn, zqn, zq483, zqn, zq134, zq185, zq194]]
noncomputable def pq165 : List (List yEn) := [
  [zq0, zq769, zqn, zqn, zq0, zq74, zq855, zqn, zqn, zq54, zqn, zq134, zq73, zq134, zq185, zq194]]
noncomputable def pq166 : List (List yEn) := [
  [zq0, zq123, zqn, zqn, zq763, zqn, zqn, zq74, zq851, zqn, zqn, zq476, zqn, zqn, zq73, zq812],
  [zqn, zqn, zq73, zq82, zq518, zqn, zqn, zq519, zqn, zqn, zq194, zq128, zq123, zqn, zqn, zq763],
  [zqn, zqn, zq74, zq0, zq123, zqn, zqn, zq599, zqn, zqn, zq859, zqn, zqn, zq353, zq860, zqn],
  [zqn, zq0, zq123, zqn, zqn, zq599, zqn, zqn, zq802, zqn, zqn, zq186, zq191, zq200, zqn, zq359],
  [zq201, zqn, zq861, zqn, zqn, zq388, zqn, zq73, zq267, zqn, zqn, zq359, zq331, zqn, zqn, zq862],
  [zqn, zq863, zqn, zq366, zq194]]
noncomputable def pq167 : List (List yEn) := [
  [zq145, zq353, zq145, zq200, zqn, zq43, zq278, zqn, zq864, zqn, zq52, zq865, zqn, zqn, zq359, zq0],
  [zq74, zq43, zq281, zqn, zq866, zqn, zqn, zq867, zq281, zqn, zq868, zqn, zqn, zq186, zq191, zq187],
  [zq353, zq201, zqn, zq0, zq74, zq281, zqn, zq869, zqn, zqn, zq870, zqn, zqn, zq200, zqn, zq313],
  [zqn, zqn, zq574, zqn, zqn, zq792, zq201, zqn, zq867, zq554, zqn, zq871, zqn, zqn, zq186, zq191],
  [zq187, zq353, zq0, zq74, zq178, zq63, zq866, zqn, zqn, zq0, zq74, zq110, zq63, zq866, zqn, zqn],
  [zq187, zq388, zqn, zq390, zqn, zq872, zqn, zqn, zq191, zq0, zq74, zq43, zq63, zq866, zqn, zqn],
  [zq867, zq739, zqn, zq871, zqn, zqn, zq186, zq191, zq365, zq391, zqn, zq359, zq872, zqn, zqn, zq191],
  [zq145, zq392, zqn, zq870, zqn, zqn, zq867, zq423, zqn, zq871, zqn, zqn, zq186, zq191, zq187, zq194]]
noncomputable def pq168 : List (List yEn) := [
  [zq74, zq534, zqn, zqn, zq67, zq73, zq63, zq262, zqn, zqn, zq63, zq873, zqn, zqn, zq730, zq44],
  [zqn, zqn, zq73, zq176, zq265]]
noncomputable def pq169 : List (List yEn) := [
  [zq202, zq189, zqn, zq190, zq367, zqn, zq43, zq400, zqn, zq874, zqn, zq875, zqn, zqn, zq636, zqn],
  [zqn, zq371, zqn, zq145, zq203, zq876, zqn, zqn, zq192, zqn, zq371, zqn, zq877, zq391, zqn, zq371],
  [zqn, zq189, zqn, zq392, zqn, zq367, zqn, zq878, zqn, zqn, zq640, zqn, zqn, zq879, zqn, zq145],
  [zq203, zq482, zqn, zqn, zq192, zqn, zq263, zqn, zqn, zq880, zq790]]
noncomputable def pq170 : List (List yEn) := [
  [zq74, zq82, zq638, zqn, zqn, zq74, zq517, zqn, zqn, zq881, zqn, zqn, zq73, zq560, zqn, zqn],
  [zq73, zq271, zqn, zq518, zqn, zqn, zq759, zqn, zqn, zq194, zq128, zq882, zqn, zqn, zq0, zq123],
  [zqn, zqn, zq883, zqn, zqn, zq0, zq882, zqn, zqn, zq74, zq158, zqn, zqn, zq73, zq884, zqn],
  [zqn, zqn, zqn, zqn, zqn, zqn, zqn, zqn, zqn, zqn, zqn, zqn, zqn, zqn, zqn, zqn],
  [zqn, zqn, zqn, zqn, zqn, zqn, zqn, zqn, zqn, zqn, zqn, zqn, zqn, zqn, zqn, zqn],
  [zqn, zqn, zqn, zqn, zq136, zq882, zqn, zqn, zq43, zq520, zqn, zqn, zq194, zq136, zq882, zqn],
  [zqn, zq82, zq520, zqn, zqn, zq194, zq136, zq882, zqn, zqn, zq760, zqn, zqn, zq194, zq136, zq882],
  [zqn, zqn, zq843, zqn, zqn, zq885, zqn, zqn, zq194, zq136, zq882, zqn, zqn, zq751, zqn, zqn],
  [zq886, zqn, zqn, zq186, zq194, zq136, zq882, zqn, zqn, zq887, zqn, zqn, zq290, zqn, zqn, zq198],
  [zq263, zqn, zqn, zq888, zq790, zq136, zq882, zqn, zqn, zq737, zqn, zqn, zq186, zq194]]
noncomputable def pq171 : List (List yEn) := [
  [zq0, zq218, zqn, zqn, zq492, zq218, zqn, zqn, zq889, zqn, zqn, zq0, zq214, zqn, zqn, zq492],
  [zq214, zqn, zqn, zq890, zqn, zqn, zq0, zq217, zqn, zqn, zq492, zq217, zqn, zqn, zq891, zqn],
  [zqn, zq0, zq368, zqn, zqn, zq492, zq368, zqn, zqn, zq892, zqn, zqn, zq0, zq231, zqn, zqn],
  [zq492, zq231, zqn, zqn, zq893, zqn, zqn, zq0, zq470, zqn, zqn, zq492, zq470, zqn, zqn, zq894],
  [zqn, zqn, zq0, zq227, zqn, zqn, zq492, zq227, zqn, zqn, zq895, zqn, zqn, zq0, zq229, zqn],
  [zqn, zq492, zq229, zqn, zqn, zq896, zqn, zqn, zq0, zq703, zqn, zqn, zq492, zq703, zqn, zqn],
  [zq897, zqn, zqn, zq0, zq492, zq215, zqn, zqn, zq225, zqn, zqn, zq0, zq492, zq364, zqn, zqn],
  [zq393, zqn, zqn, zq0, zq492, zq355, zqn, zqn, zq898, zqn, zqn, zq0, zq492, zq357, zqn, zqn],
  [zq422, zqn, zqn, zq0, zq492, zq223, zqn, zqn, zq224, zqn, zqn, zq0, zq492, zq384, zqn, zqn],
  [zq385, zqn, zqn, zq0, zq492, zq745, zqn, zqn, zq746, zqn, zqn, zq11]]
noncomputable def pq172 : List (List yEn) := [
  [zq492, zq44, zqn, zqn, zq43, zq0, zq44, zqn, zqn, zq43, zq39, zqn, zq45, zqn, zqn, zq11]]
noncomputable def pq173 : List (List yEn) := [
  [zq492, zq160, zqn, zqn, zq43, zq0, zq160, zqn, zqn, zq43, zq0, zq160, zqn, zqn, zq68, zq899],
  [zqn, zqn, zq492, zq162, zqn, zqn, zq43, zq0, zq162, zqn, zqn, zq43, zq0, zq162, zqn, zqn],
  [zq68, zq899, zqn, zqn, zq492, zq147, zqn, zqn, zq43, zq0, zq147, zqn, zqn, zq43, zq0, zq147],
  [zqn, zqn, zq68, zq899, zqn, zqn, zq0, zq492, zq163, zqn, zqn, zq83, zqn, zqn, zq0, zq492],
  [zq164, zqn, zqn, zq84, zqn, zqn, zq0, zq492, zq161, zqn, zqn, zq144, zqn, zqn, zq0, zq492],
  [zq900, zqn, zqn, zq146, zqn, zqn, zq11]]
noncomputable def pq174 : List (List yEn) := [
  [zq492, zq382, zqn, zqn, zq43, zq0, zq382, zqn, zqn, zq43, zq54, zqn, zq774, zqn, zqn, zq492],
  [zq770, zqn, zqn, zq43, zq0, zq770, zqn, zqn, zq43, zq54, zqn, zq774, zqn, zqn, zq492, zq769],
  [zqn, zqn, zq43, zq0, zq769, zqn, zqn, zq43, zq0, zq769, zqn, zqn, zq68, zq774, zqn, zqn],
  [zq0, zq492, zq767, zqn, zqn, zq775, zqn, zqn, zq11]]
noncomputable def pq175 : List (List yEn) := [
  [zq492, zq489, zqn, zqn, zq43, zq0, zq489, zqn, zqn, zq43, zq0, zq489, zqn, zqn, zq68, zq45],
  [zqn, zqn, zq492, zq488, zqn, zqn, zq43, zq0, zq488, zqn, zqn, zq43, zq52, zq45, zqn, zqn],
  [zq0, zq492, zq485, zqn, zqn, zq491, zqn, zqn, zq0, zq492, zq409, zqn, zqn, zq410, zqn, zqn],
  [zq0, zq492, zq412, zqn, zqn, zq413, zqn, zqn, zq0, zq492, zq415, zqn, zqn, zq416, zqn, zqn],
  [zq0, zq492, zq464, zqn, zqn, zq465, zqn, zqn, zq0, zq492, zq473, zqn, zqn, zq480, zqn, zqn],
  [zq0, zq492, zq466, zqn, zqn, zq467, zqn, zqn, zq0, zq492, zq484, zqn, zqn, zq481, zqn, zqn],
  [zq11]]
noncomputable def pq176 : List (List yEn) := [
  [zq492, zq98, zqn, zqn, zq43, zq0, zq98, zqn, zqn, zq43, zq52, zq901, zqn, zqn, zq492, zq100],
  [zqn, zqn, zq43, zq0, zq100, zqn, zqn, zq43, zq52, zq901, zqn, zqn, zq0, zq492, zq498, zqn],
  [zqn, zq95, zqn, zqn, zq0, zq492, zq500, zqn, zqn, zq96, zqn, zqn, zq11]]
noncomputable def pq177 : List (List yEn) := [
  [zq492, zq457, zqn, zqn, zq43, zq0, zq457, zqn, zqn, zq43, zq110, zq902, zqn, zqn, zq492, zq448],
  [zqn, zqn, zq43, zq0, zq448, zqn, zqn, zq43, zq110, zq902, zqn, zqn, zq492, zq346, zqn, zqn],
  [zq43, zq0, zq346, zqn, zqn, zq43, zq110, zq902, zqn, zqn, zq0, zq492, zq351, zqn, zqn, zq456],
  [zqn, zqn, zq11]]
noncomputable def pq178 : List (List yEn) := [
  [zq492, zq429, zqn, zqn, zq43, zq0, zq429, zqn, zqn, zq43, zq0, zq429, zqn, zqn, zq68, zq903],
  [zqn, zqn, zq0, zq492, zq427, zqn, zqn, zq430, zqn, zqn, zq11]]
noncomputable def pq179 : List (List yEn) := [
  [zq0, zq492, zq131, zqn, zqn, zq700, zqn, zqn, zq0, zq492, zq904, zqn, zqn, zq701, zqn, zqn],
  [zq0, zq492, zq721, zqn, zqn, zq719, zqn, zqn, zq0, zq492, zq133, zqn, zqn, zq135, zqn, zqn],
  [zq0, zq492, zq717, zqn, zqn, zq720, zqn, zqn, zq11]]
noncomputable def pq180 : List (List yEn) := [
  [zq94, zqn, zqn, zq905, zq43, zq69, zq678, zq52, zq906, zqn, zqn, zq105, zq0, zq98, zqn, zqn],
  [zq71, zq185, zq907, zqn, zqn, zq905, zq107, zqn, zqn, zq908, zqn, zqn, zq909, zq194]]
noncomputable def pq181 : List (List yEn) := [
  [zq74, zq82, zq137, zqn, zqn, zq74, zq736, zqn, zq910, zqn, zqn, zq0, zq123, zqn, zqn, zq737],
  [zqn, zqn, zq74, zq134, zq82, zq212, zq733, zqn, zq518, zqn, zqn, zq519, zqn, zqn, zq194, zq244],
  [zq123, zqn, zqn, zq562, zqn, zqn, zq0, zq123, zqn, zqn, zq737, zqn, zqn, zq74, zq0, zq123],
  [zqn, zqn, zq599, zqn, zqn, zq911, zqn, zqn, zq194]]
noncomputable def pq182 : List (List yEn) := [
  [zq74, zq73, zq134, zq102, zqn, zq74, zq174, zqn, zq145, zq367, zqn, zq43, zq400, zqn, zq912, zqn],
  [zq73, zq913, zqn, zqn, zq175, zqn, zq104, zqn, zq914, zqn, zqn, zq0, zq175, zqn, zq821, zqn],
  [zqn, zq104, zqn, zq819, zqn, zqn, zq915, zqn, zq371, zqn, zq458, zq0, zq175, zqn, zq820, zqn],
  [zqn, zq916, zqn, zqn, zq186, zq917, zqn, zq175, zqn, zq212, zq186, zq191, zq187, zq367, zqn, zq917],
  [zqn, zq174, zqn, zq878, zqn, zqn, zq918, zqn, zqn, zq919, zqn, zq194]]
noncomputable def pq183 : List (List yEn) := [
  [zq74, zq82, zq920, zqn, zqn, zq74, zq736, zqn, zq921, zqn, zqn, zq73, zq812, zqn, zqn, zq73],
  [zq82, zq518, zqn, zqn, zq519, zqn, zqn, zq194, zq128, zq123, zqn, zqn, zq737, zqn, zqn, zq922],
  [zqn, zqn, zq134, zq74, zq134, zq82, zq212, zq733, zqn, zq518, zqn, zqn, zq847, zqn, zqn, zq194],
  [zq128, zq123, zqn, zqn, zq737, zqn, zqn, zq69, zq0, zq123, zqn, zqn, zq562, zqn, zqn, zq71],
  [zq74, zq0, zq123, zqn, zqn, zq599, zqn, zqn, zq911, zqn, zqn, zq189, zqn, zq82, zq277, zqn],
  [zq923, zqn, zq924, zqn, zq925, zqn, zqn, zq0, zq123, zqn, zqn, zq737, zqn, zqn, zq306, zqn],
  [zq517, zqn, zqn, zq165, zq134, zq278, zqn, zq0, zq123, zqn, zqn, zq562, zqn, zqn, zq281, zqn],
  [zq74, zq0, zq123, zqn, zqn, zq599, zqn, zqn, zq911, zqn, zqn, zq282, zqn, zq284, zqn, zq192],
  [zqn, zq203, zq926, zqn, zqn, zq284, zqn, zq189, zqn, zq281, zqn, zq69, zq927, zqn, zqn, zq928],
  [zqn, zqn, zq929, zq288, zqn, zqn, zq71, zq186, zq331, zqn, zqn, zq879, zqn, zq790]]
noncomputable def pq184 : List (List yEn) := [
  [zq0, zq123, zqn, zqn, zq887, zqn, zqn, zq126, zqn, zqn, zq43, zq127, zq136, zq123, zqn, zqn],
  [zq755, zqn, zqn, zq342, zqn, zqn, zq63, zq127, zq136, zq882, zqn, zqn, zq0, zq123, zqn, zqn],
  [zq883, zqn, zqn, zq0, zq882, zqn, zqn, zq546, zqn, zqn, zq930, zqn, zqn, zq127]]
noncomputable def pq185 : List (List yEn) := [
  [zq43, zq67, zq43, zq69, zq208, zq74, zq931, zqn, zqn, zq73, zq74, zq932, zqn, zqn, zq73, zq0],
  [zq74, zq73, zq212, zq211, zqn, zqn, zq134, zq67, zq0, zq357, zqn, zqn, zq126, zqn, zqn, zq73],
  [zq127, zq507, zqn, zqn, zq933, zqn, zqn, zq155, zq127]]
noncomputable def pq186 : List (List yEn) := [
  [zq74, zq750, zqn, zqn, zq74, zq52, zq330, zqn, zqn, zq0, zq123, zqn, zqn, zq832, zqn, zqn],
  [zq934, zqn, zqn, zq74, zq185, zq788, zqn, zqn, zq519, zqn, zqn, zq790]]
noncomputable def pq187 : List (List yEn) := [
  [zq74, zq82, zq935, zqn, zqn, zq74, zq0, zq123, zqn, zqn, zq832, zqn, zqn, zq833, zqn, zqn],
  [zq921, zqn, zqn, zq73, zq812, zqn, zqn, zq73, zq82, zq518, zqn, zqn, zq519, zqn, zqn, zq194],
  [zq128, zq123, zqn, zqn, zq832, zqn, zqn, zq74, zq936, zqn, zqn, zq69, zq73, zq937, zqn, zqn],
  [zq0, zq123, zqn, zqn, zq832, zqn, zqn, zq71, zq74, zq938, zqn, zqn, zq396, zqn, zqn, zq414],
  [zq123, zqn, zqn, zq832, zqn, zqn, zq71, zq43, zq834, zqn, zqn, zq790]]
noncomputable def pq188 : List (List yEn) := [
  [zq0, zq43, zq74, zq939, zqn, zqn, zq188, zq190, zq189, zqn, zq43, zq277, zqn, zq82, zq278, zqn],
  [zq940, zqn, zq74, zq134, zq0, zq941, zqn, zqn, zq942, zqn, zqn, zq190, zq0, zq281, zqn, zq74],
  [zq134, zq82, zq212, zq82, zq513, zqn, zqn, zq0, zq281, zqn, zq82, zq212, zq82, zq513, zqn, zqn],
  [zq365, zq187, zq188, zq190, zq192, zqn, zq203, zq361, zqn, zqn, zq190, zq189, zqn, zq281, zqn, zq277],
  [zqn, zq943, zqn, zqn, zq508, zqn, zqn, zq944, zqn, zq127]]
noncomputable def pq189 : List (List yEn) := [
  [zq145, zq353, zq0, zq123, zqn, zqn, zq832, zqn, zqn, zq833, zqn, zqn, zq174, zqn, zq43, zq277],
  [zqn, zq571, zqn, zq175, zqn, zq913, zqn, zqn, zq0, zq123, zqn, zqn, zq832, zqn, zqn, zq306],
  [zqn, zq43, zq834, zqn, zqn, zq388, zqn, zq390, zqn, zq74, zq186, zq203, zq945, zqn, zqn, zq390],
  [zqn, zq73, zq186, zq203, zq946, zqn, zqn, zq359, zq0, zq123, zqn, zqn, zq832, zqn, zqn, zq306],
  [zqn, zq82, zq834, zqn, zqn, zq187, zq353, zq947, zqn, zqn, zq948, zqn, zqn, zq516, zq194]]
noncomputable def pq190 : List (List yEn) := [
  [zq74, zq949, zqn, zqn, zq74, zq0, zq123, zqn, zqn, zq753, zqn, zqn, zq950, zqn, zqn, zq811],
  [zqn, zqn, zq73, zq812, zqn, zqn, zq73, zq138, zq322, zqn, zqn, zq155, zq127, zq128, zq123, zqn],
  [zqn, zq753, zqn, zqn, zq74, zq73, zq951, zqn, zqn, zq127]]
noncomputable def pq191 : List (List yEn) := [
  [zq0, zq427, zqn, zqn, zq428, zqn, zq952, zqn, zqn, zq127]]
noncomputable def pq192 : List (List yEn) := [
  [zq0, zq429, zqn, zqn, zq0, zq427, zqn, zqn, zq82, zq212, zq74, zq212, zq428, zqn, zq142, zq138],
  [zq165, zq73, zq134, zq176, zq127]]
noncomputable def pq193 : List (List yEn) := [
  [zq74, zq804, zqn, zqn, zq341, zqn, zqn, zq73, zq559, zqn, zqn, zq342, zqn, zqn, zq155, zq127],
  [zq128, zq123, zqn, zqn, zq562, zqn, zqn, zq0, zq123, zqn, zqn, zq562, zqn, zqn, zq74, zq805],
  [zqn, zqn, zq73, zq953, zqn, zqn, zq127]]
noncomputable def pq194 : List (List yEn) := [
  [zq74, zq271, zqn, zq165, zq69, zq43, zq102, zqn, zq43, zq174, zqn, zq43, zq277, zqn, zq71, zq278],
  [zqn, zq279, zqn, zq71, zq0, zq60, zqn, zqn, zq74, zq176, zq134, zq954, zqn, zqn, zq306, zqn],
  [zq73, zq955, zqn, zqn, zq104, zqn, zq0, zq273, zqn, zqn, zq281, zqn, zq176, zq175, zqn, zq212],
  [zq134, zq102, zqn, zq956, zq273, zqn, zqn, zq281, zqn, zq176, zq174, zqn, zq0, zq270, zqn, zqn],
  [zq281, zqn, zq176, zq277, zqn, zq313, zqn, zqn, zq957, zqn, zqn, zq958, zqn, zq73, zq959, zqn],
  [zqn, zq104, zqn, zq237, zqn, zq134, zq175, zqn, zq212, zq331, zqn, zqn, zq276, zqn, zq265]]
noncomputable def pq195 : List (List yEn) := [
  [zq74, zq728, zqn, zqn, zq0, zq960, zqn, zqn, zq0, zq123, zqn, zqn, zq883, zqn, zqn, zq0],
  [zq82, zq961, zqn, zqn, zq962, zqn, zqn, zq136, zq963, zqn, zqn, zq383, zqn, zqn, zq0, zq123],
  [zqn, zqn, zq0, zq960, zqn, zqn, zq883, zqn, zqn, zq136, zq963, zqn, zqn, zq127]]
noncomputable def pq196 : List (List yEn) := [
  [zq74, zq285, zqn, zqn, zq964, zqn, zqn, zq194, zq635, zq246, zqn, zq141, zqn, zqn, zq0, zq74],
  [zq965, zqn, zqn, zq194, zq635, zq966, zqn, zq141, zqn, zqn, zq0, zq74, zq967, zqn, zqn, zq194],
  [zq635, zq428, zqn, zq935, zqn, zqn, zq74, zq968, zqn, zq139, zqn, zqn, zq0, zq123, zqn, zqn],
  [zq562, zqn, zqn, zq724, zqn, zqn, zq74, zq428, zqn, zq212, zq176, zq186, zq194, zq635, zq969, zqn],
  [zq970, zqn, zqn, zq0, zq74, zq971, zqn, zqn, zq194, zq635, zq972, zqn, zqn, zq67, zq73, zq63],
  [zq973, zqn, zqn, zq964, zqn, zqn, zq396, zqn, zqn, zq730, zq123, zqn, zqn, zq599, zqn, zqn],
  [zq73, zq974, zqn, zqn, zq186, zq790]]
noncomputable def pq197 : List (List yEn) := [
  [zq74, zq975, zqn, zqn, zqn, zqn, zqn, zqn, zqn, zqn, zqn, zqn, zqn, zqn, zqn, zqn],
  [zqn, zqn, zqn, zqn, zqn, zqn, zqn, zqn, zqn, zqn, zqn, zqn, zqn, zqn, zqn, zqn],
  [zqn, zqn, zqn, zqn, zqn, zqn, zqn, zqn, zqn, zqn, zqn, zqn, zqn, zqn, zqn, zqn],
  [zq136, zq123, zqn, zqn, zq737, zqn, zqn, zq186, zq194, zq136, zq123, zqn, zqn, zq562, zqn, zqn],
  [zq0, zq123, zqn, zqn, zq737, zqn, zqn, zq803, zqn, zqn, zq186, zq194, zq136, zq123, zqn, zqn],
  [zq760, zqn, zqn, zq194, zq136, zq123, zqn, zqn, zq755, zqn, zqn, zq290, zqn, zqn, zq198, zq263],
  [zqn, zqn, zq888, zq790, zq136, zq123, zqn, zqn, zq887, zqn, zqn, zq290, zqn, zqn, zq198, zq263],
  [zqn, zqn, zq888, zq790, zq136, zq123, zqn, zqn, zq976, zqn, zqn, zq186, zq194, zq136, zq123, zqn],
  [zqn, zq977, zqn, zqn, zq186, zq194, zq136, zq123, zqn, zqn, zq978, zqn, zqn, zq186, zq194, zq759],
  [zqn, zqn, zq194]]
noncomputable def pq198 : List (List yEn) := [
  [zq74, zq979, zqn, zqn, zqn, zqn, zqn, zqn, zqn, zqn, zqn, zqn, zqn, zqn, zqn, zqn],
  [zqn, zqn, zqn, zqn, zqn, zqn, zqn, zqn, zqn, zqn, zqn, zqn, zqn, zqn, zqn, zqn],
  [zqn, zqn, zqn, zqn, zqn, zqn, zqn, zqn, zqn, zqn, zqn, zqn, zqn, zqn, zqn, zqn],
  [zq136, zq123, zqn, zqn, zq751, zqn, zqn, zq886, zqn, zqn, zq186, zq194, zq136, zq123, zqn, zqn],
  [zq753, zqn, zqn, zq980, zqn, zqn, zq186, zq194, zq136, zq123, zqn, zqn, zq832, zqn, zqn, zq981],
  [zqn, zqn, zq186, zq194, zq136, zq123, zqn, zqn, zq763, zqn, zqn, zq764, zqn, zqn, zq186, zq194],
  [zq136, zq123, zqn, zqn, zq129, zqn, zqn, zq777, zqn, zqn, zq186, zq194, zq136, zq123, zqn, zqn],
  [zq129, zqn, zqn, zq982, zqn, zqn, zq186, zq194, zq136, zq123, zqn, zqn, zq129, zqn, zqn, zq159],
  [zqn, zqn, zq186, zq194, zq136, zq123, zqn, zqn, zq562, zqn, zqn, zq983, zqn, zqn, zq186, zq194],
  [zq759, zqn, zqn, zq194]]
noncomputable def pq199 : List (List yEn) := [
  [zq74, zq984, zqn, zqn, zqn, zqn, zqn, zqn, zqn, zqn, zqn, zqn, zqn, zqn, zqn, zqn],
  [zqn, zqn, zqn, zqn, zqn, zqn, zqn, zqn, zqn, zqn, zqn, zqn, zqn, zqn, zqn, zqn],
  [zqn, zqn, zqn, zqn, zq136, zq123, zqn, zqn, zq124, zqn, zqn, zq985, zqn, zqn, zq290, zqn],
  [zqn, zq198, zq263, zqn, zqn, zq888, zq790, zq136, zq123, zqn, zqn, zq124, zqn, zqn, zq986, zqn],
  [zqn, zq186, zq194, zq136, zq123, zqn, zqn, zq124, zqn, zqn, zq0, zq123, zqn, zqn, zq737, zqn],
  [zqn, zq987, zqn, zqn, zq186, zq194, zq136, zq123, zqn, zqn, zq124, zqn, zqn, zq988, zqn, zqn],
  [zq186, zq194, zq136, zq577, zqn, zqn, zq580, zqn, zqn, zq186, zq194, zq759, zqn, zqn, zq194]]
noncomputable def pq200 : List (List yEn) := [
  [zq547, zq554, zqn, zq989, zqn, zqn, zq547, zq195, zqn, zq990, zqn, zqn, zq547, zq554, zqn, zq212],
  [zq43, zq134, zq127, zq550, zq696, zqn, zq551, zqn, zqn, zq547, zq716, zqn, zq555, zqn, zqn, zq547],
  [zq696, zqn, zq212, zq463, zqn, zq134, zq127, zq550, zq991, zqn, zq551, zqn, zqn, zq547, zq992, zqn],
  [zq555, zqn, zqn, zq547, zq991, zqn, zq212, zq554, zqn, zq134, zq127, zq155, zq127]]
noncomputable def pq201 : List (List yEn) := [
  [zq0, zq1, zqn, zqn, zq0, zq993, zqn, zqn, zq80, zqn, zq994, zqn, zqn, zq0, zq993, zqn],
  [zqn, zq80, zqn, zq995, zqn, zqn, zq0, zq993, zqn, zqn, zq80, zqn, zq996, zqn, zqn, zq0],
  [zq116, zqn, zqn, zq997, zqn, zq998, zqn, zqn, zq0, zq63, zq999, zqn, zqn, zq0, zq47, zqn],
  [zq1000, zqn, zq1001, zqn, zqn, zq0, zq52, zq1000, zqn, zq1002, zqn, zqn, zq0, zq1003, zqn, zqn],
  [zq82, zq198, zq106, zq0, zq1003, zqn, zqn, zq178, zq1004, zqn, zqn, zq106, zq0, zq1003, zqn, zqn],
  [zq110, zq1005, zqn, zqn, zq106, zq0, zq1003, zqn, zqn, zq271, zqn, zq1006, zqn, zqn, zq106, zq0],
  [zq1003, zqn, zqn, zq246, zqn, zq1007, zqn, zqn, zq106, zq0, zq1003, zqn, zqn, zq47, zqn, zq1008],
  [zqn, zqn, zq106, zq0, zq1003, zqn, zqn, zq1009, zqn, zq1007, zqn, zqn, zq106, zq0, zq1003, zqn],
  [zqn, zq1010, zqn, zqn, zq1011, zqn, zqn, zq106, zq0, zq1003, zqn, zqn, zq1012, zqn, zq1013, zqn],
  [zqn, zq106, zq0, zq1003, zqn, zqn, zq554, zqn, zq1013, zqn, zqn, zq106, zq43, zq169, zq635, zq52],
  [zq931, zqn, zqn, zq0, zq1003, zqn, zqn, zq483, zqn, zq74, zq134, zq1013, zqn, zqn, zq106, zq0],
  [zq1003, zqn, zqn, zq1014, zqn, zq74, zq134, zq1013, zqn, zqn, zq106, zq620, zqn, zqn, zq933, zqn],
  [zqn, zq1015, zq169, zq635, zq52, zq272, zqn, zqn, zq0, zq1003, zqn, zqn, zq1016, zqn, zqn, zq74],
  [zq134, zq1013, zqn, zqn, zq106, zq620, zqn, zqn, zq515, zqn, zqn, zq419, zq169, zq635, zq240, zqn],
  [zqn, zq272, zqn, zqn, zq0, zq1003, zqn, zqn, zq1017, zqn, zqn, zq74, zq134, zq1013, zqn, zqn],
  [zq106, zq620, zqn, zqn, zq250, zqn, zqn, zq77]]
noncomputable def pq202 : List (List yEn) := [
  [zq0, zq1018, zqn, zqn, zq1019, zqn, zqn, zq74, zq186, zq198, zq1007, zqn, zqn, zq1020, zqn, zqn],
  [zq447, zqn, zqn, zq73, zq186, zq1021, zqn, zqn, zq1022, zqn, zqn, zq1020, zqn, zqn, zq1023, zqn],
  [zqn, zq73, zq52, zq142, zq126, zqn, zqn, zq143, zq127, zq128, zq1003, zqn, zqn, zq82, zq74, zq186],
  [zq106, zq0, zq1003, zqn, zqn, zq178, zq73, zq186, zq106, zq0, zq1003, zqn, zqn, zq138, zq145, zq106],
  [zq1024, zqn, zq69, zq1025, zq1026, zqn, zqn, zq673, zqn, zqn, zq0, zq1003, zqn, zqn, zq71, zq145],
  [zq106, zq107, zqn, zqn, zq1027, zqn, zqn, zq509, zq127]]
noncomputable def pq203 : List (List yEn) := [
  [zq0, zq1003, zqn, zqn, zq1028, zqn, zqn, zq184, zq185, zq0, zq1003, zqn, zqn, zq1029, zqn, zqn],
  [zq185, zq187, zq106, zq0, zq1003, zqn, zqn, zq1029, zqn, zqn, zq185, zq198, zq203, zq267, zqn, zqn],
  [zq82, zq263, zqn, zqn, zq143, zq265]]
noncomputable def pq204 : List (List yEn) := [
  [zq202, zq190, zq203, zq806, zqn, zqn, zq202, zq192, zqn, zq203, zq418, zqn, zqn, zq82, zq263, zqn],
  [zqn, zq143, zq265]]
noncomputable def pq205 : List (List yEn) := [
  [zq74, zq186, zq1030, zqn, zqn, zq1031, zqn, zqn, zq1020, zqn, zqn, zq705, zqn, zqn, zq73, zq186],
  [zq1030, zqn, zqn, zq1031, zqn, zqn, zq1020, zqn, zqn, zq342, zqn, zqn, zq155, zq127, zq128, zq1003],
  [zqn, zqn, zq138, zq185, zq374, zq69, zq0, zq1003, zqn, zqn, zq1026, zqn, zqn, zq71, zq0, zq1032],
  [zqn, zqn, zq142, zq71, zq0, zq1032, zqn, zqn, zq168, zq1033, zqn, zqn, zq74, zq186, zq106, zq0],
  [zq1003, zqn, zqn, zq1034, zqn, zqn, zq71, zq0, zq1032, zqn, zqn, zq142, zq71, zq0, zq1032, zqn],
  [zqn, zq168, zq1033, zqn, zqn, zq73, zq186, zq106, zq0, zq1003, zqn, zqn, zq138, zq184, zq185, zq198],
  [zq187, zq106, zq0, zq1003, zqn, zqn, zq138, zq185, zq0, zq1003, zqn, zqn, zq82, zq185, zq0, zq1003],
  [zqn, zqn, zq178, zq185, zq191, zq203, zq1035, zqn, zqn, zq0, zq1003, zqn, zqn, zq138, zq185, zq374],
  [zq127, zq136, zq1003, zqn, zqn, zq138, zq145, zq106, zq43, zq102, zqn, zq1036, zqn, zq924, zqn, zq487],
  [zqn, zqn, zq0, zq1003, zqn, zqn, zq1024, zqn, zq104, zqn, zq134, zq0, zq1003, zqn, zqn, zq1026],
  [zqn, zqn, zq104, zqn, zq134, zq185, zq106, zq179, zqn, zqn, zq749, zqn, zqn, zq136, zq1037, zqn],
  [zqn, zq43, zq127]]
noncomputable def pq206 : List (List yEn) := [
  [zq0, zq1003, zqn, zqn, zq82, zq185, zq374, zq127]]
noncomputable def pq207 : List (List yEn) := [
  [zq547, zq56, zqn, zq74, zq165, zq134, zq73, zq134, zq127]]
noncomputable def pq208 : List (List yEn) := [
  [zq0, zq1003, zqn, zqn, zq309, zqn, zq185, zq198, zq203, zq267, zqn, zqn, zq145, zq1038, zqn, zqn],
  [zq136, zq43, zq1039, zqn, zqn, zq1040, zq0, zq1003, zqn, zqn, zq309, zqn, zq185, zq198, zq203, zq267],
  [zqn, zqn, zq145, zq1038, zqn, zqn, zq244, zq82, zq1039, zqn, zqn, zq1041, zq105, zq105, zq191, zq359],
  [zq359, zq191, zq187, zq1042, zqn, zqn, zq200, zqn, zq0, zq1003, zqn, zqn, zq39, zqn, zq184, zq185],
  [zq198, zq187, zq106, zq0, zq1003, zqn, zqn, zq195, zqn, zq184, zq185, zq198, zq187, zq106, zq105, zq1043],
  [zqn, zqn, zq0, zq1003, zqn, zqn, zq52, zq185, zq203, zq1044, zqn, zqn, zq359, zq1043, zqn, zqn],
  [zq0, zq1003, zqn, zqn, zq52, zq185, zq203, zq1045, zqn, zqn, zq0, zq1003, zqn, zqn, zq552, zqn],
  [zq184, zq185, zq198, zq187, zq106, zq1046, zqn, zqn, zq1047, zq105, zq359, zq201, zqn, zq1048, zqn, zqn],
  [zq136, zq1049, zqn, zqn, zq0, zq1050, zqn, zqn, zq0, zq1051, zqn, zqn, zq11]]
noncomputable def pq209 : List (List yEn) := [
  [zq145, zq188, zq43, zq102, zqn, zq1052, zqn, zq0, zq1032, zqn, zqn, zq1053, zqn, zqn, zq190, zq74],
  [zq1054, zqn, zqn, zq0, zq104, zqn, zq1055, zqn, zqn, zq1056, zqn, zqn, zq1057, zq82, zq529, zqn],
  [zqn, zq0, zq104, zqn, zq1058, zqn, zqn, zq460, zqn, zqn, zq1057, zq178, zq959, zqn, zqn, zq0],
  [zq1024, zqn, zq104, zqn, zq1059, zqn, zqn, zq1060, zqn, zqn, zq670, zq1061, zqn, zqn, zq104, zqn],
  [zq1059, zqn, zqn, zq1062, zq188, zq179, zqn, zqn, zq1063, zqn, zqn, zq207, zq194]]
noncomputable def pq210 : List (List yEn) := [
  [zq145, zq188, zq43, zq102, zqn, zq1052, zqn, zq0, zq1064, zqn, zqn, zq1065, zqn, zqn, zq190, zq0],
  [zq1003, zqn, zqn, zq1024, zqn, zq74, zq104, zqn, zq1033, zqn, zqn, zq185, zq0, zq1003, zqn, zqn],
  [zq1061, zqn, zqn, zq74, zq104, zqn, zq1033, zqn, zqn, zq185, zq191, zq187, zq188, zq179, zqn, zqn],
  [zq590, zqn, zqn, zq207, zq194]]
noncomputable def pq211 : List (List yEn) := [
  [zq0, zq1003, zqn, zqn, zq178, zq185, zq374, zq127]]
noncomputable def pq212 : List (List yEn) := [
  [zq145, zq188, zq43, zq102, zqn, zq1052, zqn, zq0, zq1064, zqn, zqn, zq1066, zqn, zqn, zq190, zq0],
  [zq1003, zqn, zqn, zq1024, zqn, zq74, zq104, zqn, zq1033, zqn, zqn, zq185, zq0, zq1003, zqn, zqn],
  [zq1061, zqn, zqn, zq74, zq104, zqn, zq0, zq1064, zqn, zqn, zq52, zq168, zq134, zq0, zq1064, zqn],
  [zqn, zq142, zq1033, zqn, zqn, zq185, zq191, zq187, zq188, zq179, zqn, zqn, zq957, zqn, zqn, zq207],
  [zq194]]
noncomputable def pq213 : List (List yEn) := [
  [zq145, zq353, zq43, zq174, zqn, zq511, zqn, zq0, zq1064, zqn, zqn, zq1067, zqn, zqn, zq359, zq0],
  [zq1003, zqn, zqn, zq74, zq73, zq175, zqn, zq1033, zqn, zqn, zq185, zq0, zq1003, zqn, zqn, zq74],
  [zq73, zq175, zqn, zq1033, zqn, zqn, zq185, zq191, zq187, zq353, zq514, zqn, zqn, zq1068, zqn, zqn],
  [zq516, zq194]]
noncomputable def pq214 : List (List yEn) := [
  [zq145, zq188, zq1069, zqn, zqn, zq189, zqn, zq1070, zq192, zqn, zq203, zq1071, zqn, zqn, zq190, zq192],
  [zqn, zq187, zq198, zq187, zq1072, zqn, zqn, zq366, zq367, zqn, zq371, zqn, zq371, zqn, zq191, zq202],
  [zq203, zq1073, zqn, zqn, zq371, zqn, zq188, zq873, zqn, zqn, zq1074, zqn, zq198, zq365, zq189, zqn],
  [zq1075, zqn, zqn, zq207, zq194]]
noncomputable def pq215 : List (List yEn) := [
  [zq202, zq145, zq203, zq1076, zqn, zqn, zq202, zq1077, zq263, zqn, zqn, zq1078, zq790]]
noncomputable def pq216 : List (List yEn) := [
  [zq0, zq0, zq1003, zqn, zqn, zq43, zq185, zq374, zq1079, zqn, zqn, zq278, zqn, zq0, zq1003, zqn],
  [zqn, zq541, zqn, zq281, zqn, zq134, zq185, zq0, zq1003, zqn, zqn, zq110, zq185, zq366, zq282, zqn],
  [zq105, zq145, zq203, zq1080, zqn, zqn, zq0, zq43, zq281, zqn, zq105, zq1081, zqn, zqn, zq1082, zq145],
  [zq203, zq1083, zqn, zqn, zq0, zq82, zq281, zqn, zq105, zq1077, zq1081, zqn, zqn, zq1084, zq82, zq105],
  [zq359, zq1085, zqn, zqn, zq134, zq281, zqn, zq359, zq1043, zqn, zqn, zq1081, zqn, zqn, zq0, zq271],
  [zqn, zq281, zqn, zq201, zqn, zq1081, zqn, zqn, zq0, zq1003, zqn, zqn, zq463, zqn, zq184, zq185],
  [zq0, zq1003, zqn, zqn, zq541, zqn, zq281, zqn, zq134, zq185, zq0, zq1003, zqn, zqn, zq110, zq185],
  [zq366, zq284, zqn, zq365, zq0, zq1003, zqn, zqn, zq54, zqn, zq281, zqn, zq134, zq185, zq191, zq365],
  [zq106, zq0, zq1003, zqn, zqn, zq423, zqn, zq184, zq185, zq105, zq145, zq203, zq299, zqn, zqn, zq105],
  [zq263, zqn, zqn, zq1086, zq1087, zq106, zq0, zq1003, zqn, zqn, zq666, zqn, zq184, zq185, zq105, zq145],
  [zq203, zq1076, zqn, zqn, zq105, zq1077, zq263, zqn, zqn, zq1088, zq1089, zq106, zq0, zq1003, zqn, zqn],
  [zq403, zqn, zq184, zq185, zq201, zqn, zq187, zq106, zq11]]
noncomputable def pq217 : List (List yEn) := [
  [zq0, zq74, zq1090, zqn, zq168, zq1091, zqn, zqn, zq67, zq43, zq69, zq43, zq102, zqn, zq172, zqn],
  [zq186, zq0, zq1003, zqn, zqn, zq1092, zqn, zqn, zq73, zq134, zq185, zq203, zq1093, zqn, zqn, zq0],
  [zq1003, zqn, zqn, zq1094, zqn, zqn, zq271, zqn, zq73, zq165, zq134, zq104, zqn, zq134, zq185, zq74],
  [zq1090, zqn, zq142, zq186, zq203, zq1095, zqn, zqn, zq0, zq1003, zqn, zqn, zq1096, zqn, zqn, zq271],
  [zqn, zq73, zq165, zq134, zq104, zqn, zq134, zq185, zq374, zq69, zq259, zqn, zqn, zq928, zqn, zqn],
  [zq655, zq127]]
noncomputable def pq218 : List (List yEn) := [
  [zq74, zq240, zqn, zqn, zq142, zq67, zq0, zq1003, zqn, zqn, zq1017, zqn, zqn, zq73, zq134, zq185],
  [zq1013, zqn, zqn, zq203, zq436, zqn, zqn, zq0, zq1003, zqn, zqn, zq1017, zqn, zqn, zq73, zq134],
  [zq185, zq374, zq127, zq128, zq1003, zqn, zqn, zq1097, zqn, zqn, zq246, zqn, zq0, zq73, zq1098, zqn],
  [zqn, zq165, zq134, zq74, zq246, zqn, zq142, zq134, zq185, zq374, zq127]]
noncomputable def pq219 : List (List yEn) := [
  [zq63, zq67, zq43, zq69, zq43, zq102, zqn, zq172, zqn, zq52, zq1099, zqn, zqn, zq0, zq1003, zqn],
  [zqn, zq1016, zqn, zqn, zq104, zqn, zq134, zq185, zq200, zqn, zq201, zqn, zq1013, zqn, zqn, zq203],
  [zq1100, zqn, zqn, zq1101, zqn, zqn, zq1102, zqn, zq74, zq186, zq203, zq1103, zqn, zqn, zq73, zq63],
  [zq256, zqn, zqn, zq201, zqn, zq0, zq1003, zqn, zqn, zq1016, zqn, zqn, zq73, zq134, zq185, zq203],
  [zq1104, zqn, zqn, zq1105, zqn, zq67, zq1102, zqn, zq0, zq1003, zqn, zqn, zq1016, zqn, zqn, zq71],
  [zq134, zq185, zq203, zq1104, zqn, zqn, zq104, zqn, zq69, zq259, zqn, zqn, zq1106, zqn, zqn, zq261],
  [zq63, zq262, zqn, zqn, zq71, zq263, zqn, zqn, zq264, zq265]]
noncomputable def pq220 : List (List yEn) := [
  [zq0, zq1003, zqn, zqn, zq541, zqn, zq110, zq74, zq165, zq134, zq73, zq134, zq184, zq185, zq359, zq187],
  [zq106, zq0, zq1003, zqn, zqn, zq541, zqn, zq110, zq74, zq165, zq134, zq52, zq134, zq184, zq185, zq359],
  [zq187, zq106, zq11]]
noncomputable def pq221 : List (List yEn) := [
  [zq202, zq145, zq203, zq1107, zqn, zqn, zq190, zq145, zq203, zq405, zqn, zqn, zq82, zq1108, zqn, zqn],
  [zq406, zq1109, zqn, zqn, zq207, zq145, zq203, zq405, zqn, zqn, zq178, zq263, zqn, zqn, zq407, zq265]]
noncomputable def pq222 : List (List yEn) := [
  [zq0, zq1003, zqn, zqn, zq1110, zqn, zq185, zq198, zq203, zq813, zqn, zqn, zq0, zq1003, zqn, zqn],
  [zq463, zqn, zq185, zq145, zq203, zq418, zqn, zqn, zq82, zq263, zqn, zqn, zq419, zq420, zq0, zq1003],
  [zqn, zqn, zq309, zqn, zq185, zq74, zq186, zq203, zq494, zqn, zqn, zq11, zq244, zq1003, zqn, zqn],
  [zq309, zqn, zq74, zq186, zq106, zq0, zq74, zq82, zq1111, zqn, zqn, zq423, zqn, zq331, zqn, zqn],
  [zq424, zqn, zq888, zq1112, zqn, zqn, zq11]]
noncomputable def pq223 : List (List yEn) := [
  [zq0, zq1003, zqn, zqn, zq56, zqn, zq185, zq1011, zqn, zqn, zq203, zq1113, zqn, zqn, zq138, zq102],
  [zqn, zq1052, zqn, zq114, zqn, zq931, zqn, zqn, zq0, zq1003, zqn, zqn, zq1114, zqn, zqn, zq104],
  [zqn, zq134, zq138, zq212, zq0, zq1003, zqn, zqn, zq1114, zqn, zqn, zq104, zqn, zq134, zq185, zq106],
  [zq179, zqn, zqn, zq1115, zqn, zqn, zq1116, zqn, zqn, zq138, zq0, zq1003, zqn, zqn, zq56, zqn],
  [zq185, zq1011, zqn, zqn, zq203, zq1117, zqn, zqn, zq0, zq1003, zqn, zqn, zq56, zqn, zq185, zq788],
  [zqn, zqn, zq1118, zqn, zqn, zq1119, zq165, zq134, zq102, zqn, zq0, zq1003, zqn, zqn, zq104, zqn],
  [zq0, zq1003, zqn, zqn, zq43, zq185, zq106, zq0, zq1003, zqn, zqn, zq104, zqn, zq82, zq134, zq74],
  [zq186, zq106, zq0, zq1003, zqn, zqn, zq104, zqn, zq178, zq134, zq190, zq106, zq0, zq1003, zqn, zqn],
  [zq56, zqn, zq184, zq185, zq198, zq187, zq106, zq11]]
noncomputable def pq224 : List (List yEn) := [
  [zq178, zq169, zq635, zq110, zq1120, zqn, zqn, zq74, zq178, zq1121, zqn, zqn, zq0, zq1122, zqn, zqn],
  [zq440, zqn, zqn, zq635, zq138, zq1121, zqn, zqn, zq0, zq1123, zqn, zqn, zq1124, zqn, zqn, zq244],
  [zq1125, zqn, zqn, zq1126, zq0, zq1003, zqn, zqn, zq1127, zqn, zq74, zq134, zq73, zq705, zqn, zqn],
  [zq0, zq1003, zqn, zqn, zq1127, zqn, zq74, zq134, zq185, zq198, zq187, zq263, zqn, zqn, zq1128, zq1129],
  [zq0, zq1003, zqn, zqn, zq1127, zqn, zq74, zq134, zq185, zq0, zq1003, zqn, zqn, zq246, zqn, zq185],
  [zq203, zq299, zqn, zqn, zq82, zq263, zqn, zqn, zq502, zq779, zq71, zq728, zqn, zqn, zq0, zq1003],
  [zqn, zqn, zq428, zqn, zq74, zq134, zq185, zq145, zq203, zq288, zqn, zqn, zq0, zq74, zq1130, zqn],
  [zqn, zq170, zq308, zqn, zqn, zq0, zq1003, zqn, zqn, zq428, zqn, zq74, zq134, zq185, zq198, zq203],
  [zq288, zqn, zqn, zq0, zq74, zq1131, zqn, zqn, zq1132, zqn, zqn, zq1133, zqn, zqn, zq419, zq169],
  [zq635, zq110, zq487, zqn, zqn, zq0, zq1003, zqn, zqn, zq991, zqn, zq74, zq134, zq184, zq185, zq0],
  [zq1003, zqn, zqn, zq428, zqn, zq74, zq134, zq185, zq187, zq106, zq620, zqn, zqn, zq206, zqn, zqn],
  [zq77]]
noncomputable def pq225 : List (List yEn) := [
  [zq43, zq169, zq43, zq67, zq43, zq69, zq208, zq0, zq1032, zqn, zqn, zq1134, zqn, zqn, zq0, zq1024],
  [zqn, zq71, zq1059, zqn, zqn, zq0, zq1003, zqn, zqn, zq178, zq185, zq0, zq1003, zqn, zqn, zq271],
  [zqn, zq185, zq191, zq203, zq285, zqn, zqn, zq82, zq263, zqn, zqn, zq1135, zq1136, zqn, zq74, zq288],
  [zqn, zqn, zq104, zqn, zq290, zqn, zqn, zq1137, zq263, zqn, zqn, zq1138, zq1139, zq73, zq288, zqn],
  [zqn, zq104, zqn, zq267, zqn, zqn, zq1140, zq263, zqn, zqn, zq1141, zq1142, zq107, zqn, zqn, zq1143],
  [zqn, zqn, zq539, zq157, zqn, zqn, zq73, zq290, zqn, zqn, zq82, zq263, zqn, zqn, zq143, zq265]]
noncomputable def pq226 : List (List yEn) := [
  [zq43, zq169, zq43, zq67, zq43, zq69, zq208, zq0, zq1032, zqn, zqn, zq914, zqn, zqn, zq74, zq1144],
  [zqn, zqn, zq0, zq71, zq1055, zqn, zqn, zq145, zq203, zq285, zqn, zqn, zq1145, zq263, zqn, zqn],
  [zq1146, zq1147, zq73, zq1144, zqn, zqn, zq0, zq71, zq1055, zqn, zqn, zq145, zq203, zq299, zqn, zqn],
  [zq1140, zq263, zqn, zqn, zq1141, zq1142, zq107, zqn, zqn, zq621, zqn, zqn, zq539, zq157, zqn, zqn],
  [zq73, zq290, zqn, zqn, zq82, zq263, zqn, zqn, zq143, zq265]]
noncomputable def pq227 : List (List yEn) := [
  [zq43, zq169, zq635, zq0, zq1032, zqn, zqn, zq791, zqn, zqn, zq0, zq1061, zqn, zqn, zq74, zq1059],
  [zqn, zqn, zq145, zq203, zq210, zqn, zqn, zq0, zq1024, zqn, zq74, zq1059, zqn, zqn, zq145, zq203],
  [zq342, zqn, zqn, zq82, zq127, zq1132, zqn, zqn, zq1148, zqn, zqn, zq143, zq127]]
noncomputable def pq228 : List (List yEn) := [
  [zq0, zq1003, zqn, zqn, zq428, zqn, zq74, zq134, zq198, zq106, zq0, zq1003, zqn, zqn, zq1149, zqn],
  [zq74, zq134, zq184, zq185, zq198, zq187, zq106, zq0, zq74, zq145, zq1112, zqn, zqn, zq11]]
noncomputable def pq229 : List (List yEn) := [
  [zq0, zq1003, zqn, zqn, zq428, zqn, zq74, zq134, zq145, zq106, zq0, zq463, zqn, zq74, zq134, zq145],
  [zq1112, zqn, zqn, zq11]]
noncomputable def pq230 : List (List yEn) := [
  [zq0, zq1003, zqn, zqn, zq1150, zqn, zq184, zq185, zq0, zq1151, zqn, zqn, zq1152, zq106, zq0, zq1003],
  [zqn, zqn, zq43, zq185, zq1153, zqn, zqn, zq203, zq494, zqn, zqn, zq11, zq136, zq1003, zqn, zqn],
  [zq43, zq184, zq185, zq198, zq187, zq106, zq0, zq1003, zqn, zqn, zq43, zq185, zq0, zq1003, zqn, zqn],
  [zq47, zqn, zq185, zq877, zq145, zq203, zq288, zqn, zqn, zq0, zq145, zq1154, zqn, zqn, zq77]]
noncomputable def pq231 : List (List yEn) := [
  [zq145, zq905, zq43, zq69, zq678, zq110, zq1155, zqn, zqn, zq105, zq0, zq1003, zqn, zqn, zq428, zqn],
  [zq71, zq134, zq185, zq71, zq199, zq1152, zq905, zq107, zqn, zqn, zq1156, zqn, zqn, zq909, zq194]]
noncomputable def pq232 : List (List yEn) := [
  [zq0, zq1003, zqn, zqn, zq195, zqn, zq185, zq0, zq1003, zqn, zqn, zq1157, zqn, zq185, zq187, zq145],
  [zq203, zq288, zqn, zqn, zq0, zq1158, zqn, zqn, zq11, zq244, zq1003, zqn, zqn, zq1150, zqn, zq185],
  [zq0, zq1003, zqn, zqn, zq1157, zqn, zq185, zq145, zq203, zq482, zqn, zqn, zq483, zqn, zq263, zqn],
  [zqn, zq1159, zq1160, zq1152, zq105, zq1152, zq0, zq1003, zqn, zqn, zq739, zqn, zq185, zq198, zq203, zq728],
  [zqn, zqn, zq0, zq1003, zqn, zqn, zq43, zq185, zq0, zq1003, zqn, zqn, zq47, zqn, zq185, zq877],
  [zq145, zq203, zq1023, zqn, zqn, zq1161, zqn, zqn, zq263, zqn, zqn, zq1159, zq1160, zq1152, zq353, zq0],
  [zq1003, zqn, zqn, zq1162, zqn, zq185, zq1163, zqn, zqn, zq203, zq1164, zqn, zqn, zq43, zq174, zqn],
  [zq525, zqn, zq52, zq748, zqn, zqn, zq0, zq1003, zqn, zqn, zq1165, zqn, zqn, zq175, zqn, zq134],
  [zq184, zq185, zq0, zq43, zq82, zq175, zqn, zq134, zq1166, zqn, zqn, zq187, zq106, zq514, zqn, zqn],
  [zq933, zqn, zqn, zq1167, zqn, zq174, zqn, zq525, zqn, zq89, zqn, zqn, zq1168, zqn, zqn, zq0],
  [zq1003, zqn, zqn, zq1169, zqn, zqn, zq175, zqn, zq134, zq271, zqn, zq212, zq0, zq1003, zqn, zqn],
  [zq1169, zqn, zqn, zq175, zqn, zq134, zq185, zq106, zq514, zqn, zqn, zq1170, zqn, zqn, zq1171, zqn],
  [zqn, zq271, zqn, zq0, zq1172, zqn, zqn, zq486, zqn, zq1173, zqn, zqn, zq0, zq1172, zqn, zqn],
  [zq331, zqn, zqn, zq1174, zqn, zq1175, zq134, zq174, zqn, zq0, zq1003, zqn, zqn, zq1162, zqn, zq184],
  [zq185, zq198, zq187, zq106, zq0, zq1003, zqn, zqn, zq175, zqn, zq0, zq1003, zqn, zqn, zq43, zq185],
  [zq106, zq0, zq1003, zqn, zqn, zq175, zqn, zq82, zq134, zq0, zq1003, zqn, zqn, zq423, zqn, zq185],
  [zq106, zq0, zq1003, zqn, zqn, zq175, zqn, zq178, zq134, zq0, zq1003, zqn, zqn, zq666, zqn, zq185],
  [zq106, zq0, zq1003, zqn, zqn, zq175, zqn, zq138, zq134, zq0, zq1003, zqn, zqn, zq403, zqn, zq185],
  [zq106, zq0, zq1003, zqn, zqn, zq175, zqn, zq52, zq134, zq0, zq1003, zqn, zqn, zq195, zqn, zq185],
  [zq106, zq0, zq1003, zqn, zqn, zq175, zqn, zq110, zq134, zq359, zq106, zq0, zq1158, zqn, zqn, zq105],
  [zq145, zq203, zq267, zqn, zqn, zq0, zq1176, zqn, zqn, zq77]]
noncomputable def pq233 : List (List yEn) := [
  [zq423, zqn, zq169, zq635, zq1150, zqn, zq787, zqn, zqn, zq0, zq1003, zqn, zqn, zq74, zq145, zq106],
  [zq620, zqn, zqn, zq1177, zqn, zqn, zq136, zq1003, zqn, zqn, zq739, zqn, zq0, zq1003, zqn, zqn],
  [zq43, zq185, zq0, zq1003, zqn, zqn, zq47, zqn, zq185, zq877, zq145, zq203, zq267, zqn, zqn, zq145],
  [zq263, zqn, zqn, zq880, zq1178, zq11]]
noncomputable def pq234 : List (List yEn) := [
  [zq0, zq1003, zqn, zqn, zq1169, zqn, zqn, zq271, zqn, zq74, zq165, zq134, zq73, zq134, zq185, zq194]]
noncomputable def pq235 : List (List yEn) := [
  [zq0, zq1003, zqn, zqn, zq1162, zqn, zq185, zq1163, zqn, zqn, zq203, zq1117, zqn, zqn, zq0, zq1003],
  [zqn, zqn, zq1162, zqn, zq185, zq788, zqn, zqn, zq1179, zqn, zqn, zq1180, zq127]]
noncomputable def pq236 : List (List yEn) := [
  [zq0, zq1172, zqn, zqn, zq169, zq74, zq186, zq0, zq1003, zqn, zqn, zq1009, zqn, zq185, zq203, zq1181],
  [zqn, zqn, zq11, zq524, zq188, zq43, zq102, zqn, zq1052, zqn, zq186, zq0, zq1003, zqn, zqn, zq1009],
  [zqn, zq185, zq203, zq1182, zqn, zqn, zq74, zq82, zq212, zq104, zqn, zq212, zq174, zqn, zq0, zq175],
  [zqn, zq110, zq1166, zqn, zqn, zq1183, zqn, zqn, zq505, zq145, zq203, zq468, zqn, zqn, zq104, zqn],
  [zq1184, zqn, zqn, zq0, zq175, zqn, zq82, zq134, zq43, zq1166, zqn, zqn, zq0, zq1003, zqn, zqn],
  [zq47, zqn, zq185, zq365, zq0, zq175, zqn, zq43, zq1166, zqn, zqn, zq203, zq386, zqn, zqn, zq77],
  [zq1185, zq0, zq175, zqn, zq82, zq1166, zqn, zqn, zq187, zq188, zq179, zqn, zqn, zq1106, zqn, zqn],
  [zq730, zq1003, zqn, zqn, zq1012, zqn, zq190, zq106, zq0, zq1003, zqn, zqn, zq554, zqn, zq0, zq1003],
  [zqn, zqn, zq43, zq185, zq106, zq0, zq0, zq1003, zqn, zqn, zq43, zq185, zq374, zq82, zq212, zq1079],
  [zqn, zqn, zq102, zqn, zq190, zq0, zq1003, zqn, zqn, zq483, zqn, zq104, zqn, zq134, zq185, zq203],
  [zq1186, zqn, zqn, zq11, zq235, zq1003, zqn, zqn, zq483, zqn, zq104, zqn, zq134, zq190, zq106, zq0],
  [zq1003, zqn, zqn, zq1014, zqn, zq104, zqn, zq134, zq0, zq1003, zqn, zqn, zq43, zq185, zq106, zq11]]
noncomputable def pq237 : List (List yEn) := [
  [zq74, zq63, zq1187, zqn, zqn, zq74, zq186, zq145, zq0, zq1032, zqn, zqn, zq82, zq212, zq186, zq1020],
  [zqn, zqn, zq267, zqn, zqn, zq1188, zqn, zqn, zq194, zq531, zq63, zq262, zqn, zqn, zq82, zq263],
  [zqn, zqn, zq502, zq779, zq71, zq157, zqn, zqn, zq0, zq43, zq1039, zqn, zqn, zq1038, zqn, zqn],
  [zq323, zq74, zq1055, zqn, zqn, zq1189, zqn, zq71, zq157, zqn, zqn, zq0, zq82, zq1039, zqn, zqn],
  [zq1038, zqn, zqn, zq254, zq74, zq1058, zqn, zqn, zq1190, zqn, zq192, zqn, zq192, zqn, zq191, zq371],
  [zqn, zq371, zqn, zq191, zq187, zq1042, zqn, zqn, zq282, zqn, zq73, zq1191, zqn, zqn, zqn, zqn],
  [zqn, zqn, zqn, zqn, zqn, zqn, zqn, zqn, zqn, zqn, zqn, zqn, zqn, zqn, zqn, zqn],
  [zqn, zqn, zqn, zqn, zqn, zqn, zqn, zqn, zqn, zqn, zqn, zqn, zqn, zqn, zqn, zqn],
  [zqn, zqn, zqn, zqn, zqn, zqn, zqn, zqn, zqn, zqn, zqn, zqn, zq879, zqn, zq194, zq919],
  [zqn, zq194, zq678, zq157, zqn, zqn, zq0, zq178, zq1039, zqn, zqn, zq376, zqn, zqn, zq244, zq1024],
  [zqn, zq74, zq1059, zqn, zqn, zq790, zq678, zq157, zqn, zqn, zq0, zq138, zq1039, zqn, zqn, zq1046],
  [zqn, zqn, zq244, zq1061, zqn, zqn, zq74, zq1059, zqn, zqn, zq790, zq1192, zqn, zq194, zq1193, zqn],
  [zq371, zqn, zq1085, zqn, zqn, zq186, zq194, zq678, zq476, zqn, zqn, zq0, zq1024, zqn, zq1194, zqn],
  [zqn, zq440, zqn, zqn, zq244, zq1024, zqn, zq74, zq1059, zqn, zqn, zq0, zq1064, zqn, zqn, zq186],
  [zq366, zq1042, zqn, zqn, zq790, zq678, zq132, zqn, zqn, zq0, zq1061, zqn, zqn, zq1194, zqn, zqn],
  [zq1195, zqn, zqn, zq244, zq1061, zqn, zqn, zq74, zq1059, zqn, zqn, zq0, zq1064, zqn, zqn, zq186],
  [zq366, zq1042, zqn, zqn, zq790, zq1196, zqn, zq284, zqn, zq1197, zqn, zqn, zq194, zq1198, zqn, zqn],
  [zq194]]
noncomputable def pq238 : List (List yEn) := [
  [zq145, zq188, zq43, zq102, zqn, zq1052, zqn, zq0, zq1032, zqn, zqn, zq679, zqn, zqn, zq0, zq74],
  [zq104, zqn, zq1059, zqn, zqn, zq0, zq1064, zqn, zqn, zq186, zq366, zq1042, zqn, zqn, zq200, zqn],
  [zq201, zqn, zq190, zq203, zq482, zqn, zqn, zq201, zqn, zq263, zqn, zqn, zq1199, zq1200, zq179, zqn],
  [zqn, zq1201, zqn, zqn, zq207, zq194]]
noncomputable def pq239 : List (List yEn) := [
  [zq190, zq145, zq203, zq267, zqn, zqn, zq145, zq460, zqn, zqn, zq1202, zq145, zq203, zq1203, zqn, zqn],
  [zq1005, zqn, zqn, zq202, zq1077, zq191, zq190, zq366, zq1077, zq376, zqn, zqn, zq1204, zqn, zqn, zq202],
  [zq191, zq190, zq366, zq790]]
noncomputable def pq240 : List (List yEn) := [
  [zq0, zq1018, zqn, zqn, zq1205, zqn, zqn, zq74, zq1206, zqn, zqn, zq728, zqn, zqn, zq73, zq186],
  [zq145, zq1207, zqn, zqn, zq1020, zqn, zqn, zq341, zqn, zqn, zq71, zq1208, zqn, zqn, zq342, zqn],
  [zqn, zq155, zq127, zq323, zq74, zq73, zq71, zq1209, zqn, zqn, zq127]]
noncomputable def pq241 : List (List yEn) := [
  [zq547, zq186, zq145, zq1210, zqn, zqn, zq1020, zqn, zqn, zq127]]
noncomputable def pq242 : List (List yEn) := [
  [zq547, zq186, zq145, zq1007, zqn, zqn, zq1020, zqn, zqn, zq127]]
noncomputable def pq243 : List (List yEn) := [
  [zq271, zqn, zq74, zq165, zq102, zqn, zq0, zq1003, zqn, zqn, zq1092, zqn, zqn, zq74, zq134, zq185],
  [zq374, zq174, zqn, zq43, zq277, zqn, zq431, zqn, zq175, zqn, zq1211, zqn, zqn, zq0, zq1003, zqn],
  [zqn, zq1094, zqn, zqn, zq104, zqn, zq134, zq306, zqn, zq134, zq185, zq73, zq186, zq203, zq1212, zqn],
  [zqn, zq1213, zqn, zqn, zq490, zqn, zqn, zq431, zqn, zq175, zqn, zq1214, zqn, zqn, zq0, zq1003],
  [zqn, zqn, zq1094, zqn, zqn, zq104, zqn, zq134, zq306, zqn, zq134, zq185, zq73, zq186, zq203, zq267],
  [zqn, zqn, zq82, zq263, zqn, zqn, zq1215, zq1216, zqn, zq281, zqn, zq1054, zqn, zqn, zq175, zqn],
  [zq271, zqn, zq249, zqn, zqn, zq63, zq127, zq1217, zqn, zq400, zqn, zq1218, zqn, zq306, zqn, zq1219],
  [zqn, zqn, zq281, zqn, zq1220, zqn, zqn, zq0, zq1003, zqn, zqn, zq1094, zqn, zqn, zq104, zqn],
  [zq134, zq401, zqn, zq134, zq0, zq1003, zqn, zqn, zq1094, zqn, zqn, zq104, zqn, zq134, zq401, zqn],
  [zq134, zq82, zq212, zq185, zq106, zq0, zq1003, zqn, zqn, zq1096, zqn, zqn, zq104, zqn, zq134, zq401],
  [zqn, zq134, zq0, zq1003, zqn, zqn, zq1096, zqn, zqn, zq104, zqn, zq134, zq401, zqn, zq134, zq82],
  [zq212, zq185, zq106, zq1221, zqn, zqn, zq1222, zqn, zqn, zq1223, zq1003, zqn, zqn, zq1094, zqn, zqn],
  [zq104, zqn, zq134, zq306, zqn, zq134, zq73, zq186, zq106, zq0, zq1003, zqn, zqn, zq1096, zqn, zqn],
  [zq104, zqn, zq134, zq306, zqn, zq134, zq71, zq186, zq106, zq0, zq1003, zqn, zqn, zq1092, zqn, zqn],
  [zq74, zq134, zq184, zq185, zq281, zqn, zq290, zqn, zqn, zq145, zq263, zqn, zqn, zq1224, zq1225, zq106],
  [zq0, zq1003, zqn, zqn, zq1092, zqn, zqn, zq74, zq134, zq185, zq374, zq127]]
noncomputable def pq244 : List (List yEn) := [
  [zq0, zq1018, zqn, zqn, zq297, zqn, zqn, zq74, zq1206, zqn, zqn, zq342, zqn, zqn, zq155, zq127],
  [zq244, zq1003, zqn, zqn, zq1092, zqn, zqn, zq74, zq134, zq185, zq374, zq67, zq0, zq1003, zqn, zqn],
  [zq1092, zqn, zqn, zq74, zq134, zq145, zq106, zq73, zq127]]
noncomputable def pq245 : List (List yEn) := [
  [zq0, zq1018, zqn, zqn, zq615, zqn, zqn, zq74, zq1226, zqn, zqn, zq345, zqn, zqn, zq73, zq186],
  [zq74, zq267, zqn, zqn, zq145, zq788, zqn, zqn, zq1227, zqn, zqn, zq1228, zqn, zqn, zq1020, zqn],
  [zqn, zq342, zqn, zqn, zq143, zq127, zq128, zq1003, zqn, zqn, zq1016, zqn, zqn, zq74, zq134, zq73],
  [zq186, zq106, zq82, zq127]]
noncomputable def pq246 : List (List yEn) := [
  [zq547, zq186, zq145, zq1007, zqn, zqn, zq1020, zqn, zqn, zq127]]
noncomputable def pq247 : List (List yEn) := [
  [zq0, zq1018, zqn, zqn, zq1205, zqn, zqn, zq74, zq1226, zqn, zqn, zq728, zqn, zqn, zq73, zq186],
  [zq145, zq1229, zqn, zqn, zq1020, zqn, zqn, zq341, zqn, zqn, zq71, zq1206, zqn, zqn, zq342, zqn],
  [zqn, zq143, zq127, zq323, zq1003, zqn, zqn, zq1097, zqn, zqn, zq246, zqn, zq74, zq165, zq134, zq73],
  [zq134, zq71, zq186, zq106, zq82, zq127]]
noncomputable def pq248 : List (List yEn) := [
  [zq0, zq1018, zqn, zqn, zq1230, zqn, zqn, zq74, zq186, zq145, zq1231, zqn, zqn, zq1020, zqn, zqn],
  [zq436, zqn, zqn, zq73, zq63, zq1232, zqn, zqn, zq73, zq1206, zqn, zqn, zq342, zqn, zqn, zq143],
  [zq127, zq128, zq1003, zqn, zqn, zq1017, zqn, zqn, zq74, zq134, zq185, zq1013, zqn, zqn, zq203, zq290],
  [zqn, zqn, zq82, zq263, zqn, zqn, zq502, zq779, zq73, zq63, zq1121, zqn, zqn, zq71, zq358, zqn],
  [zqn, zq268, zqn, zqn, zq208, zq698, zqn, zqn, zq0, zq1233, zqn, zqn, zq56, zqn, zq249, zqn],
  [zqn, zq143, zq127, zq128, zq1003, zqn, zqn, zq1017, zqn, zqn, zq74, zq134, zq73, zq186, zq106, zq82],
  [zq127]]
noncomputable def pq249 : List (List yEn) := [
  [zq43, zq169, zq43, zq67, zq170, zq240, zqn, zqn, zq1168, zqn, zqn, zq74, zq0, zq1003, zqn, zqn],
  [zq1017, zqn, zqn, zq73, zq134, zq185, zq1013, zqn, zqn, zq203, zq267, zqn, zqn, zq43, zq263, zqn],
  [zqn, zq1234, zq1235, zq169, zq75, zqn, zqn, zq623, zqn, zqn, zq602, zq127]]
noncomputable def pq250 : List (List yEn) := [
  [zq74, zq186, zq145, zq1153, zqn, zqn, zq1020, zqn, zqn, zq157, zqn, zqn, zq0, zq74, zq1079, zqn],
  [zqn, zq263, zqn, zqn, zq155, zq265]]
noncomputable def pq251 : List (List yEn) := [
  [zq74, zq186, zq145, zq1236, zqn, zqn, zq1020, zqn, zqn, zq157, zqn, zqn, zq0, zq74, zq1091, zqn],
  [zqn, zq263, zqn, zqn, zq155, zq265]]
noncomputable def pq252 : List (List yEn) := [
  [zq74, zq1206, zqn, zqn, zq342, zqn, zqn, zq63, zq127, zq70, zq63, zq652, zqn, zqn, zq0, zq1003],
  [zqn, zqn, zq1092, zqn, zqn, zq74, zq134, zq185, zq374, zq127, zq70, zq186, zq145, zq0, zq1003, zqn],
  [zqn, zq1092, zqn, zqn, zq74, zq134, zq185, zq198, zq365, zq1020, zqn, zqn, zq132, zqn, zqn, zq71],
  [zq186, zq145, zq198, zq1020, zqn, zqn, zq342, zqn, zqn, zq155, zq127, zq323, zq1003, zqn, zqn, zq71],
  [zq1237, zqn, zqn, zq1094, zqn, zqn, zq788, zqn, zqn, zq1238, zqn, zqn, zq1239, zqn, zq74, zq165],
  [zq134, zq73, zq134, zq185, zq374, zq127]]
noncomputable def pq253 : List (List yEn) := [
  [zq74, zq186, zq145, zq1236, zqn, zqn, zq1020, zqn, zqn, zq341, zqn, zqn, zq73, zq1208, zqn, zqn],
  [zq342, zqn, zqn, zq155, zq127, zq128, zq74, zq1091, zqn, zqn, zq69, zq0, zq1003, zqn, zqn, zq1092],
  [zqn, zqn, zq71, zq134, zq185, zq374, zq102, zqn, zq43, zq174, zqn, zq43, zq277, zqn, zq43, zq278],
  [zqn, zq43, zq400, zqn, zq1240, zqn, zq104, zqn, zq1241, zqn, zqn, zq401, zqn, zq104, zqn, zq1155],
  [zqn, zqn, zq0, zq1003, zqn, zqn, zq1094, zqn, zqn, zq271, zqn, zq71, zq165, zq134, zq401, zqn],
  [zq134, zq185, zq374, zq331, zqn, zqn, zq1242, zqn, zq1243, zqn, zq175, zqn, zq306, zqn, zq73, zq1244],
  [zqn, zqn, zq917, zqn, zq281, zqn, zq212, zq263, zqn, zqn, zq1245, zq1246, zq174, zqn, zq917, zqn],
  [zq278, zqn, zq401, zqn, zq104, zqn, zq272, zqn, zqn, zq0, zq1003, zqn, zqn, zq1096, zqn, zqn],
  [zq271, zqn, zq71, zq165, zq134, zq401, zqn, zq134, zq185, zq374, zq277, zqn, zq1247, zqn, zqn, zq1248],
  [zqn, zqn, zq1249, zqn, zq127]]
noncomputable def pq254 : List (List yEn) := [
  [zq0, zq1250, zqn, zqn, zq67, zq73, zq63, zq262, zqn, zqn, zq63, zq1251, zqn, zqn, zq531, zq267],
  [zqn, zqn, zq73, zq857, zqn, zqn, zq531, zq82, zq1244, zqn, zqn, zq0, zq73, zq1079, zqn, zqn],
  [zq263, zqn, zqn, zq155, zq265]]
noncomputable def pq255 : List (List yEn) := [
  [zq0, zq1003, zqn, zqn, zq43, zq185, zq374, zq1090, zqn, zq168, zq169, zq74, zq67, zq170, zq74, zq552],
  [zqn, zq134, zq1252, zqn, zqn, zq73, zq186, zq1253, zqn, zqn, zq191, zq1153, zqn, zqn, zq203, zq530],
  [zqn, zqn, zq63, zq127, zq128, zq73, zq1091, zqn, zqn, zq69, zq63, zq102, zqn, zq172, zqn, zq186],
  [zq0, zq1003, zqn, zqn, zq1092, zqn, zqn, zq71, zq134, zq185, zq203, zq1254, zqn, zqn, zq73, zq186],
  [zq1253, zqn, zqn, zq191, zq104, zqn, zq285, zqn, zqn, zq145, zq440, zqn, zqn, zq254, zq1003, zqn],
  [zqn, zq1094, zqn, zqn, zq271, zqn, zq71, zq165, zq134, zq104, zqn, zq134, zq185, zq1255, zq200, zqn],
  [zq201, zqn, zq0, zq1003, zqn, zqn, zq43, zq185, zq203, zq1256, zqn, zqn, zq201, zqn, zq1153, zqn],
  [zqn, zq203, zq1257, zqn, zqn, zq0, zq201, zqn, zq374, zq1079, zqn, zqn, zq0, zq201, zqn, zq374],
  [zq82, zq212, zq1079, zqn, zqn, zq685, zqn, zqn, zq201, zqn, zq374, zq127, zq259, zqn, zqn, zq1258],
  [zqn, zqn, zq181, zqn, zqn, zq1259, zqn, zqn, zq155, zq127]]
noncomputable def pq256 : List (List yEn) := [
  [zq0, zq1260, zqn, zqn, zq554, zqn, zq134, zq116, zqn, zqn, zq154, zqn, zqn, zq63, zq127, zq569],
  [zq74, zq1261, zqn, zqn, zq0, zq73, zq1261, zqn, zqn, zq0, zq71, zq1261, zqn, zqn, zq0, zq104],
  [zqn, zq1261, zqn, zqn, zq0, zq175, zqn, zq1261, zqn, zqn, zq0, zq1260, zqn, zqn, zq127]]
noncomputable def pq257 : List (List yEn) := [
  [zq403, zqn, zq67, zq170, zq1262, zqn, zqn, zq0, zq1263, zqn, zqn, zq0, zq1260, zqn, zqn, zq74],
  [zq73, zq586, zq1264, zq1265, zq0, zq3, zq1260, zqn, zqn, zq82, zq134, zq1266, zqn, zqn, zq589, zqn],
  [zqn, zq490, zqn, zqn, zq77]]
noncomputable def pq258 : List (List yEn) := [
  [zq74, zq186, zq145, zq0, zq1260, zqn, zqn, zq186, zq1020, zqn, zqn, zq342, zqn, zqn, zq43, zq127],
  [zq244, zq74, zq1266, zqn, zqn, zq82, zq127]]
noncomputable def pq259 : List (List yEn) := [
  [zq74, zq297, zqn, zqn, zq0, zq1267, zqn, zqn, zq268, zqn, zqn, zq635, zq82, zq1121, zqn, zqn],
  [zq0, zq1268, zqn, zqn, zq263, zqn, zqn, zq155, zq265]]
noncomputable def pq260 : List (List yEn) := [
  [zq0, zq43, zq1269, zqn, zqn, zq0, zq63, zq999, zqn, zqn, zq0, zq1018, zqn, zqn, zq341, zqn],
  [zqn, zq0, zq43, zq1266, zqn, zqn, zq63, zq127, zq136, zq1003, zqn, zqn, zq0, zq1270, zqn, zqn],
  [zq1271, zqn, zqn, zq0, zq43, zq1272, zqn, zqn, zq0, zq43, zq1273, zqn, zqn, zq0, zq1274, zqn],
  [zqn, zq43, zq169, zq0, zq1275, zqn, zqn, zq244, zq1276, zqn, zqn, zq0, zq1260, zqn, zqn, zq1277],
  [zqn, zqn, zq0, zq1278, zqn, zqn, zq725, zqn, zqn, zq0, zq1279, zqn, zqn, zq620, zqn, zqn],
  [zq0, zq1275, zqn, zqn, zq206, zqn, zqn, zq244, zq43, zq1266, zqn, zqn, zq0, zq1278, zqn, zqn],
  [zq342, zqn, zqn, zq74, zq127, zq136, zq1270, zqn, zqn, zq0, zq1003, zqn, zqn, zq1271, zqn, zqn],
  [zq63, zq127]]
noncomputable def pq261 : List (List yEn) := [
  [zq43, zq67, zq170, zq993, zqn, zqn, zq1280, zqn, zqn, zq492, zq73, zq0, zq73, zq185, zq106, zq75],
  [zqn, zqn, zq1177, zqn, zqn, zq77]]
noncomputable def pq262 : List (List yEn) := [
  [zq43, zq169, zq635, zq47, zqn, zq1214, zqn, zqn, zq0, zq1003, zqn, zqn, zq1092, zqn, zqn, zq74],
  [zq134, zq145, zq106, zq0, zq1281, zqn, zqn, zq74, zq43, zq1265, zq620, zqn, zqn, zq275, zqn, zqn],
  [zq419, zq169, zq635, zq52, zq1067, zqn, zqn, zq0, zq1003, zqn, zqn, zq1016, zqn, zqn, zq74, zq134],
  [zq74, zq267, zqn, zqn, zq145, zq788, zqn, zqn, zq1282, zqn, zqn, zq1283, zq0, zq1284, zqn, zqn],
  [zq74, zq43, zq1265, zq620, zqn, zqn, zq1170, zqn, zqn, zq419, zq169, zq635, zq54, zqn, zq906, zqn],
  [zqn, zq0, zq1003, zqn, zqn, zq1097, zqn, zqn, zq74, zq134, zq145, zq106, zq620, zqn, zqn, zq213],
  [zqn, zqn, zq419, zq169, zq635, zq240, zqn, zqn, zq272, zqn, zqn, zq0, zq1003, zqn, zqn, zq1017],
  [zqn, zqn, zq74, zq134, zq1013, zqn, zqn, zq106, zq620, zqn, zqn, zq250, zqn, zqn, zq136, zq43],
  [zq1285, zqn, zqn, zq0, zq43, zq1286, zqn, zqn, zq11]]
noncomputable def pq263 : List (List yEn) := [
  [zq136, zq1276, zqn, zqn, zq0, zq1260, zqn, zqn, zq487, zqn, zqn, zq0, zq1263, zqn, zqn, zq0],
  [zq1276, zqn, zqn, zq1287, zq483, zqn, zq622, zqn, zqn, zq0, zq3, zq1276, zqn, zqn, zq82, zq134],
  [zq1273, zqn, zqn, zq623, zqn, zqn, zq77]]
noncomputable def pq264 : List (List yEn) := [
  [zq0, zq1276, zqn, zqn, zq169, zq0, zq1288, zqn, zqn, zq67, zq73, zq1237, zqn, zqn, zq0, zq82],
  [zq74, zq1289, zqn, zqn, zq170, zq138, zq955, zqn, zqn, zq0, zq1290, zqn, zqn, zq56, zqn, zq973],
  [zqn, zqn, zq0, zq52, zq74, zq1289, zqn, zqn, zq170, zq52, zq622, zqn, zqn, zq0, zq1291, zqn],
  [zqn, zq1023, zqn, zqn, zq0, zq138, zq74, zq1289, zqn, zqn, zq730, zq0, zq1292, zqn, zqn, zq1273],
  [zqn, zqn, zq0, zq1278, zqn, zqn, zq386, zqn, zqn, zq11, zq1293, zq82, zq262, zqn, zqn, zq0],
  [zq1294, zqn, zqn, zq1293, zq178, zq262, zqn, zqn, zq0, zq1295, zqn, zqn, zq1293, zq138, zq845, zqn],
  [zqn, zq0, zq3, zq1290, zqn, zqn, zq82, zq134, zq1285, zqn, zqn, zq0, zq1296, zqn, zqn, zq1293],
  [zq52, zq1297, zqn, zqn, zq0, zq82, zq1286, zqn, zqn, zq43, zq69, zq1025, zq52, zq1298, zqn, zqn],
  [zq0, zq1003, zqn, zqn, zq54, zqn, zq71, zq134, zq0, zq43, zq688, zqn, zq1299, zqn, zqn, zq186],
  [zq106, zq107, zqn, zqn, zq1300, zqn, zqn, zq136, zq618, zqn, zq1301, zqn, zqn, zq11]]
noncomputable def pq265 : List (List yEn) := [
  [zq0, zq110, zq1302, zqn, zq637, zqn, zq1303, zqn, zq1304, zqn, zq1305, zqn, zq43, zq43, zq1306, zqn],
  [zqn, zq126, zqn, zqn, zq82, zq127, zq136, zq271, zqn, zq1307, zqn, zq1305, zqn, zq637, zqn, zq1307],
  [zqn, zq1308, zqn, zq1309, zqn, zq43, zq1306, zqn, zqn, zq126, zqn, zqn, zq178, zq127, zq136, zq246],
  [zqn, zq1307, zqn, zq1310, zqn, zq1305, zqn, zq1311, zqn, zq823, zqn, zq637, zqn, zq1304, zqn, zq1306],
  [zqn, zqn, zq126, zqn, zqn, zq138, zq127, zq136, zq110, zq1310, zqn, zq1312, zqn, zq823, zqn, zq1311],
  [zqn, zq1305, zqn, zq43, zq43, zq1306, zqn, zqn, zq290, zqn, zqn, zq52, zq263, zqn, zqn, zq143],
  [zq265]]
noncomputable def pq266 : List (List yEn) := [
  [zq0, zq1292, zqn, zqn, zq0, zq1276, zqn, zqn, zq74, zq134, zq1313, zqn, zqn, zq0, zq1263, zqn],
  [zqn, zq0, zq1276, zqn, zqn, zq1287, zq73, zq1314, zqn, zqn, zq0, zq1263, zqn, zqn, zq0, zq1276],
  [zqn, zqn, zq82, zq134, zq1287, zq71, zq1315, zqn, zqn, zq0, zq1263, zqn, zqn, zq0, zq1276, zqn],
  [zqn, zq178, zq134, zq1287, zq104, zqn, zq1316, zqn, zqn, zq0, zq1263, zqn, zqn, zq0, zq1276, zqn],
  [zqn, zq138, zq134, zq1287, zq175, zqn, zq708, zqn, zqn, zq0, zq1263, zqn, zqn, zq0, zq1276, zqn],
  [zqn, zq52, zq134, zq1287, zq306, zqn, zq643, zqn, zqn, zq143, zq127, zq1317, zq271, zqn, zq1318, zqn],
  [zqn, zq0, zq1263, zqn, zqn, zq0, zq1276, zqn, zqn, zq110, zq134, zq1287, zq281, zqn, zq1319, zqn],
  [zqn, zq1320, zq246, zqn, zq638, zqn, zqn, zq0, zq1263, zqn, zqn, zq0, zq1276, zqn, zqn, zq271],
  [zqn, zq134, zq1287, zq401, zqn, zq262, zqn, zqn, zq509, zq263, zqn, zqn, zq143, zq265]]
noncomputable def pq267 : List (List yEn) := [
  [zq0, zq1276, zqn, zqn, zq169, zq635, zq0, zq1260, zqn, zqn, zq932, zqn, zqn, zq0, zq1263, zqn],
  [zqn, zq74, zq1287, zq186, zq1321, zqn, zqn, zq1322, zqn, zqn, zq1020, zqn, zqn, zq1023, zqn, zqn],
  [zq620, zqn, zqn, zq490, zqn, zqn, zq602, zq127]]
noncomputable def pq268 : List (List yEn) := [
  [zq0, zq1278, zqn, zqn, zq386, zqn, zqn, zq11, zq128, zq82, zq1272, zqn, zqn, zq0, zq74, zq1269],
  [zqn, zqn, zq0, zq73, zq999, zqn, zqn, zq11]]
noncomputable def pq269 : List (List yEn) := [
  [zq0, zq43, zq246, zqn, zq1299, zqn, zqn, zq169, zq0, zq1278, zqn, zqn, zq358, zqn, zqn, zq0],
  [zq1281, zqn, zqn, zq74, zq1287, zq476, zqn, zqn, zq0, zq138, zq0, zq1323, zqn, zqn, zq1289, zqn],
  [zqn, zq244, zq1281, zqn, zqn, zq74, zq82, zq1265, zq244, zq1278, zqn, zqn, zq1324, zqn, zqn, zq0],
  [zq1325, zqn, zqn, zq1326, zqn, zqn, zq0, zq43, zq666, zqn, zq1299, zqn, zqn, zq67, zq0, zq1278],
  [zqn, zqn, zq1205, zqn, zqn, zq0, zq1003, zqn, zqn, zq1092, zqn, zqn, zq74, zq134, zq185, zq1229],
  [zqn, zqn, zq203, zq1054, zqn, zqn, zq0, zq52, zq0, zq1323, zqn, zqn, zq1289, zqn, zqn, zq128],
  [zq668, zqn, zq1301, zqn, zqn, zq0, zq43, zq618, zqn, zq1299, zqn, zqn, zq69, zq546, zqn, zqn],
  [zq73, zq165, zq541, zqn, zq71, zq165, zq134, zq102, zqn, zq0, zq1278, zqn, zqn, zq308, zqn, zqn],
  [zq0, zq74, zq104, zqn, zq1327, zqn, zqn, zq476, zqn, zqn, zq0, zq138, zq0, zq1323, zqn, zqn],
  [zq1289, zqn, zqn, zq670, zq43, zq138, zq1299, zqn, zqn, zq174, zqn, zq0, zq1278, zqn, zqn, zq1144],
  [zqn, zqn, zq0, zq74, zq104, zqn, zq175, zqn, zq1209, zqn, zqn, zq654, zq1328, zqn, zqn, zq77]]
noncomputable def pq270 : List (List yEn) := [
  [zq0, zq1278, zqn, zqn, zq126, zqn, zqn, zq43, zq127, zq128, zq1275, zqn, zqn, zq0, zq0, zq1276],
  [zqn, zqn, zq1329, zqn, zqn, zq43, zq69, zq323, zq1276, zqn, zqn, zq0, zq1260, zqn, zqn, zq1330],
  [zqn, zqn, zq0, zq1263, zqn, zqn, zq0, zq1276, zqn, zqn, zq1287, zq186, zq1331, zqn, zqn, zq1332],
  [zqn, zqn, zq1020, zqn, zqn, zq1333, zqn, zqn, zq71, zq1334, zqn, zq518, zqn, zqn, zq71, zq1195],
  [zqn, zqn, zq1335, zqn, zq71, zq165, zq0, zq1263, zqn, zqn, zq0, zq1276, zqn, zqn, zq1287, zq134],
  [zq49, zqn, zq212, zq779, zq0, zq3, zq1276, zqn, zqn, zq82, zq134, zq1273, zqn, zqn, zq1336, zqn],
  [zqn, zq323, zq1276, zqn, zqn, zq0, zq1323, zqn, zqn, zq652, zqn, zqn, zq0, zq82, zq0, zq1276],
  [zqn, zqn, zq1289, zqn, zqn, zq1337, zqn, zqn, zq208, zq186, zq74, zq186, zq73, zq186, zq1020, zqn],
  [zqn, zq1054, zqn, zqn, zq0, zq178, zq0, zq1323, zqn, zqn, zq1289, zqn, zqn, zq414, zq1278, zqn],
  [zqn, zq290, zqn, zqn, zq43, zq263, zqn, zqn, zq655, zq265]]
noncomputable def pq271 : List (List yEn) := [
  [zq0, zq1275, zqn, zqn, zq0, zq1276, zqn, zqn, zq0, zq1260, zqn, zqn, zq1211, zqn, zqn, zq0],
  [zq1263, zqn, zqn, zq0, zq1276, zqn, zqn, zq1287, zq186, zq1331, zqn, zqn, zq1332, zqn, zqn, zq1020],
  [zqn, zqn, zq290, zqn, zqn, zq82, zq263, zqn, zqn, zq143, zq265]]
noncomputable def pq272 : List (List yEn) := [
  [zq0, zq1275, zqn, zqn, zq0, zq1276, zqn, zqn, zq0, zq1260, zqn, zqn, zq1211, zqn, zqn, zq0],
  [zq1263, zqn, zqn, zq0, zq1276, zqn, zqn, zq1287, zq74, zq622, zqn, zqn, zq0, zq3, zq1276, zqn],
  [zqn, zq82, zq134, zq1273, zqn, zqn, zq1060, zqn, zqn, zq136, zq82, zq0, zq1276, zqn, zqn, zq1289],
  [zqn, zqn, zq77]]
noncomputable def pq273 : List (List yEn) := [
  [zq43, zq69, zq208, zq186, zq0, zq1003, zqn, zqn, zq1092, zqn, zqn, zq74, zq134, zq185, zq203, zq1338],
  [zqn, zqn, zq0, zq1003, zqn, zqn, zq1094, zqn, zqn, zq271, zqn, zq74, zq165, zq134, zq71, zq134],
  [zq185, zq73, zq186, zq203, zq342, zqn, zqn, zq82, zq127, zq507, zqn, zqn, zq574, zqn, zqn, zq143],
  [zq127]]
noncomputable def pq274 : List (List yEn) := [
  [zq0, zq43, zq138, zq1299, zqn, zqn, zq169, zq0, zq1278, zqn, zqn, zq358, zqn, zqn, zq0, zq1284],
  [zqn, zqn, zq74, zq1287, zq476, zqn, zqn, zq0, zq138, zq0, zq1323, zqn, zqn, zq1289, zqn, zqn],
  [zq244, zq1284, zqn, zqn, zq74, zq82, zq1265, zq0, zq1003, zqn, zqn, zq1016, zqn, zqn, zq74, zq134],
  [zq0, zq43, zq676, zqn, zqn, zq1299, zqn, zqn, zq186, zq106, zq43, zq67, zq170, zq246, zqn, zq748],
  [zqn, zqn, zq0, zq1003, zqn, zqn, zq1097, zqn, zqn, zq246, zqn, zq74, zq165, zq134, zq73, zq134],
  [zq0, zq43, zq246, zqn, zq1299, zqn, zqn, zq186, zq106, zq75, zqn, zqn, zq933, zqn, zqn, zq77]]
noncomputable def pq275 : List (List yEn) := [
  [zq0, zq43, zq676, zqn, zqn, zq1299, zqn, zqn, zq169, zq0, zq1278, zqn, zqn, zq1205, zqn, zqn],
  [zq0, zq1003, zqn, zqn, zq1017, zqn, zqn, zq74, zq134, zq185, zq1013, zqn, zqn, zq203, zq476, zqn],
  [zqn, zq0, zq138, zq0, zq1323, zqn, zqn, zq1289, zqn, zqn, zq244, zq1003, zqn, zqn, zq1017, zqn],
  [zqn, zq74, zq134, zq0, zq43, zq246, zqn, zq1299, zqn, zqn, zq186, zq106, zq11]]
noncomputable def pq276 : List (List yEn) := [
  [zq0, zq1003, zqn, zqn, zq1029, zqn, zqn, zq185, zq198, zq203, zq436, zqn, zqn, zq74, zq186, zq145],
  [zq1339, zqn, zqn, zq1020, zqn, zqn, zq342, zqn, zqn, zq143, zq127, zq244, zq1003, zqn, zqn, zq1029],
  [zqn, zqn, zq198, zq106, zq0, zq1003, zqn, zqn, zq1340, zqn, zqn, zq74, zq186, zq106, zq0, zq696],
  [zqn, zq145, zq1112, zqn, zqn, zq82, zq127]]
noncomputable def pq277 : List (List yEn) := [
  [zq0, zq1003, zqn, zqn, zq1029, zqn, zqn, zq185, zq145, zq203, zq476, zqn, zqn, zq0, zq1341, zqn],
  [zqn, zq145, zq203, zq530, zqn, zqn, zq143, zq127, zq635, zq186, zq0, zq1003, zqn, zqn, zq1340, zqn],
  [zqn, zq185, zq203, zq1342, zqn, zqn, zq0, zq1003, zqn, zqn, zq1029, zqn, zqn, zq145, zq106, zq0],
  [zq1003, zqn, zqn, zq1343, zqn, zqn, zq145, zq106, zq0, zq1003, zqn, zqn, zq1344, zqn, zqn, zq145],
  [zq106, zq0, zq710, zqn, zq145, zq1112, zqn, zqn, zq82, zq127, zq136, zq1003, zqn, zqn, zq1343, zqn],
  [zqn, zq184, zq185, zq198, zq187, zq106, zq0, zq483, zqn, zq0, zq1003, zqn, zqn, zq1343, zqn, zqn],
  [zq185, zq1112, zqn, zqn, zq0, zq1003, zqn, zqn, zq1343, zqn, zqn, zq185, zq1007, zqn, zqn, zq203],
  [zq1345, zqn, zqn, zq43, zq127, zq136, zq1003, zqn, zqn, zq1343, zqn, zqn, zq145, zq106, zq0, zq1003],
  [zqn, zqn, zq1344, zqn, zqn, zq0, zq1003, zqn, zqn, zq43, zq185, zq1346, zqn, zqn, zq187, zq106],
  [zq0, zq716, zqn, zq145, zq1112, zqn, zqn, zq43, zq127]]
noncomputable def pq278 : List (List yEn) := [
  [zq0, zq1003, zqn, zqn, zq1344, zqn, zqn, zq185, zq0, zq1003, zqn, zqn, zq43, zq185, zq203, zq1347],
  [zqn, zqn, zq0, zq1003, zqn, zqn, zq1344, zqn, zqn, zq185, zq0, zq1003, zqn, zqn, zq43, zq185],
  [zq365, zq263, zqn, zqn, zq888, zq790]]
noncomputable def pq279 : List (List yEn) := [
  [zq74, zq186, zq198, zq1008, zqn, zqn, zq1020, zqn, zqn, zq267, zqn, zqn, zq1013, zqn, zqn, zq194],
  [zq1159, zq67, zq170, zq74, zq72, zqn, zqn, zq0, zq1037, zqn, zqn, zq75, zqn, zqn, zq76, zqn],
  [zqn, zq136, zq1003, zqn, zqn, zq486, zqn, zq185, zq0, zq1003, zqn, zqn, zq110, zq185, zq366, zq194]]
noncomputable def pq281 : List (List yEn) := [
  [zq0, zq1018, zqn, zqn, zq1360, zqn, zqn, zq74, zq186, zq145, zq1153, zqn, zqn, zq1020, zqn, zqn],
  [zq342, zqn, zqn, zq155, zq127, zq244, zq1003, zqn, zqn, zq43, zq185, zq374, zq67, zq0, zq1163, zqn],
  [zqn, zq1154, zqn, zqn, zq0, zq1003, zqn, zqn, zq43, zq74, zq186, zq106, zq0, zq1158, zqn, zqn],
  [zq0, zq554, zqn, zq73, zq186, zq1112, zqn, zqn, zq73, zq127]]
noncomputable def pq282 : List (List yEn) := [
  [zq74, zq186, zq198, zq1361, zqn, zqn, zq1020, zqn, zqn, zq617, zqn, zqn, zq0, zq1003, zqn, zqn],
  [zq43, zq185, zq74, zq186, zq187, zq1153, zqn, zqn, zq203, zq530, zqn, zqn, zq155, zq127, zq244, zq739],
  [zqn, zq74, zq186, zq1112, zqn, zqn, zq0, zq1003, zqn, zqn, zq138, zq145, zq106, zq178, zq67, zq170],
  [zq110, zq1362, zqn, zqn, zq0, zq1003, zqn, zqn, zq1127, zqn, zq73, zq134, zq145, zq106, zq0, zq1003],
  [zqn, zqn, zq428, zqn, zq73, zq134, zq185, zq198, zq203, zq288, zqn, zqn, zq0, zq73, zq1131, zqn],
  [zqn, zq181, zqn, zqn, zq827, zqn, zqn, zq1159, zq67, zq170, zq74, zq584, zqn, zqn, zq0, zq1003],
  [zqn, zqn, zq966, zqn, zq184, zq185, zq198, zq187, zq106, zq0, zq1003, zqn, zqn, zq1157, zqn, zq184],
  [zq185, zq198, zq187, zq106, zq0, zq1051, zqn, zqn, zq75, zqn, zqn, zq1115, zqn, zqn, zq136, zq1003],
  [zqn, zqn, zq43, zq185, zq374, zq127]]
noncomputable def pq283 : List (List yEn) := [
  [zq74, zq186, zq145, zq198, zq1020, zqn, zqn, zq1363, zqn, zqn, zq0, zq1003, zqn, zqn, zq428, zqn],
  [zq74, zq134, zq185, zq198, zq203, zq267, zqn, zqn, zq82, zq263, zqn, zqn, zq502, zq170, zq249, zqn],
  [zqn, zq143, zq127, zq170, zq157, zqn, zqn, zq0, zq74, zq1130, zqn, zqn, zq1038, zqn, zqn, zq244],
  [zq74, zq1131, zqn, zqn, zq509, zq127]]
noncomputable def pq284 : List (List yEn) := [
  [zq0, zq1003, zqn, zqn, zq1110, zqn, zq185, zq198, zq203, zq267, zqn, zqn, zq82, zq263, zqn, zqn],
  [zq1159, zq635, zq249, zqn, zqn, zq43, zq127, zq244, zq1003, zqn, zqn, zq1110, zqn, zq74, zq290, zqn],
  [zqn, zq198, zq263, zqn, zqn, zq1364, zq1365, zq0, zq1049, zqn, zqn, zq82, zq127]]
noncomputable def pq285 : List (List yEn) := [
  [zq74, zq186, zq145, zq1366, zqn, zqn, zq1020, zqn, zqn, zq267, zqn, zqn, zq1188, zqn, zqn, zq194],
  [zq244, zq1003, zqn, zqn, zq463, zqn, zq184, zq185, zq74, zq186, zq187, zq106, zq0, zq1049, zqn, zqn],
  [zq0, zq1003, zqn, zqn, zq463, zqn, zq185, zq194]]
noncomputable def pq286 : List (List yEn) := [
  [zq0, zq1003, zqn, zqn, zq1367, zqn, zq185, zq1210, zqn, zqn, zq203, zq1368, zqn, zqn, zq1149, zqn],
  [zq169, zq635, zq1369, zqn, zqn, zq748, zqn, zqn, zq0, zq1003, zqn, zqn, zq1370, zqn, zqn, zq74],
  [zq134, zq1149, zqn, zq212, zq0, zq1003, zqn, zqn, zq1370, zqn, zqn, zq74, zq134, zq185, zq106, zq620],
  [zqn, zqn, zq640, zqn, zqn, zq1371, zqn, zqn, zq1149, zqn, zq0, zq1372, zqn, zqn, zq246, zqn],
  [zq1173, zqn, zqn, zq0, zq1372, zqn, zqn, zq331, zqn, zqn, zq1373, zqn, zq1374, zq134, zq169, zq0],
  [zq1003, zqn, zqn, zq1367, zqn, zq184, zq185, zq198, zq187, zq106, zq0, zq1003, zqn, zqn, zq74, zq0],
  [zq1003, zqn, zqn, zq43, zq185, zq106, zq43, zq67, zq170, zq1375, zqn, zq932, zqn, zqn, zq0, zq1003],
  [zqn, zqn, zq74, zq82, zq134, zq73, zq134, zq0, zq1003, zqn, zqn, zq541, zqn, zq73, zq134, zq185],
  [zq106, zq75, zqn, zqn, zq1376, zqn, zqn, zq1159, zq67, zq170, zq52, zq503, zqn, zqn, zq0, zq1003],
  [zqn, zqn, zq74, zq1014, zqn, zq134, zq73, zq134, zq0, zq1003, zqn, zqn, zq483, zqn, zq73, zq134],
  [zq185, zq106, zq0, zq1003, zqn, zqn, zq483, zqn, zq73, zq134, zq1013, zqn, zqn, zq106, zq0, zq1003],
  [zqn, zqn, zq1014, zqn, zq73, zq134, zq1013, zqn, zqn, zq106, zq75, zqn, zqn, zq508, zqn, zqn],
  [zq136, zq403, zqn, zq145, zq1112, zqn, zqn, zq0, zq1003, zqn, zqn, zq1367, zqn, zq185, zq374, zq127]]
noncomputable def pq287 : List (List yEn) := [
  [zq0, zq1003, zqn, zqn, zq1367, zqn, zq185, zq1210, zqn, zqn, zq203, zq1117, zqn, zqn, zq0, zq1003],
  [zqn, zqn, zq1367, zqn, zq185, zq788, zqn, zqn, zq1377, zqn, zqn, zq1180, zq127]]
noncomputable def pq288 : List (List yEn) := [
  [zq0, zq74, zq1378, zqn, zqn, zq102, zqn, zq104, zqn, zq63, zq1379, zqn, zqn, zq73, zq71, zq1380],
  [zqn, zqn, zq267, zqn, zqn, zq1381, zqn, zqn, zq194, zq1137, zq73, zq71, zq1382, zqn, zqn, zq134],
  [zq174, zqn, zq0, zq1003, zqn, zqn, zq104, zqn, zq175, zqn, zq134, zq185, zq104, zqn, zq1370, zqn],
  [zqn, zq262, zqn, zqn, zq145, zq268, zqn, zqn, zq1383, zq1003, zqn, zqn, zq104, zqn, zq1149, zqn],
  [zq212, zq175, zqn, zq134, zq185, zq1384, zq194]]
noncomputable def pq289 : List (List yEn) := [
  [zq0, zq1003, zqn, zqn, zq1367, zqn, zq185, zq1229, zqn, zqn, zq203, zq1117, zqn, zqn, zq0, zq1003],
  [zqn, zqn, zq1367, zqn, zq185, zq788, zqn, zqn, zq1385, zqn, zqn, zq1386, zq67, zq74, zq186, zq145],
  [zq73, zq82, zq212, zq186, zq1020, zqn, zqn, zq714, zqn, zqn, zq1370, zqn, zqn, zq1149, zqn, zq0],
  [zq1372, zqn, zqn, zq82, zq212, zq74, zq212, zq165, zq134, zq263, zqn, zqn, zq155, zq265]]
noncomputable def pq290 : List (List yEn) := [
  [zq547, zq186, zq145, zq1229, zqn, zqn, zq1020, zqn, zqn, zq617, zqn, zqn, zq74, zq63, zq242, zqn],
  [zqn, zq74, zq1208, zqn, zqn, zq290, zqn, zqn, zq509, zq263, zqn, zqn, zq143, zq265]]
noncomputable def pq291 : List (List yEn) := [
  [zq110, zq547, zq165, zq74, zq63, zq262, zqn, zqn, zq52, zq263, zqn, zqn, zq602, zq1387, zq127]]
noncomputable def pq292 : List (List yEn) := [
  [zq0, zq74, zq1378, zqn, zqn, zq69, zq71, zq63, zq1388, zqn, zqn, zq73, zq186, zq145, zq1021, zqn],
  [zqn, zq1020, zqn, zqn, zq267, zqn, zqn, zq1381, zqn, zqn, zq194, zq785, zq1054, zqn, zqn, zq0],
  [zq1003, zqn, zqn, zq71, zq185, zq1109, zqn, zqn, zq1389, zq1003, zqn, zqn, zq71, zq1375, zqn, zq134],
  [zq73, zq134, zq185, zq790]]
noncomputable def pq293 : List (List yEn) := [
  [zq0, zq74, zq1378, zqn, zqn, zq69, zq71, zq63, zq674, zqn, zqn, zq73, zq186, zq145, zq198, zq1020],
  [zqn, zqn, zq267, zqn, zqn, zq1381, zqn, zqn, zq194, zq1390, zq189, zqn, zq145, zq367, zqn, zq43],
  [zq400, zqn, zq1391, zqn, zq52, zq1392, zqn, zqn, zq192, zqn, zq0, zq74, zq43, zq401, zqn, zq1393],
  [zqn, zqn, zq0, zq1003, zqn, zqn, zq54, zqn, zq401, zqn, zq134, zq185, zq191, zq187, zq189, zqn],
  [zq0, zq1003, zqn, zqn, zq71, zq1014, zqn, zq134, zq401, zqn, zq134, zq185, zq371, zqn, zq203, zq395],
  [zqn, zqn, zq0, zq1003, zqn, zqn, zq71, zq1014, zqn, zq134, zq401, zqn, zq134, zq185, zq331, zqn],
  [zqn, zq1394, zqn, zq1395, zqn, zq878, zqn, zqn, zq1396, zqn, zqn, zq1397, zqn, zqn, zq0, zq74],
  [zq178, zq63, zq1393, zqn, zqn, zq0, zq74, zq110, zq63, zq1393, zqn, zqn, zq187, zq191, zq0, zq74],
  [zq43, zq63, zq1393, zqn, zqn, zq0, zq1003, zqn, zqn, zq1010, zqn, zqn, zq185, zq191, zq365, zq282],
  [zqn, zq1006, zqn, zqn, zq192, zqn, zq371, zqn, zq0, zq1003, zqn, zqn, zq1357, zqn, zqn, zq185],
  [zq191, zq187, zq191, zq284, zqn, zq145, zq203, zq482, zqn, zqn, zq284, zqn, zq263, zqn, zqn, zq1398],
  [zq730, zq1003, zqn, zqn, zq1399, zqn, zqn, zq185, zq191, zq187, zq283, zqn, zq1006, zqn, zqn, zq0],
  [zq1003, zqn, zqn, zq110, zq185, zq191, zq1400, zqn, zq1401, zqn, zq298, zqn, zq1402, zqn, zqn, zq1403],
  [zqn, zq73, zq288, zqn, zqn, zq298, zqn, zq331, zqn, zqn, zq1404, zqn, zq1405, zqn, zq366, zq194]]
noncomputable def pq294 : List (List yEn) := [
  [zq190, zq145, zq203, zq267, zqn, zqn, zq202, zq376, zqn, zqn, zq1406, zq202, zq190, zq877, zq1402, zqn],
  [zqn, zq790]]
noncomputable def pq295 : List (List yEn) := [
  [zq74, zq73, zq1380, zqn, zqn, zq617, zqn, zqn, zq0, zq1003, zqn, zqn, zq541, zqn, zq74, zq73],
  [zq1382, zqn, zqn, zq134, zq185, zq788, zqn, zqn, zq1381, zqn, zqn, zq790]]
noncomputable def pq296 : List (List yEn) := [
  [zq74, zq73, zq1380, zqn, zqn, zq1363, zqn, zqn, zq0, zq1003, zqn, zqn, zq541, zqn, zq74, zq73],
  [zq1382, zqn, zqn, zq134, zq185, zq0, zq1003, zqn, zqn, zq110, zq185, zq366, zq788, zqn, zqn, zq1381],
  [zqn, zqn, zq790]]
noncomputable def pq297 : List (List yEn) := [
  [zq74, zq186, zq145, zq1021, zqn, zqn, zq1020, zqn, zqn, zq342, zqn, zqn, zq63, zq127, zq170, zq1407],
  [zqn, zqn, zqn, zqn, zqn, zqn, zqn, zqn, zqn, zqn, zqn, zqn, zqn, zqn, zqn, zqn],
  [zqn, zqn, zqn, zqn, zqn, zqn, zqn, zqn, zqn, zqn, zqn, zqn, zq244, zq1003, zqn, zqn],
  [zq428, zqn, zq74, zq134, zq185, zq374, zq127, zq244, zq1003, zqn, zqn, zq1149, zqn, zq74, zq134, zq185],
  [zq374, zq127, zq244, zq1003, zqn, zqn, zq991, zqn, zq74, zq134, zq185, zq374, zq127, zq244, zq1003, zqn],
  [zqn, zq1127, zqn, zq74, zq134, zq185, zq374, zq127, zq155, zq127]]
noncomputable def pq298 : List (List yEn) := [
  [zq74, zq63, zq973, zqn, zqn, zq0, zq1172, zqn, zqn, zq186, zq194, zq531, zq186, zq145, zq0, zq1172],
  [zqn, zqn, zq82, zq212, zq186, zq1020, zqn, zqn, zq1408, zqn, zqn, zq73, zq186, zq145, zq1409, zqn],
  [zqn, zq1020, zqn, zqn, zq617, zqn, zqn, zq0, zq0, zq1172, zqn, zqn, zq82, zq212, zq74, zq212],
  [zq73, zq1166, zqn, zqn, zq788, zqn, zqn, zq1381, zqn, zqn, zq790]]
noncomputable def pq299 : List (List yEn) := [
  [zq74, zq1410, zqn, zqn, zqn, zqn, zqn, zqn, zqn, zqn, zqn, zqn, zqn, zqn, zqn, zqn],
  [zqn, zqn, zqn, zqn, zqn, zqn, zqn, zqn, zqn, zqn, zqn, zqn, zqn, zqn, zqn, zqn],
  [zqn, zqn, zqn, zqn, zqn, zqn, zqn, zqn, zq136, zq1003, zqn, zqn, zq423, zqn, zq185, zq194],
  [zq136, zq1003, zqn, zqn, zq666, zqn, zq185, zq194, zq136, zq1003, zqn, zqn, zq403, zqn, zq185, zq194],
  [zq136, zq1003, zqn, zqn, zq195, zqn, zq185, zq194, zq136, zq1003, zqn, zqn, zq1157, zqn, zq185, zq194],
  [zq136, zq1003, zqn, zqn, zq1150, zqn, zq185, zq0, zq1003, zqn, zqn, zq1157, zqn, zq185, zq145, zq203],
  [zq482, zqn, zqn, zq483, zqn, zq263, zqn, zqn, zq419, zq1411, zq1152, zq0, zq1003, zqn, zqn, zq739],
  [zqn, zq185, zq198, zq203, zq1237, zqn, zqn, zq477, zqn, zqn, zq263, zqn, zqn, zq143, zq1412, zq1152],
  [zq194, zq1381, zqn, zqn, zq194]]
noncomputable def pq300 : List (List yEn) := [
  [zq74, zq1144, zqn, zqn, zq0, zq1003, zqn, zqn, zq1012, zqn, zq185, zq962, zqn, zqn, zq635, zq82],
  [zq693, zqn, zqn, zq0, zq1003, zqn, zqn, zq554, zqn, zq185, zq788, zqn, zqn, zq1381, zqn, zqn],
  [zq790]]
noncomputable def pq301 : List (List yEn) := [
  [zq74, zq1208, zqn, zqn, zq267, zqn, zqn, zq1013, zqn, zqn, zq194, zq170, zq1360, zqn, zqn, zq0],
  [zq1003, zqn, zqn, zq483, zqn, zq74, zq134, zq185, zq1413, zqn, zqn, zq170, zq82, zq652, zqn, zqn],
  [zq0, zq1003, zqn, zqn, zq1014, zqn, zq74, zq134, zq185, zq788, zqn, zqn, zq1381, zqn, zqn, zq790]]
noncomputable def pq302 : List (List yEn) := [
  [zq74, zq186, zq198, zq1008, zqn, zqn, zq1020, zqn, zqn, zq436, zqn, zqn, zq73, zq186, zq145, zq1229],
  [zqn, zqn, zq1020, zqn, zqn, zq267, zqn, zqn, zq1198, zqn, zqn, zq194, zq128, zq1003, zqn, zqn],
  [zq0, zq1270, zqn, zqn, zq1271, zqn, zqn, zq43, zq69, zq208, zq74, zq72, zqn, zqn, zq0, zq1037],
  [zqn, zqn, zq107, zqn, zqn, zq76, zqn, zqn, zq730, zq73, zq1414, zqn, zqn, zq353, zq0, zq1270],
  [zqn, zqn, zq0, zq1003, zqn, zqn, zq1271, zqn, zqn, zq359, zq194]]
noncomputable def pq303 : List (List yEn) := [
  [zq74, zq1415, zqn, zqn, zqn, zqn, zqn, zqn, zqn, zqn, zqn, zqn, zqn, zqn, zqn, zqn],
  [zqn, zqn, zqn, zqn, zqn, zqn, zqn, zqn, zqn, zqn, zqn, zqn, zqn, zqn, zqn, zqn],
  [zqn, zqn, zqn, zqn, zqn, zqn, zqn, zqn, zq136, zq1003, zqn, zqn, zq486, zqn, zq185, zq0],
  [zq1003, zqn, zqn, zq110, zq185, zq366, zq194, zq136, zq1003, zqn, zqn, zq1416, zqn, zq185, zq0, zq1003],
  [zqn, zqn, zq110, zq185, zq366, zq194, zq136, zq1003, zqn, zqn, zq463, zqn, zq185, zq194, zq136, zq1417],
  [zqn, zqn, zq194, zq136, zq1151, zqn, zqn, zq194, zq136, zq1003, zqn, zqn, zq309, zqn, zq185, zq194],
  [zq136, zq1003, zqn, zqn, zq43, zq185, zq194]]
noncomputable def pq304 : List (List yEn) := [
  [zq1013, zqn, zqn, zq905, zq43, zq69, zq678, zq52, zq1067, zqn, zqn, zq0, zq1003, zqn, zqn, zq483],
  [zqn, zq71, zq134, zq185, zq105, zq203, zq360, zqn, zqn, zq0, zq1003, zqn, zqn, zq483, zqn, zq71],
  [zq134, zq185, zq263, zqn, zqn, zq1418, zq1419, zq107, zqn, zqn, zq1170, zqn, zqn, zq909, zq194]]
noncomputable def pq305 : List (List yEn) := [
  [zq74, zq186, zq198, zq1361, zqn, zqn, zq1020, zqn, zqn, zq442, zqn, zqn, zq0, zq1003, zqn, zqn],
  [zq43, zq185, zq74, zq186, zq187, zq1153, zqn, zqn, zq203, zq1420, zqn, zqn, zq0, zq0, zq1003, zqn],
  [zqn, zq43, zq185, zq374, zq74, zq1421, zqn, zqn, zq788, zqn, zqn, zq1381, zqn, zqn, zq790]]
noncomputable def pq306 : List (List yEn) := [
  [zq145, zq353, zq74, zq174, zqn, zq511, zqn, zq74, zq73, zq134, zq1422, zqn, zqn, zq175, zqn, zq1090],
  [zqn, zq168, zq277, zqn, zq74, zq73, zq134, zq306, zqn, zq1090, zqn, zq165, zq212, zq1090, zqn, zq1280],
  [zqn, zqn, zq74, zq73, zq134, zq306, zqn, zq1090, zqn, zq165, zq212, zq331, zqn, zqn, zq1423, zqn],
  [zq1424, zqn, zq359, zq0, zq306, zqn, zq175, zqn, zq1090, zqn, zq142, zq281, zqn, zq1425, zqn, zqn],
  [zq187, zq353, zq306, zqn, zq1090, zqn, zq165, zq281, zqn, zq134, zq174, zqn, zq1336, zqn, zqn, zq516],
  [zq194]]
noncomputable def pq307 : List (List yEn) := [
  [zq0, zq74, zq1091, zqn, zqn, zq102, zqn, zq145, zq200, zqn, zq43, zq278, zqn, zq43, zq400, zqn],
  [zq43, zq915, zqn, zq1426, zqn, zq186, zq0, zq1003, zqn, zqn, zq1092, zqn, zqn, zq104, zqn, zq134],
  [zq185, zq203, zq1427, zqn, zqn, zq917, zqn, zq186, zq0, zq1003, zqn, zqn, zq1092, zqn, zqn, zq104],
  [zqn, zq134, zq185, zq203, zq1428, zqn, zqn, zq0, zq1003, zqn, zqn, zq1094, zqn, zqn, zq271, zqn],
  [zq104, zqn, zq165, zq134, zq917, zqn, zq134, zq185, zq374, zq331, zqn, zqn, zq1429, zqn, zq1430, zqn],
  [zq401, zqn, zq73, zq1431, zqn, zqn, zq401, zqn, zq263, zqn, zqn, zq1432, zq1433, zqn, zq1434, zqn],
  [zq71, zq1435, zqn, zqn, zq1434, zqn, zq263, zqn, zqn, zq1436, zq1437, zqn, zq289, zqn, zq1438, zqn],
  [zq1439, zqn, zqn, zq201, zqn, zq289, zqn, zq1438, zqn, zq212, zq186, zq0, zq1003, zqn, zqn, zq54],
  [zqn, zq281, zqn, zq134, zq185, zq191, zq187, zq200, zqn, zq1440, zqn, zq400, zqn, zq917, zqn, zq186],
  [zq0, zq1003, zqn, zqn, zq1092, zqn, zqn, zq104, zqn, zq134, zq185, zq203, zq1441, zqn, zqn, zq0],
  [zq1003, zqn, zqn, zq1096, zqn, zqn, zq271, zqn, zq104, zqn, zq165, zq134, zq917, zqn, zq134, zq185],
  [zq374, zq278, zqn, zq1442, zqn, zqn, zq1443, zqn, zqn, zq1444, zqn, zq194]]
noncomputable def pq308 : List (List yEn) := [
  [zq74, zq186, zq198, zq1361, zqn, zqn, zq1020, zqn, zqn, zq1445, zqn, zqn, zq0, zq1003, zqn, zqn],
  [zq43, zq185, zq1446, zqn, zqn, zq187, zq74, zq186, zq187, zq1153, zqn, zqn, zq203, zq1447, zqn, zqn],
  [zq73, zq186, zq145, zq198, zq1020, zqn, zqn, zq267, zqn, zqn, zq1381, zqn, zqn, zq194, zq128, zq1003],
  [zqn, zqn, zq43, zq185, zq374, zq69, zq82, zq102, zqn, zq172, zqn, zq924, zqn, zq1448, zqn, zqn],
  [zq0, zq1003, zqn, zqn, zq43, zq185, zq374, zq517, zqn, zqn, zq104, zqn, zq165, zq134, zq174, zqn],
  [zq0, zq175, zqn, zq74, zq1421, zqn, zqn, zq0, zq71, zq74, zq1421, zqn, zqn, zq203, zq1449, zqn],
  [zqn, zq175, zqn, zq69, zq259, zqn, zqn, zq1450, zqn, zqn, zq70, zq288, zqn, zqn, zq71, zq186],
  [zq873, zqn, zqn, zq269, zq71, zq74, zq1421, zqn, zqn, zq790]]
noncomputable def pq309 : List (List yEn) := [
  [zq0, zq1003, zqn, zqn, zq0, zq1270, zqn, zqn, zq1271, zqn, zqn, zq43, zq169, zq635, zq546, zqn],
  [zqn, zq1451, zqn, zqn, zq0, zq1003, zqn, zqn, zq309, zqn, zq185, zq145, zq203, zq1144, zqn, zqn],
  [zq0, zq1037, zqn, zqn, zq620, zqn, zqn, zq650, zqn, zqn, zq244, zq1003, zqn, zqn, zq309, zqn],
  [zq185, zq198, zq203, zq267, zqn, zqn, zq82, zq263, zqn, zqn, zq1159, zq1126, zq0, zq1270, zqn, zqn],
  [zq0, zq1003, zqn, zqn, zq1271, zqn, zqn, zq73, zq290, zqn, zqn, zq74, zq263, zqn, zqn, zq155],
  [zq265]]
noncomputable def pq310 : List (List yEn) := [
  [zq74, zq186, zq145, zq1007, zqn, zqn, zq1020, zqn, zqn, zq417, zqn, zqn, zq0, zq1003, zqn, zqn],
  [zq1165, zqn, zqn, zq74, zq134, zq185, zq788, zqn, zqn, zq1381, zqn, zqn, zq790]]
noncomputable def pq311 : List (List yEn) := [
  [zq74, zq186, zq198, zq0, zq1172, zqn, zqn, zq186, zq1020, zqn, zqn, zq132, zqn, zqn, zq73, zq186],
  [zq145, zq198, zq1020, zqn, zqn, zq267, zqn, zqn, zq1381, zqn, zqn, zq194, zq1227, zqn, zqn, zq353],
  [zq43, zq174, zqn, zq43, zq277, zqn, zq571, zqn, zq74, zq134, zq0, zq1172, zqn, zqn, zq1452, zqn],
  [zqn, zq145, zq388, zqn, zq43, zq915, zqn, zq1453, zqn, zq74, zq1277, zqn, zqn, zq390, zqn, zq0],
  [zq306, zqn, zq917, zqn, zq134, zq82, zq1166, zqn, zqn, zq187, zq388, zqn, zq1454, zqn, zqn, zq1455],
  [zqn, zqn, zq1456, zqn, zq359, zq203, zq1449, zqn, zqn, zq1109, zqn, zqn, zq1457, zqn, zq353, zq306],
  [zqn, zq74, zq134, zq82, zq212, zq174, zqn, zq947, zqn, zqn, zq1458, zqn, zqn, zq1459, zq267, zqn],
  [zqn, zq359, zq376, zqn, zqn, zq815, zq175, zqn, zq43, zq1166, zqn, zqn, zq790]]
noncomputable def pq312 : List (List yEn) := [
  [zq145, zq353, zq43, zq174, zqn, zq511, zqn, zq0, zq1172, zqn, zqn, zq914, zqn, zqn, zq359, zq0],
  [zq175, zqn, zq43, zq1166, zqn, zqn, zq74, zq186, zq203, zq506, zqn, zqn, zq0, zq175, zqn, zq43],
  [zq1166, zqn, zqn, zq73, zq186, zq203, zq1447, zqn, zqn, zq0, zq175, zqn, zq82, zq1166, zqn, zqn],
  [zq263, zqn, zqn, zq1460, zq1461, zq353, zq514, zqn, zqn, zq508, zqn, zqn, zq516, zq194]]
noncomputable def pq313 : List (List yEn) := [
  [zq0, zq1003, zqn, zqn, zq56, zqn, zq185, zq1011, zqn, zqn, zq203, zq1117, zqn, zqn, zq0, zq1003],
  [zqn, zqn, zq56, zqn, zq185, zq788, zqn, zqn, zq1462, zqn, zqn, zq1119, zq69, zq74, zq186, zq145],
  [zq71, zq82, zq212, zq186, zq1020, zqn, zqn, zq1463, zqn, zqn, zq73, zq186, zq145, zq1072, zqn, zqn],
  [zq1020, zqn, zqn, zq345, zqn, zqn, zq0, zq1003, zqn, zqn, zq1114, zqn, zqn, zq138, zq71, zq82],
  [zq212, zq74, zq212, zq165, zq134, zq73, zq134, zq185, zq374, zq263, zqn, zqn, zq155, zq265]]
noncomputable def pq314 : List (List yEn) := [
  [zq74, zq1054, zqn, zqn, zq0, zq1464, zqn, zqn, zq342, zqn, zqn, zq43, zq127, zq635, zq705, zqn],
  [zqn, zq0, zq1003, zqn, zqn, zq0, zq1465, zqn, zqn, zq1271, zqn, zqn, zq1109, zqn, zqn, zq136],
  [zq1465, zqn, zqn, zq0, zq1003, zqn, zqn, zq1271, zqn, zqn, zq136, zq82, zq1466, zqn, zqn, zq82],
  [zq127]]
noncomputable def yMs : List (ByteArray × Nat × List (List yEn)) := [
  (prog_1_method_1_code, 1, pq0),
  (prog_8_method_1_code, 1, pq1),
  (prog_11_method_1_code, 1, pq2),
  (prog_2_method_1_code, 1, pq3),
  (prog_2_method_2_code, 1, pq4),
  (prog_20_method_103_code, 4, pq5),
  (prog_12_method_1_code, 1, pq6),
  (prog_9_method_1_code, 1, pq7),
  (prog_5_method_1_code, 1, pq8),
  (prog_4_method_1_code, 1, pq9),
  (prog_4_method_2_code, 1, pq10),
  (prog_20_method_101_code, 5, pq11),
  (prog_7_method_1_code, 1, pq12),
  (prog_6_method_1_code, 1, pq13),
  (prog_10_method_1_code, 1, pq14),
  (prog_3_method_1_code, 1, pq15),
  (prog_1_method_2_code, 3, pq16),
  (prog_10_method_3_code, 1, pq17),
  (prog_12_method_3_code, 3, pq18),
  (prog_1_method_3_code, 3, pq19),
  (prog_12_method_4_code, 3, pq20),
  (prog_12_method_5_code, 6, pq21),
  (prog_12_method_6_code, 4, pq22),
  (prog_12_method_9_code, 6, pq23),
  (prog_12_method_14_code, 7, pq24),
  (prog_8_method_11_code, 4, pq25),
  (prog_8_method_13_code, 5, pq26),
  (prog_2_method_15_code, 2, pq27),
  (prog_2_method_13_code, 3, pq28),
  (prog_2_method_8_code, 3, pq29),
  (prog_2_method_12_code, 5, pq30),
  (prog_2_method_14_code, 4, pq31),
  (prog_2_method_7_code, 5, pq32),
  (prog_11_method_8_code, 1, pq33),
  (prog_12_method_15_code, 13, pq34),
  (prog_8_method_14_code, 6, pq35),
  (prog_11_method_13_code, 1, pq36),
  (prog_2_method_16_code, 6, pq37),
  (prog_11_method_9_code, 1, pq38),
  (prog_7_method_6_code, 7, pq39),
  (prog_7_method_3_code, 2, pq40),
  (prog_8_method_16_code, 12, pq41),
  (prog_12_method_7_code, 1, pq42),
  (prog_11_method_11_code, 2, pq43),
  (prog_8_method_15_code, 6, pq44),
  (prog_11_method_7_code, 1, pq45),
  (prog_12_method_8_code, 1, pq46),
  (prog_9_method_4_code, 2, pq47),
  (prog_11_method_12_code, 1, pq48),
  (prog_8_method_17_code, 11, pq49),
  (prog_9_method_3_code, 9, pq50),
  (prog_12_method_10_code, 4, pq51),
  (prog_5_method_5_code, 5, pq52),
  (prog_8_method_9_code, 2, pq53),
  (prog_8_method_3_code, 3, pq54),
  (prog_6_method_5_code, 5, pq55),
  (prog_7_method_7_code, 9, pq56),
  (prog_7_method_4_code, 5, pq57),
  (prog_5_method_6_code, 3, pq58),
  (prog_8_method_18_code, 3, pq59),
  (prog_5_method_9_code, 5, pq60),
  (prog_5_method_8_code, 3, pq61),
  (prog_5_method_10_code, 5, pq62),
  (prog_11_method_10_code, 1, pq63),
  (prog_4_method_4_code, 5, pq64),
  (prog_4_method_5_code, 4, pq65),
  (prog_5_method_3_code, 1, pq66),
  (prog_5_method_4_code, 3, pq67),
  (prog_5_method_11_code, 6, pq68),
  (prog_1_method_4_code, 2, pq69),
  (prog_8_method_4_code, 2, pq70),
  (prog_9_method_5_code, 3, pq71),
  (prog_9_method_6_code, 6, pq72),
  (prog_1_method_5_code, 3, pq73),
  (prog_8_method_5_code, 3, pq74),
  (prog_11_method_3_code, 4, pq75),
  (prog_11_method_14_code, 1, pq76),
  (prog_11_method_4_code, 4, pq77),
  (prog_1_method_6_code, 4, pq78),
  (prog_1_method_54_code, 1, pq79),
  (prog_1_method_55_code, 1, pq80),
  (prog_2_method_5_code, 7, pq81),
  (prog_2_method_4_code, 5, pq82),
  (prog_1_method_7_code, 2, pq83),
  (prog_2_method_6_code, 3, pq84),
  (prog_1_method_8_code, 6, pq85),
  (prog_3_method_2_code, 1, pq86),
  (prog_3_method_3_code, 3, pq87),
  (prog_1_method_9_code, 2, pq88),
  (prog_3_method_4_code, 2, pq89),
  (prog_1_method_10_code, 2, pq90),
  (prog_3_method_5_code, 1, pq91),
  (prog_3_method_6_code, 3, pq92),
  (prog_3_method_14_code, 1, pq93),
  (prog_3_method_8_code, 2, pq94),
  (prog_3_method_15_code, 2, pq95),
  (prog_3_method_16_code, 4, pq96),
  (prog_3_method_9_code, 3, pq97),
  (prog_3_method_17_code, 2, pq98),
  (prog_3_method_21_code, 4, pq99),
  (prog_3_method_20_code, 3, pq100),
  (prog_3_method_18_code, 1, pq101),
  (prog_3_method_7_code, 3, pq102),
  (prog_3_method_19_code, 1, pq103),
  (prog_3_method_10_code, 6, pq104),
  (prog_3_method_22_code, 2, pq105),
  (prog_3_method_11_code, 5, pq106),
  (prog_3_method_12_code, 3, pq107),
  (prog_2_method_9_code, 2, pq108),
  (prog_2_method_10_code, 4, pq109),
  (prog_3_method_13_code, 3, pq110),
  (prog_2_method_3_code, 2, pq111),
  (prog_11_method_5_code, 2, pq112),
  (prog_1_method_11_code, 2, pq113),
  (prog_1_method_12_code, 2, pq114),
  (prog_10_method_4_code, 2, pq115),
  (prog_1_method_13_code, 2, pq116),
  (prog_8_method_6_code, 2, pq117),
  (prog_10_method_5_code, 2, pq118),
  (prog_10_method_6_code, 1, pq119),
  (prog_10_method_7_code, 1, pq120),
  (prog_10_method_8_code, 2, pq121),
  (prog_1_method_14_code, 3, pq122),
  (prog_1_method_57_code, 1, pq123),
  (prog_1_method_15_code, 4, pq124),
  (prog_1_method_16_code, 3, pq125),
  (prog_2_method_11_code, 3, pq126),
  (prog_1_method_17_code, 2, pq127),
  (prog_1_method_59_code, 1, pq128),
  (prog_8_method_7_code, 3, pq129),
  (prog_1_method_18_code, 2, pq130),
  (prog_8_method_10_code, 6, pq131),
  (prog_7_method_5_code, 4, pq132),
  (prog_5_method_7_code, 3, pq133),
  (prog_1_method_19_code, 3, pq134),
  (prog_1_method_20_code, 2, pq135),
  (prog_1_method_21_code, 2, pq136),
  (prog_1_method_22_code, 1, pq137),
  (prog_8_method_8_code, 1, pq138),
  (prog_9_method_7_code, 5, pq139),
  (prog_1_method_23_code, 3, pq140),
  (prog_12_method_11_code, 6, pq141),
  (prog_12_method_13_code, 6, pq142),
  (prog_12_method_12_code, 4, pq143),
  (prog_1_method_24_code, 3, pq144),
  (prog_1_method_58_code, 1, pq145),
  (prog_1_method_56_code, 1, pq146),
  (prog_1_method_25_code, 3, pq147),
  (prog_1_method_26_code, 2, pq148),
  (prog_1_method_27_code, 2, pq149),
  (prog_1_method_60_code, 1, pq150),
  (prog_1_method_28_code, 6, pq151),
  (prog_1_method_29_code, 3, pq152),
  (prog_2_method_17_code, 6, pq153),
  (prog_1_method_30_code, 3, pq154),
  (prog_1_method_31_code, 4, pq155),
  (prog_1_method_32_code, 2, pq156),
  (prog_1_method_33_code, 2, pq157),
  (prog_1_method_34_code, 3, pq158),
  (prog_1_method_35_code, 4, pq159),
  (prog_9_method_8_code, 2, pq160),
  (prog_9_method_12_code, 4, pq161),
  (prog_9_method_9_code, 2, pq162),
  (prog_1_method_36_code, 3, pq163),
  (prog_9_method_10_code, 2, pq164),
  (prog_9_method_11_code, 3, pq165),
  (prog_1_method_37_code, 9, pq166),
  (prog_9_method_13_code, 11, pq167),
  (prog_11_method_6_code, 3, pq168),
  (prog_1_method_53_code, 11, pq169),
  (prog_1_method_38_code, 3, pq170),
  (prog_8_method_2_code, 2, pq171),
  (prog_11_method_2_code, 2, pq172),
  (prog_12_method_2_code, 2, pq173),
  (prog_9_method_2_code, 2, pq174),
  (prog_5_method_2_code, 2, pq175),
  (prog_4_method_3_code, 2, pq176),
  (prog_7_method_2_code, 2, pq177),
  (prog_6_method_2_code, 2, pq178),
  (prog_10_method_2_code, 2, pq179),
  (prog_4_method_6_code, 4, pq180),
  (prog_1_method_39_code, 2, pq181),
  (prog_2_method_18_code, 10, pq182),
  (prog_1_method_40_code, 10, pq183),
  (prog_1_method_41_code, 1, pq184),
  (prog_8_method_12_code, 4, pq185),
  (prog_1_method_42_code, 2, pq186),
  (prog_1_method_43_code, 4, pq187),
  (prog_5_method_12_code, 8, pq188),
  (prog_1_method_44_code, 9, pq189),
  (prog_1_method_45_code, 3, pq190),
  (prog_6_method_3_code, 1, pq191),
  (prog_6_method_4_code, 3, pq192),
  (prog_1_method_46_code, 3, pq193),
  (prog_2_method_19_code, 8, pq194),
  (prog_1_method_47_code, 2, pq195),
  (prog_1_method_48_code, 3, pq196),
  (prog_1_method_49_code, 2, pq197),
  (prog_1_method_50_code, 2, pq198),
  (prog_1_method_51_code, 2, pq199),
  (prog_1_method_52_code, 1, pq200),
  (prog_14_method_3_code, 2, pq201),
  (prog_14_method_9_code, 4, pq202),
  (prog_14_method_8_code, 1, pq203),
  (prog_14_method_1_code, 6, pq204),
  (prog_14_method_10_code, 5, pq205),
  (prog_14_method_5_code, 1, pq206),
  (prog_14_method_7_code, 3, pq207),
  (prog_14_method_70_code, 7, pq208),
  (prog_14_method_14_code, 5, pq209),
  (prog_14_method_11_code, 5, pq210),
  (prog_14_method_6_code, 1, pq211),
  (prog_14_method_12_code, 5, pq212),
  (prog_14_method_13_code, 6, pq213),
  (prog_14_method_15_code, 8, pq214),
  (prog_14_method_17_code, 2, pq215),
  (prog_14_method_63_code, 10, pq216),
  (prog_14_method_23_code, 5, pq217),
  (prog_14_method_22_code, 3, pq218),
  (prog_14_method_21_code, 7, pq219),
  (prog_14_method_62_code, 5, pq220),
  (prog_14_method_16_code, 4, pq221),
  (prog_14_method_82_code, 2, pq222),
  (prog_14_method_4_code, 5, pq223),
  (prog_14_method_67_code, 4, pq224),
  (prog_14_method_64_code, 5, pq225),
  (prog_14_method_65_code, 4, pq226),
  (prog_14_method_66_code, 2, pq227),
  (prog_14_method_68_code, 2, pq228),
  (prog_14_method_69_code, 2, pq229),
  (prog_14_method_71_code, 1, pq230),
  (prog_14_method_101_code, 4, pq231),
  (prog_14_method_75_code, 6, pq232),
  (prog_14_method_72_code, 2, pq233),
  (prog_14_method_73_code, 3, pq234),
  (prog_14_method_74_code, 1, pq235),
  (prog_14_method_76_code, 6, pq236),
  (prog_14_method_20_code, 10, pq237),
  (prog_14_method_19_code, 7, pq238),
  (prog_14_method_18_code, 4, pq239),
  (prog_14_method_26_code, 4, pq240),
  (prog_14_method_24_code, 1, pq241),
  (prog_14_method_25_code, 1, pq242),
  (prog_14_method_27_code, 9, pq243),
  (prog_14_method_28_code, 3, pq244),
  (prog_14_method_30_code, 3, pq245),
  (prog_14_method_29_code, 1, pq246),
  (prog_14_method_31_code, 4, pq247),
  (prog_14_method_33_code, 4, pq248),
  (prog_14_method_32_code, 3, pq249),
  (prog_14_method_34_code, 2, pq250),
  (prog_14_method_35_code, 2, pq251),
  (prog_14_method_36_code, 4, pq252),
  (prog_14_method_37_code, 10, pq253),
  (prog_14_method_39_code, 3, pq254),
  (prog_14_method_38_code, 7, pq255),
  (prog_14_method_41_code, 6, pq256),
  (prog_14_method_40_code, 3, pq257),
  (prog_14_method_42_code, 2, pq258),
  (prog_14_method_43_code, 2, pq259),
  (prog_14_method_58_code, 2, pq260),
  (prog_14_method_2_code, 3, pq261),
  (prog_14_method_52_code, 2, pq262),
  (prog_14_method_45_code, 1, pq263),
  (prog_14_method_57_code, 4, pq264),
  (prog_14_method_51_code, 1, pq265),
  (prog_14_method_50_code, 9, pq266),
  (prog_14_method_49_code, 2, pq267),
  (prog_14_method_44_code, 3, pq268),
  (prog_14_method_54_code, 6, pq269),
  (prog_14_method_47_code, 4, pq270),
  (prog_14_method_46_code, 1, pq271),
  (prog_14_method_48_code, 2, pq272),
  (prog_14_method_53_code, 4, pq273),
  (prog_14_method_55_code, 3, pq274),
  (prog_14_method_56_code, 2, pq275),
  (prog_14_method_60_code, 2, pq276),
  (prog_14_method_61_code, 2, pq277),
  (prog_14_method_59_code, 1, pq278),
  (prog_14_method_77_code, 3, pq279),
  (prog_14_method_79_code, 3, pq281),
  (prog_14_method_80_code, 3, pq282),
  (prog_14_method_81_code, 3, pq283),
  (prog_14_method_83_code, 2, pq284),
  (prog_14_method_84_code, 2, pq285),
  (prog_14_method_86_code, 3, pq286),
  (prog_14_method_85_code, 1, pq287),
  (prog_14_method_90_code, 6, pq288),
  (prog_14_method_87_code, 3, pq289),
  (prog_14_method_89_code, 2, pq290),
  (prog_14_method_88_code, 2, pq291),
  (prog_14_method_91_code, 4, pq292),
  (prog_14_method_93_code, 16, pq293),
  (prog_14_method_92_code, 4, pq294),
  (prog_14_method_94_code, 3, pq295),
  (prog_14_method_95_code, 3, pq296),
  (prog_14_method_96_code, 3, pq297),
  (prog_14_method_97_code, 3, pq298),
  (prog_14_method_98_code, 2, pq299),
  (prog_14_method_99_code, 2, pq300),
  (prog_14_method_100_code, 3, pq301),
  (prog_14_method_104_code, 5, pq302),
  (prog_14_method_103_code, 2, pq303),
  (prog_14_method_102_code, 4, pq304),
  (prog_14_method_107_code, 2, pq305),
  (prog_14_method_106_code, 8, pq306),
  (prog_14_method_105_code, 13, pq307),
  (prog_14_method_108_code, 6, pq308),
  (prog_14_method_109_code, 3, pq309),
  (prog_14_method_110_code, 2, pq310),
  (prog_14_method_111_code, 10, pq311),
  (prog_14_method_112_code, 6, pq312),
  (prog_14_method_113_code, 4, pq313),
  (prog_14_method_114_code, 2, pq314)]
theorem yMs_t : (yMs.all fun M => yRows M.1 M.2.1 0 M.1.data.toList M.2.2) = true := by decide +kernel
theorem yq_ok {cc : ByteArray} {nL : Nat} {q : List (List yEn)} {t : List (List (Option xI))} (i : Nat) (h : yMs[i]? = some (cc, nL, q)) (ht : q.map (List.map Prod.fst) = t) : x_tchk cc nL 0 t = true := by
  rw [← ht]
  have h1 := List.all_eq_true.mp yMs_t _ (List.mem_of_getElem? h)
  exact y_rows q 0 _ (fun i b e => e) h1
