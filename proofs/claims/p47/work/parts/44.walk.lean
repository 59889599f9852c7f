-- WorkMeterModel.specialLine
theorem c275_1 {s : Nat × (Nat → Int32)} {m0 m : zM} {B : Int} {d : Nat} {Q : Option zV → zM → Prop} (g0 : Nat) (hd : 15 ≤ d) (hJ : J m0 B m) (hB : B + 0 ≤ 1000000000) (hQ : ∀ m', J m0 (B) m' → (∀ g, m' g 8 9 = m g 8 9) → Q none m') : X (EE s) d 275 0 [(0, zr g0 44)] [] m Q := by
  refine X.aload_n 1 i275_0 rfl rfl rfl ?_
  refine X.iconst 2 i275_1 rfl rfl (by decide) ?_
  refine X.sipush 5 i275_2 rfl rfl (by decide) ?_
  refine X.callv 8 [zi 0, zi 364] [] [(0, zr g0 44), (1, zi 0), (2, zi 364)] i275_5 rfl (by decide) rfl rfl (by omega) rfl rfl (by decide) rfl t270 (Nat.le_of_ble_eq_true rfl) (Nat.le_of_ble_eq_true rfl) rfl ?_
  refine c270_1 (B := B) g0 0 364 (by omega) (hJ.up (by omega)) (by omega) (by omega) (by omega) (fun v503 m501 hv503 hJ502 km501 hqv5030 hqv5031 => ?_)
  show X (EE s) d 275 8 [(0, zr g0 44)] [zi v503] m501 _
  refine X.istore_n 9 [(0, zr g0 44), (1, zi v503)] i275_8 rfl rfl rfl ?_
  refine X.aload_n 10 i275_9 rfl rfl rfl ?_
  refine X.getZ 13 9 i275_10 rfl rfl (by decide) rfl rfl rfl (fun h504 => ?_)
  refine X.ifne 42 16 i275_13 rfl rfl rfl (fun h505 => ?_) (fun h505 => ?_)
  · refine X.aload_n 43 i275_42 rfl rfl rfl ?_
    refine X.getF 46 i275_43 rfl rfl (by decide) rfl rfl ?_
    refine X.sipush 49 i275_46 rfl rfl (by decide) ?_
    refine X.iload_n 50 i275_49 rfl rfl rfl ?_
    refine X.iadd 51 i275_50 rfl rfl (by omega) ?_
    refine X.aload_n 52 i275_51 rfl rfl rfl ?_
    refine X.iconst 53 i275_52 rfl rfl (by decide) ?_
    refine X.bipush 55 i275_53 rfl rfl (by decide) ?_
    refine X.callv 58 [zi 0, zi 7] [zi (423 + v503), zr 4 45] [(0, zr g0 44), (1, zi 0), (2, zi 7)] i275_55 rfl (by decide) rfl rfl (by omega) rfl rfl (by decide) rfl t270 (Nat.le_of_ble_eq_true rfl) (Nat.le_of_ble_eq_true rfl) rfl ?_
    refine c270_1 (B := B) g0 0 7 (by omega) (hJ502.up (by omega)) (by omega) (by omega) (by omega) (fun v508 m506 hv508 hJ507 km506 hqv5080 hqv5081 => ?_)
    show X (EE s) d 275 58 [(0, zr g0 44), (1, zi v503)] [zi v508, zi (423 + v503), zr 4 45] m506 _
    refine X.i2l 59 i275_58 rfl rfl ?_
    refine X.last' 60 i275_59 rfl rfl (by decide) rfl (by omega) (fun hrm509 m509 hm509 => ?_)
    have hJ510 := w45_423 hJ507 hm509 (by omega) (by omega)
    have km509 : ∀ g, m509 g 8 9 = m506 g 8 9 := fun g9 => by rw [hm509]; exact z_upd_o _ _ rfl
    refine X.retv i275_60 rfl t275 ?_
    exact hQ  m509  (hJ510.up (by omega)) (fun g => by simp only [km501, km506, km509]) 
  · refine X.aload_n 17 i275_16 rfl rfl rfl ?_
    refine X.getF 20 i275_17 rfl rfl (by decide) rfl rfl ?_
    refine X.sipush 23 i275_20 rfl rfl (by decide) ?_
    refine X.iload_n 24 i275_23 rfl rfl rfl ?_
    refine X.iadd 25 i275_24 rfl rfl (by omega) ?_
    refine X.lald 26 i275_25 rfl rfl (by decide) rfl (by omega) ?_
    have h511 := r45_423 hJ502 4 (i := (423 + v503)) (by omega)
    refine X.ldc2 29 i275_26 rfl rfl (by decide) ?_
    refine X.lcmp 30 i275_29 rfl rfl (fun z512 hz512 => ?_)
    refine X.ifeq 42 33 i275_30 rfl rfl rfl (fun h513 => ?_) (fun h513 => ?_)
    · have h513c : (m501 4 45 (423 + v503)) = (-1) := by omega
      clear h513 hz512
      refine X.aload_n 43 i275_42 rfl rfl rfl ?_
      refine X.getF 46 i275_43 rfl rfl (by decide) rfl rfl ?_
      refine X.sipush 49 i275_46 rfl rfl (by decide) ?_
      refine X.iload_n 50 i275_49 rfl rfl rfl ?_
      refine X.iadd 51 i275_50 rfl rfl (by omega) ?_
      refine X.aload_n 52 i275_51 rfl rfl rfl ?_
      refine X.iconst 53 i275_52 rfl rfl (by decide) ?_
      refine X.bipush 55 i275_53 rfl rfl (by decide) ?_
      refine X.callv 58 [zi 0, zi 7] [zi (423 + v503), zr 4 45] [(0, zr g0 44), (1, zi 0), (2, zi 7)] i275_55 rfl (by decide) rfl rfl (by omega) rfl rfl (by decide) rfl t270 (Nat.le_of_ble_eq_true rfl) (Nat.le_of_ble_eq_true rfl) rfl ?_
      refine c270_1 (B := B) g0 0 7 (by omega) (hJ502.up (by omega)) (by omega) (by omega) (by omega) (fun v516 m514 hv516 hJ515 km514 hqv5160 hqv5161 => ?_)
      show X (EE s) d 275 58 [(0, zr g0 44), (1, zi v503)] [zi v516, zi (423 + v503), zr 4 45] m514 _
      refine X.i2l 59 i275_58 rfl rfl ?_
      refine X.last' 60 i275_59 rfl rfl (by decide) rfl (by omega) (fun hrm517 m517 hm517 => ?_)
      have hJ518 := w45_423 hJ515 hm517 (by omega) (by omega)
      have km517 : ∀ g, m517 g 8 9 = m514 g 8 9 := fun g9 => by rw [hm517]; exact z_upd_o _ _ rfl
      refine X.retv i275_60 rfl t275 ?_
      exact hQ  m517  (hJ518.up (by omega)) (fun g => by simp only [km501, km514, km517]) 
    · have h513c : (m501 4 45 (423 + v503)) ≠ (-1) := by omega
      clear h513 hz512
      refine X.aload_n 34 i275_33 rfl rfl rfl ?_
      refine X.iconst 35 i275_34 rfl rfl (by decide) ?_
      refine X.aload_n 36 i275_35 rfl rfl rfl ?_
      refine X.getIr 39 10 i275_36 rfl rfl (by decide) rfl rfl rfl (fun h519 => ?_)
      refine X.callv 42 [zi 3, zi (m501 g0 44 10)] [] [(0, zr g0 44), (1, zi 3), (2, zi (m501 g0 44 10))] i275_39 rfl (by decide) rfl rfl (by omega) rfl rfl (by decide) rfl t268 (Nat.le_of_ble_eq_true rfl) (Nat.le_of_ble_eq_true rfl) rfl ?_
      refine c268_3 (B := B) g0 3 (m501 g0 44 10) (by omega) (hJ502.up (by omega)) (by omega) (by omega) (by omega) (fun m520 hJ521 km520 hqv5220 => ?_)
      show X (EE s) d 275 42 [(0, zr g0 44), (1, zi v503)] [] m520 _
      refine X.aload_n 43 i275_42 rfl rfl rfl ?_
      refine X.getF 46 i275_43 rfl rfl (by decide) rfl rfl ?_
      refine X.sipush 49 i275_46 rfl rfl (by decide) ?_
      refine X.iload_n 50 i275_49 rfl rfl rfl ?_
      refine X.iadd 51 i275_50 rfl rfl (by omega) ?_
      refine X.aload_n 52 i275_51 rfl rfl rfl ?_
      refine X.iconst 53 i275_52 rfl rfl (by decide) ?_
      refine X.bipush 55 i275_53 rfl rfl (by decide) ?_
      refine X.callv 58 [zi 0, zi 7] [zi (423 + v503), zr 4 45] [(0, zr g0 44), (1, zi 0), (2, zi 7)] i275_55 rfl (by decide) rfl rfl (by omega) rfl rfl (by decide) rfl t270 (Nat.le_of_ble_eq_true rfl) (Nat.le_of_ble_eq_true rfl) rfl ?_
      refine c270_1 (B := B) g0 0 7 (by omega) (hJ521.up (by omega)) (by omega) (by omega) (by omega) (fun v525 m523 hv525 hJ524 km523 hqv5250 hqv5251 => ?_)
      show X (EE s) d 275 58 [(0, zr g0 44), (1, zi v503)] [zi v525, zi (423 + v503), zr 4 45] m523 _
      refine X.i2l 59 i275_58 rfl rfl ?_
      refine X.last' 60 i275_59 rfl rfl (by decide) rfl (by omega) (fun hrm526 m526 hm526 => ?_)
      have hJ527 := w45_423 hJ524 hm526 (by omega) (by omega)
      have km526 : ∀ g, m526 g 8 9 = m523 g 8 9 := fun g9 => by rw [hm526]; exact z_upd_o _ _ rfl
      refine X.retv i275_60 rfl t275 ?_
      exact hQ  m526  (hJ527.up (by omega)) (fun g => by simp only [km501, km520, km523, km526]) 
-- WorkMeterModel.must
theorem c272_1 {s : Nat × (Nat → Int32)} {m0 m : zM} {B : Int} {d : Nat} {Q : Option zV → zM → Prop} (g0 : Nat) (a1 : Int) (hd : 14 ≤ d) (hJ : J m0 B m) (hB : B + 0 ≤ 1000000000) (ha1 : 59 ≤ a1 ∧ a1 ≤ 59) (hQ : ∀ m', J m0 (B) m' → (∀ g, m' g 8 9 = m g 8 9) → (m' g0 44 9 = 1 ∨ m g0 44 8 < m' g0 44 8) → Q none m') : X (EE s) d 272 0 [(0, zr g0 44), (1, zi a1)] [] m Q := by
  refine X.aload_n 1 i272_0 rfl rfl rfl ?_
  refine X.callv 4 [] [] [(0, zr g0 44)] i272_1 rfl (by decide) rfl rfl (by omega) rfl rfl (by decide) rfl t263 (Nat.le_of_ble_eq_true rfl) (Nat.le_of_ble_eq_true rfl) rfl ?_
  refine c263_1 (B := B) g0  (by omega) (hJ.self.up (by omega)) (by omega)  (fun m501 hJ502 km501 => ?_)
  have hJ504 := hJ.trans hJ502
  have mom501 := hJ502.mo g0
  show X (EE s) d 272 4 [(0, zr g0 44), (1, zi a1)] [] m501 _
  refine X.aload_n 5 i272_4 rfl rfl rfl ?_
  refine X.getI 8 8 i272_5 rfl rfl (by decide) rfl rfl rfl ?_
  have h505 := r44_8 hJ504 g0
  refine X.aload_n 9 i272_8 rfl rfl rfl ?_
  refine X.getI 12 5 i272_9 rfl rfl (by decide) rfl rfl rfl ?_
  have h506 := r44_5 hJ504 g0
  refine X.icmpge 41 15 i272_12 rfl rfl rfl (fun h507 => ?_) (fun h507 => ?_)
  · refine X.cut [(0, zr g0 44)] i272_41 rfl ?_
    refine X.aload_n 42 i272_41 rfl rfl rfl ?_
    refine X.iconst 43 i272_42 rfl rfl (by decide) ?_
    refine X.aload_n 44 i272_43 rfl rfl rfl ?_
    refine X.getI 47 8 i272_44 rfl rfl (by decide) rfl rfl rfl ?_
    refine X.callv 50 [zi 1, zi (m501 g0 44 8)] [] [(0, zr g0 44), (1, zi 1), (2, zi (m501 g0 44 8))] i272_47 rfl (by decide) rfl rfl (by omega) rfl rfl (by decide) rfl t268 (Nat.le_of_ble_eq_true rfl) (Nat.le_of_ble_eq_true rfl) rfl ?_
    refine c268_2 (B := B) g0 1 (m501 g0 44 8) (by omega) (hJ504.self.up (by omega)) (by omega) (by omega) (by omega) (fun m508 hJ509 km508 hqv5100 => ?_)
    have hJ511 := hJ504.trans hJ509
    have mom508 := hJ509.mo g0
    show X (EE s) d 272 50 [(0, zr g0 44)] [] m508 _
    refine X.cut [] i272_50 rfl ?_
    refine X.retv i272_50 rfl t272 ?_
    exact hQ  m508  (hJ511.up (by omega)) (fun g => by simp only [km501, km508]) (by omega)
  · refine X.aload_n 16 i272_15 rfl rfl rfl ?_
    refine X.getF 19 i272_16 rfl rfl (by decide) rfl rfl ?_
    refine X.aload_n 20 i272_19 rfl rfl rfl ?_
    refine X.getI 23 8 i272_20 rfl rfl (by decide) rfl rfl rfl ?_
    refine X.bald 24 i272_23 rfl rfl (by decide) rfl (by omega) (fun h512 => ?_)
    refine X.iload_n 25 i272_24 rfl rfl rfl ?_
    refine X.icmpne 41 28 i272_25 rfl rfl rfl (fun h513 => ?_) (fun h513 => ?_)
    · refine X.cut [(0, zr g0 44)] i272_41 rfl ?_
      refine X.aload_n 42 i272_41 rfl rfl rfl ?_
      refine X.iconst 43 i272_42 rfl rfl (by decide) ?_
      refine X.aload_n 44 i272_43 rfl rfl rfl ?_
      refine X.getI 47 8 i272_44 rfl rfl (by decide) rfl rfl rfl ?_
      refine X.callv 50 [zi 1, zi (m501 g0 44 8)] [] [(0, zr g0 44), (1, zi 1), (2, zi (m501 g0 44 8))] i272_47 rfl (by decide) rfl rfl (by omega) rfl rfl (by decide) rfl t268 (Nat.le_of_ble_eq_true rfl) (Nat.le_of_ble_eq_true rfl) rfl ?_
      refine c268_2 (B := B) g0 1 (m501 g0 44 8) (by omega) (hJ504.self.up (by omega)) (by omega) (by omega) (by omega) (fun m514 hJ515 km514 hqv5160 => ?_)
      have hJ517 := hJ504.trans hJ515
      have mom514 := hJ515.mo g0
      show X (EE s) d 272 50 [(0, zr g0 44)] [] m514 _
      refine X.cut [] i272_50 rfl ?_
      refine X.retv i272_50 rfl t272 ?_
      exact hQ  m514  (hJ517.up (by omega)) (fun g => by simp only [km501, km514]) (by omega)
    · refine X.aload_n 29 i272_28 rfl rfl rfl ?_
      refine X.dup 30 i272_29 rfl rfl rfl ?_
      refine X.getI 33 8 i272_30 rfl rfl (by decide) rfl rfl rfl ?_
      refine X.iconst 34 i272_33 rfl rfl (by decide) ?_
      refine X.iadd 35 i272_34 rfl rfl (by omega) ?_
      refine X.putI' 38 8 i272_35 rfl rfl (by decide) rfl rfl rfl (fun hrm518 m518 hm518 => ?_)
      have rmm518 := r44_8 hJ504 g0
      have hJ519 := w44_8 hJ504 hm518 (by omega) (by omega)
      have em518 : m518 g0 44 8 = ((m501 g0 44 8) + 1) := by rw [hm518]; exact z_upd_same _ _ _ _ _
      have km518 : ∀ g, m518 g 8 9 = m501 g 8 9 := fun g9 => by rw [hm518]; exact z_upd_o _ _ rfl
      have wmm5189 : m518 g0 44 9 = m501 g0 44 9 := by rw [hm518]; exact z_upd_o _ _ rfl
      have wmm51810 : m518 g0 44 10 = m501 g0 44 10 := by rw [hm518]; exact z_upd_o _ _ rfl
      refine X.goto 50 i272_38 rfl rfl ?_
      refine X.cut [] i272_50 rfl ?_
      refine X.retv i272_50 rfl t272 ?_
      exact hQ  m518  (hJ519.up (by omega)) (fun g => by simp only [km501, km518]) (by omega)
theorem l274_60_1 {s : Nat × (Nat → Int32)} {m0 : zM} {d : Nat} {Q : Option zV → zM → Prop} (g0 : Nat) (y1 : Int) (T9 : Nat → Int) (BE : Int) (hE : BE ≤ 1000000000) (hd : 15 ≤ d) (hy1 : 0 ≤ y1 ∧ y1 ≤ 3)
    (K95 : ∀ (m' : zM) (B' : Int), J m0 B' m' → B' ≤ BE → (∀ g, m' g 8 9 = T9 g) → X (EE s) d 274 95 [] [] m' Q) :
    ∀ (n : Nat) (y2 : Int) (m : zM) (B : Int), J m0 B m → B + 0 * (n : Int) ≤ BE → (∀ g, m g 8 9 = T9 g) → (0 ≤ y2 ∧ y2 ≤ 7) → 7 - y2 < (n : Int) → X (EE s) d 274 60 [(0, zr g0 44), (1, zi y1), (2, zi y2)] [] m Q := by
  intro n
  induction n with
  | zero =>
    intro y2 m B hJ hB hT hy2 hn
    exfalso
    omega
  | succ n ih =>
    intro y2 m B hJ hB hT hy2 hn
    refine X.iload_n 61 i274_60 rfl rfl rfl ?_
    refine X.bipush 63 i274_61 rfl rfl (by decide) ?_
    refine X.icmpge 95 66 i274_63 rfl rfl rfl (fun h507 => ?_) (fun h507 => ?_)
    · refine X.cut [] i274_95 rfl ?_
      exact K95  m (B) (hJ.up (by omega)) (by omega) (fun g => by simp only [hT]) 
    · refine X.aload_n 67 i274_66 rfl rfl rfl ?_
      refine X.getF 70 i274_67 rfl rfl (by decide) rfl rfl ?_
      refine X.sipush 73 i274_70 rfl rfl (by decide) ?_
      refine X.bipush 75 i274_73 rfl rfl (by decide) ?_
      refine X.iload_n 76 i274_75 rfl rfl rfl ?_
      refine X.imul 77 i274_76 rfl rfl (by omega) ?_
      refine X.iadd 78 i274_77 rfl rfl (by omega) ?_
      refine X.iload_n 79 i274_78 rfl rfl rfl ?_
      refine X.iadd 80 i274_79 rfl rfl (by omega) ?_
      refine X.aload_n 81 i274_80 rfl rfl rfl ?_
      refine X.iconst 82 i274_81 rfl rfl (by decide) ?_
      refine X.bipush 84 i274_82 rfl rfl (by decide) ?_
      refine X.callv 87 [zi 0, zi 7] [zi ((395 + (7 * y1)) + y2), zr 4 45] [(0, zr g0 44), (1, zi 0), (2, zi 7)] i274_84 rfl (by decide) rfl rfl (by omega) rfl rfl (by decide) rfl t270 (Nat.le_of_ble_eq_true rfl) (Nat.le_of_ble_eq_true rfl) rfl ?_
      refine c270_1 (B := B) g0 0 7 (by omega) (hJ.up (by omega)) (by omega) (by omega) (by omega) (fun v510 m508 hv510 hJ509 km508 hqv5100 hqv5101 => ?_)
      show X (EE s) d 274 87 [(0, zr g0 44), (1, zi y1), (2, zi y2)] [zi v510, zi ((395 + (7 * y1)) + y2), zr 4 45] m508 _
      refine X.i2l 88 i274_87 rfl rfl ?_
      refine X.last' 89 i274_88 rfl rfl (by decide) rfl (by omega) (fun hrm511 m511 hm511 => ?_)
      have hJ512 := w45_395 hJ509 hm511 (by omega) (by omega)
      have km511 : ∀ g, m511 g 8 9 = m508 g 8 9 := fun g9 => by rw [hm511]; exact z_upd_o _ _ rfl
      refine X.iinc 92 [(0, zr g0 44), (1, zi y1), (2, zi (y2 + 1))] i274_89 rfl rfl rfl (by omega) rfl ?_
      refine X.goto 60 i274_92 rfl rfl ?_
      exact ih (y2 + 1) m511 (B) (hJ512.up (by omega)) (by omega) (fun g => by simp only [km508, km511, hT]) (by omega) (by omega)
-- WorkMeterModel.seasonLine
theorem c274_1 {s : Nat × (Nat → Int32)} {m0 m : zM} {B : Int} {d : Nat} {Q : Option zV → zM → Prop} (g0 : Nat) (hd : 15 ≤ d) (hJ : J m0 B m) (hB : B + 0 ≤ 1000000000) (hQ : ∀ m', J m0 (B) m' → (∀ g, m' g 8 9 = m g 8 9) → Q none m') : X (EE s) d 274 0 [(0, zr g0 44)] [] m Q := by
  refine X.aload_n 1 i274_0 rfl rfl rfl ?_
  refine X.iconst 2 i274_1 rfl rfl (by decide) ?_
  refine X.iconst 3 i274_2 rfl rfl (by decide) ?_
  refine X.callv 6 [zi 0, zi 3] [] [(0, zr g0 44), (1, zi 0), (2, zi 3)] i274_3 rfl (by decide) rfl rfl (by omega) rfl rfl (by decide) rfl t270 (Nat.le_of_ble_eq_true rfl) (Nat.le_of_ble_eq_true rfl) rfl ?_
  refine c270_1 (B := B) g0 0 3 (by omega) (hJ.up (by omega)) (by omega) (by omega) (by omega) (fun v503 m501 hv503 hJ502 km501 hqv5030 hqv5031 => ?_)
  show X (EE s) d 274 6 [(0, zr g0 44)] [zi v503] m501 _
  refine X.istore_n 7 [(0, zr g0 44), (1, zi v503)] i274_6 rfl rfl rfl ?_
  refine X.aload_n 8 i274_7 rfl rfl rfl ?_
  refine X.getZ 11 9 i274_8 rfl rfl (by decide) rfl rfl rfl (fun h504 => ?_)
  refine X.ifne 32 14 i274_11 rfl rfl rfl (fun h505 => ?_) (fun h505 => ?_)
  · refine X.aload_n 33 i274_32 rfl rfl rfl ?_
    refine X.getF 36 i274_33 rfl rfl (by decide) rfl rfl ?_
    refine X.iload_n 37 i274_36 rfl rfl rfl ?_
    refine X.iconst 38 i274_37 rfl rfl (by decide) ?_
    refine X.zast' 39 i274_38 rfl rfl (by decide) rfl (by omega) (by omega) (fun hrm506 m506 hm506 => ?_)
    have hJ507 := w50_0 hJ502 hm506 (by omega) hrm506
    have km506 : ∀ g, m506 g 8 9 = m501 g 8 9 := fun g9 => by rw [hm506]; exact z_upd_o _ _ rfl
    refine X.aload_n 40 i274_39 rfl rfl rfl ?_
    refine X.getF 43 i274_40 rfl rfl (by decide) rfl rfl ?_
    refine X.sipush 46 i274_43 rfl rfl (by decide) ?_
    refine X.iload_n 47 i274_46 rfl rfl rfl ?_
    refine X.iadd 48 i274_47 rfl rfl (by omega) ?_
    refine X.aload_n 49 i274_48 rfl rfl rfl ?_
    refine X.iconst 50 i274_49 rfl rfl (by decide) ?_
    refine X.sipush 53 i274_50 rfl rfl (by decide) ?_
    refine X.callv 56 [zi 0, zi 364] [zi (391 + v503), zr 4 45] [(0, zr g0 44), (1, zi 0), (2, zi 364)] i274_53 rfl (by decide) rfl rfl (by omega) rfl rfl (by decide) rfl t270 (Nat.le_of_ble_eq_true rfl) (Nat.le_of_ble_eq_true rfl) rfl ?_
    refine c270_1 (B := B) g0 0 364 (by omega) (hJ507.up (by omega)) (by omega) (by omega) (by omega) (fun v510 m508 hv510 hJ509 km508 hqv5100 hqv5101 => ?_)
    show X (EE s) d 274 56 [(0, zr g0 44), (1, zi v503)] [zi v510, zi (391 + v503), zr 4 45] m508 _
    refine X.i2l 57 i274_56 rfl rfl ?_
    refine X.last' 58 i274_57 rfl rfl (by decide) rfl (by omega) (fun hrm511 m511 hm511 => ?_)
    have hJ512 := w45_391 hJ509 hm511 (by omega) (by omega)
    have km511 : ∀ g, m511 g 8 9 = m508 g 8 9 := fun g9 => by rw [hm511]; exact z_upd_o _ _ rfl
    refine X.iconst 59 i274_58 rfl rfl (by decide) ?_
    refine X.istore_n 60 [(0, zr g0 44), (1, zi v503), (2, zi 0)] i274_59 rfl rfl rfl ?_
    refine l274_60_1 (s := s) (m0 := m0) (d := d) g0 v503 (fun g => m g 8 9) (BE := B + 0) (by omega) (by omega) (by omega) (fun  m513 B514 hJ515 hBB514 hkm513 => ?_) ((7 - 0 : Int).toNat + 1) 0 m511 (B) (hJ512.up (by omega)) (by omega) (fun g => by simp only [km501, km506, km508, km511]) (by omega) (by omega)
    refine X.retv i274_95 rfl t274 ?_
    exact hQ  m513  (hJ515.up (by omega)) (fun g => by simp only [hkm513]) 
  · refine X.aload_n 15 i274_14 rfl rfl rfl ?_
    refine X.getF 18 i274_15 rfl rfl (by decide) rfl rfl ?_
    refine X.iload_n 19 i274_18 rfl rfl rfl ?_
    refine X.zald 20 i274_19 rfl rfl (by decide) rfl (by omega) (fun h516 => ?_)
    refine X.ifeq 32 23 i274_20 rfl rfl rfl (fun h517 => ?_) (fun h517 => ?_)
    · refine X.aload_n 33 i274_32 rfl rfl rfl ?_
      refine X.getF 36 i274_33 rfl rfl (by decide) rfl rfl ?_
      refine X.iload_n 37 i274_36 rfl rfl rfl ?_
      refine X.iconst 38 i274_37 rfl rfl (by decide) ?_
      refine X.zast' 39 i274_38 rfl rfl (by decide) rfl (by omega) (by omega) (fun hrm518 m518 hm518 => ?_)
      have hJ519 := w50_0 hJ502 hm518 (by omega) hrm518
      have km518 : ∀ g, m518 g 8 9 = m501 g 8 9 := fun g9 => by rw [hm518]; exact z_upd_o _ _ rfl
      refine X.aload_n 40 i274_39 rfl rfl rfl ?_
      refine X.getF 43 i274_40 rfl rfl (by decide) rfl rfl ?_
      refine X.sipush 46 i274_43 rfl rfl (by decide) ?_
      refine X.iload_n 47 i274_46 rfl rfl rfl ?_
      refine X.iadd 48 i274_47 rfl rfl (by omega) ?_
      refine X.aload_n 49 i274_48 rfl rfl rfl ?_
      refine X.iconst 50 i274_49 rfl rfl (by decide) ?_
      refine X.sipush 53 i274_50 rfl rfl (by decide) ?_
      refine X.callv 56 [zi 0, zi 364] [zi (391 + v503), zr 4 45] [(0, zr g0 44), (1, zi 0), (2, zi 364)] i274_53 rfl (by decide) rfl rfl (by omega) rfl rfl (by decide) rfl t270 (Nat.le_of_ble_eq_true rfl) (Nat.le_of_ble_eq_true rfl) rfl ?_
      refine c270_1 (B := B) g0 0 364 (by omega) (hJ519.up (by omega)) (by omega) (by omega) (by omega) (fun v522 m520 hv522 hJ521 km520 hqv5220 hqv5221 => ?_)
      show X (EE s) d 274 56 [(0, zr g0 44), (1, zi v503)] [zi v522, zi (391 + v503), zr 4 45] m520 _
      refine X.i2l 57 i274_56 rfl rfl ?_
      refine X.last' 58 i274_57 rfl rfl (by decide) rfl (by omega) (fun hrm523 m523 hm523 => ?_)
      have hJ524 := w45_391 hJ521 hm523 (by omega) (by omega)
      have km523 : ∀ g, m523 g 8 9 = m520 g 8 9 := fun g9 => by rw [hm523]; exact z_upd_o _ _ rfl
      refine X.iconst 59 i274_58 rfl rfl (by decide) ?_
      refine X.istore_n 60 [(0, zr g0 44), (1, zi v503), (2, zi 0)] i274_59 rfl rfl rfl ?_
      refine l274_60_1 (s := s) (m0 := m0) (d := d) g0 v503 (fun g => m g 8 9) (BE := B + 0) (by omega) (by omega) (by omega) (fun  m525 B526 hJ527 hBB526 hkm525 => ?_) ((7 - 0 : Int).toNat + 1) 0 m523 (B) (hJ524.up (by omega)) (by omega) (fun g => by simp only [km501, km518, km520, km523]) (by omega) (by omega)
      refine X.retv i274_95 rfl t274 ?_
      exact hQ  m525  (hJ527.up (by omega)) (fun g => by simp only [hkm525]) 
    · refine X.aload_n 24 i274_23 rfl rfl rfl ?_
      refine X.iconst 25 i274_24 rfl rfl (by decide) ?_
      refine X.aload_n 26 i274_25 rfl rfl rfl ?_
      refine X.getIr 29 10 i274_26 rfl rfl (by decide) rfl rfl rfl (fun h528 => ?_)
      refine X.callv 32 [zi 3, zi (m501 g0 44 10)] [] [(0, zr g0 44), (1, zi 3), (2, zi (m501 g0 44 10))] i274_29 rfl (by decide) rfl rfl (by omega) rfl rfl (by decide) rfl t268 (Nat.le_of_ble_eq_true rfl) (Nat.le_of_ble_eq_true rfl) rfl ?_
      refine c268_3 (B := B) g0 3 (m501 g0 44 10) (by omega) (hJ502.up (by omega)) (by omega) (by omega) (by omega) (fun m529 hJ530 km529 hqv5310 => ?_)
      show X (EE s) d 274 32 [(0, zr g0 44), (1, zi v503)] [] m529 _
      refine X.aload_n 33 i274_32 rfl rfl rfl ?_
      refine X.getF 36 i274_33 rfl rfl (by decide) rfl rfl ?_
      refine X.iload_n 37 i274_36 rfl rfl rfl ?_
      refine X.iconst 38 i274_37 rfl rfl (by decide) ?_
      refine X.zast' 39 i274_38 rfl rfl (by decide) rfl (by omega) (by omega) (fun hrm532 m532 hm532 => ?_)
      have hJ533 := w50_0 hJ530 hm532 (by omega) hrm532
      have km532 : ∀ g, m532 g 8 9 = m529 g 8 9 := fun g9 => by rw [hm532]; exact z_upd_o _ _ rfl
      refine X.aload_n 40 i274_39 rfl rfl rfl ?_
      refine X.getF 43 i274_40 rfl rfl (by decide) rfl rfl ?_
      refine X.sipush 46 i274_43 rfl rfl (by decide) ?_
      refine X.iload_n 47 i274_46 rfl rfl rfl ?_
      refine X.iadd 48 i274_47 rfl rfl (by omega) ?_
      refine X.aload_n 49 i274_48 rfl rfl rfl ?_
      refine X.iconst 50 i274_49 rfl rfl (by decide) ?_
      refine X.sipush 53 i274_50 rfl rfl (by decide) ?_
      refine X.callv 56 [zi 0, zi 364] [zi (391 + v503), zr 4 45] [(0, zr g0 44), (1, zi 0), (2, zi 364)] i274_53 rfl (by decide) rfl rfl (by omega) rfl rfl (by decide) rfl t270 (Nat.le_of_ble_eq_true rfl) (Nat.le_of_ble_eq_true rfl) rfl ?_
      refine c270_1 (B := B) g0 0 364 (by omega) (hJ533.up (by omega)) (by omega) (by omega) (by omega) (fun v536 m534 hv536 hJ535 km534 hqv5360 hqv5361 => ?_)
      show X (EE s) d 274 56 [(0, zr g0 44), (1, zi v503)] [zi v536, zi (391 + v503), zr 4 45] m534 _
      refine X.i2l 57 i274_56 rfl rfl ?_
      refine X.last' 58 i274_57 rfl rfl (by decide) rfl (by omega) (fun hrm537 m537 hm537 => ?_)
      have hJ538 := w45_391 hJ535 hm537 (by omega) (by omega)
      have km537 : ∀ g, m537 g 8 9 = m534 g 8 9 := fun g9 => by rw [hm537]; exact z_upd_o _ _ rfl
      refine X.iconst 59 i274_58 rfl rfl (by decide) ?_
      refine X.istore_n 60 [(0, zr g0 44), (1, zi v503), (2, zi 0)] i274_59 rfl rfl rfl ?_
      refine l274_60_1 (s := s) (m0 := m0) (d := d) g0 v503 (fun g => m g 8 9) (BE := B + 0) (by omega) (by omega) (by omega) (fun  m539 B540 hJ541 hBB540 hkm539 => ?_) ((7 - 0 : Int).toNat + 1) 0 m537 (B) (hJ538.up (by omega)) (by omega) (fun g => by simp only [km501, km529, km532, km534, km537]) (by omega) (by omega)
      refine X.retv i274_95 rfl t274 ?_
      exact hQ  m539  (hJ541.up (by omega)) (fun g => by simp only [hkm539]) 
-- WorkMeterModel.isDigitNext
theorem c271_1 {s : Nat × (Nat → Int32)} {m0 m : zM} {B : Int} {d : Nat} {Q : Option zV → zM → Prop} (g0 : Nat) (hd : 14 ≤ d) (hJ : J m0 B m) (hB : B + 0 ≤ 1000000000) (hQ : ∀ (v : Int) m', (0 ≤ v ∧ v ≤ 1) → J m0 (B) m' → (∀ g, m' g 8 9 = m g 8 9) → Q (some (zi v)) m') : X (EE s) d 271 0 [(0, zr g0 44)] [] m Q := by
  refine X.aload_n 1 i271_0 rfl rfl rfl ?_
  refine X.callv 4 [] [] [(0, zr g0 44)] i271_1 rfl (by decide) rfl rfl (by omega) rfl rfl (by decide) rfl t263 (Nat.le_of_ble_eq_true rfl) (Nat.le_of_ble_eq_true rfl) rfl ?_
  refine c263_1 (B := B) g0  (by omega) (hJ.up (by omega)) (by omega)  (fun m501 hJ502 km501 => ?_)
  show X (EE s) d 271 4 [(0, zr g0 44)] [] m501 _
  refine X.aload_n 5 i271_4 rfl rfl rfl ?_
  refine X.getI 8 8 i271_5 rfl rfl (by decide) rfl rfl rfl ?_
  have h504 := r44_8 hJ502 g0
  refine X.aload_n 9 i271_8 rfl rfl rfl ?_
  refine X.getI 12 5 i271_9 rfl rfl (by decide) rfl rfl rfl ?_
  have h505 := r44_5 hJ502 g0
  refine X.icmpge 41 15 i271_12 rfl rfl rfl (fun h506 => ?_) (fun h506 => ?_)
  · refine X.cut [] i271_41 rfl ?_
    refine X.iconst 42 i271_41 rfl rfl (by decide) ?_
    refine X.retz i271_42 rfl t271 (by omega) ?_
    exact hQ 0 m501 (by first | trivial | omega) (hJ502.up (by omega)) (fun g => by simp only [km501]) 
  · refine X.aload_n 16 i271_15 rfl rfl rfl ?_
    refine X.getF 19 i271_16 rfl rfl (by decide) rfl rfl ?_
    refine X.aload_n 20 i271_19 rfl rfl rfl ?_
    refine X.getI 23 8 i271_20 rfl rfl (by decide) rfl rfl rfl ?_
    refine X.bald 24 i271_23 rfl rfl (by decide) rfl (by omega) (fun h507 => ?_)
    refine X.i2l 25 i271_24 rfl rfl ?_
    refine X.ldc2 28 i271_25 rfl rfl (by decide) ?_
    refine X.ldc2 31 i271_28 rfl rfl (by decide) ?_
    refine X.calls 34 [zl (m501 4 48 (m501 g0 44 8)), zl 48, zl 57] [] [(0, zl (m501 4 48 (m501 g0 44 8))), (2, zl 48), (4, zl 57)] i271_31 (by decide) rfl rfl (by omega) rfl rfl t204 (Nat.le_of_ble_eq_true rfl) (Nat.le_of_ble_eq_true rfl) rfl ?_
    refine X.lload_n 1 i204_0 rfl rfl rfl ?_
    refine X.lload_n 2 i204_1 rfl rfl rfl ?_
    refine X.lcmp 3 i204_2 rfl rfl (fun z508 hz508 => ?_)
    refine X.iflt 17 6 i204_3 rfl rfl rfl (fun h509 => ?_) (fun h509 => ?_)
    · have h509c : (m501 4 48 (m501 g0 44 8)) < 48 := by omega
      clear h509 hz508
      refine X.cut [] i204_17 rfl ?_
      refine X.iconst 18 i204_17 rfl rfl (by decide) ?_
      refine X.retz i204_18 rfl t204 (by omega) ?_
      show X (EE s) d 271 34 [(0, zr g0 44)] [zi 0] m501 _
      refine X.ifeq 41 37 i271_34 rfl rfl rfl (fun h510 => ?_) (fun h510 => (by exfalso; omega))
      refine X.cut [] i271_41 rfl ?_
      refine X.iconst 42 i271_41 rfl rfl (by decide) ?_
      refine X.retz i271_42 rfl t271 (by omega) ?_
      exact hQ 0 m501 (by first | trivial | omega) (hJ502.up (by omega)) (fun g => by simp only [km501]) 
    · have h509c : (m501 4 48 (m501 g0 44 8)) ≥ 48 := by omega
      clear h509 hz508
      refine X.lload_n 7 i204_6 rfl rfl rfl ?_
      refine X.lload 9 i204_7 rfl rfl rfl ?_
      refine X.lcmp 10 i204_9 rfl rfl (fun z511 hz511 => ?_)
      refine X.ifgt 17 13 i204_10 rfl rfl rfl (fun h512 => ?_) (fun h512 => ?_)
      · have h512c : (m501 4 48 (m501 g0 44 8)) > 57 := by omega
        clear h512 hz511
        refine X.cut [] i204_17 rfl ?_
        refine X.iconst 18 i204_17 rfl rfl (by decide) ?_
        refine X.retz i204_18 rfl t204 (by omega) ?_
        show X (EE s) d 271 34 [(0, zr g0 44)] [zi 0] m501 _
        refine X.ifeq 41 37 i271_34 rfl rfl rfl (fun h513 => ?_) (fun h513 => (by exfalso; omega))
        refine X.cut [] i271_41 rfl ?_
        refine X.iconst 42 i271_41 rfl rfl (by decide) ?_
        refine X.retz i271_42 rfl t271 (by omega) ?_
        exact hQ 0 m501 (by first | trivial | omega) (hJ502.up (by omega)) (fun g => by simp only [km501]) 
      · have h512c : (m501 4 48 (m501 g0 44 8)) ≤ 57 := by omega
        clear h512 hz511
        refine X.iconst 14 i204_13 rfl rfl (by decide) ?_
        refine X.goto 18 i204_14 rfl rfl ?_
        refine X.cut [] i204_18 rfl ?_
        refine X.retz i204_18 rfl t204 (by omega) ?_
        show X (EE s) d 271 34 [(0, zr g0 44)] [zi 1] m501 _
        refine X.ifeq 41 37 i271_34 rfl rfl rfl (fun h514 => (by exfalso; omega)) (fun h514 => ?_)
        refine X.iconst 38 i271_37 rfl rfl (by decide) ?_
        refine X.goto 42 i271_38 rfl rfl ?_
        refine X.cut [] i271_42 rfl ?_
        refine X.retz i271_42 rfl t271 (by omega) ?_
        exact hQ 1 m501 (by first | trivial | omega) (hJ502.up (by omega)) (fun g => by simp only [km501]) 
-- WorkMeterModel.must
theorem c272_2 {s : Nat × (Nat → Int32)} {m0 m : zM} {B : Int} {d : Nat} {Q : Option zV → zM → Prop} (g0 : Nat) (a1 : Int) (hd : 14 ≤ d) (hJ : J m0 B m) (hB : B + 0 ≤ 1000000000) (ha1 : 58 ≤ a1 ∧ a1 ≤ 58) (hQ : ∀ m', J m0 (B) m' → (∀ g, m' g 8 9 = m g 8 9) → (m' g0 44 9 = 1 ∨ m g0 44 8 < m' g0 44 8) → Q none m') : X (EE s) d 272 0 [(0, zr g0 44), (1, zi a1)] [] m Q := by
  refine X.aload_n 1 i272_0 rfl rfl rfl ?_
  refine X.callv 4 [] [] [(0, zr g0 44)] i272_1 rfl (by decide) rfl rfl (by omega) rfl rfl (by decide) rfl t263 (Nat.le_of_ble_eq_true rfl) (Nat.le_of_ble_eq_true rfl) rfl ?_
  refine c263_1 (B := B) g0  (by omega) (hJ.self.up (by omega)) (by omega)  (fun m501 hJ502 km501 => ?_)
  have hJ504 := hJ.trans hJ502
  have mom501 := hJ502.mo g0
  show X (EE s) d 272 4 [(0, zr g0 44), (1, zi a1)] [] m501 _
  refine X.aload_n 5 i272_4 rfl rfl rfl ?_
  refine X.getI 8 8 i272_5 rfl rfl (by decide) rfl rfl rfl ?_
  have h505 := r44_8 hJ504 g0
  refine X.aload_n 9 i272_8 rfl rfl rfl ?_
  refine X.getI 12 5 i272_9 rfl rfl (by decide) rfl rfl rfl ?_
  have h506 := r44_5 hJ504 g0
  refine X.icmpge 41 15 i272_12 rfl rfl rfl (fun h507 => ?_) (fun h507 => ?_)
  · refine X.cut [(0, zr g0 44)] i272_41 rfl ?_
    refine X.aload_n 42 i272_41 rfl rfl rfl ?_
    refine X.iconst 43 i272_42 rfl rfl (by decide) ?_
    refine X.aload_n 44 i272_43 rfl rfl rfl ?_
    refine X.getI 47 8 i272_44 rfl rfl (by decide) rfl rfl rfl ?_
    refine X.callv 50 [zi 1, zi (m501 g0 44 8)] [] [(0, zr g0 44), (1, zi 1), (2, zi (m501 g0 44 8))] i272_47 rfl (by decide) rfl rfl (by omega) rfl rfl (by decide) rfl t268 (Nat.le_of_ble_eq_true rfl) (Nat.le_of_ble_eq_true rfl) rfl ?_
    refine c268_2 (B := B) g0 1 (m501 g0 44 8) (by omega) (hJ504.self.up (by omega)) (by omega) (by omega) (by omega) (fun m508 hJ509 km508 hqv5100 => ?_)
    have hJ511 := hJ504.trans hJ509
    have mom508 := hJ509.mo g0
    show X (EE s) d 272 50 [(0, zr g0 44)] [] m508 _
    refine X.cut [] i272_50 rfl ?_
    refine X.retv i272_50 rfl t272 ?_
    exact hQ  m508  (hJ511.up (by omega)) (fun g => by simp only [km501, km508]) (by omega)
  · refine X.aload_n 16 i272_15 rfl rfl rfl ?_
    refine X.getF 19 i272_16 rfl rfl (by decide) rfl rfl ?_
    refine X.aload_n 20 i272_19 rfl rfl rfl ?_
    refine X.getI 23 8 i272_20 rfl rfl (by decide) rfl rfl rfl ?_
    refine X.bald 24 i272_23 rfl rfl (by decide) rfl (by omega) (fun h512 => ?_)
    refine X.iload_n 25 i272_24 rfl rfl rfl ?_
    refine X.icmpne 41 28 i272_25 rfl rfl rfl (fun h513 => ?_) (fun h513 => ?_)
    · refine X.cut [(0, zr g0 44)] i272_41 rfl ?_
      refine X.aload_n 42 i272_41 rfl rfl rfl ?_
      refine X.iconst 43 i272_42 rfl rfl (by decide) ?_
      refine X.aload_n 44 i272_43 rfl rfl rfl ?_
      refine X.getI 47 8 i272_44 rfl rfl (by decide) rfl rfl rfl ?_
      refine X.callv 50 [zi 1, zi (m501 g0 44 8)] [] [(0, zr g0 44), (1, zi 1), (2, zi (m501 g0 44 8))] i272_47 rfl (by decide) rfl rfl (by omega) rfl rfl (by decide) rfl t268 (Nat.le_of_ble_eq_true rfl) (Nat.le_of_ble_eq_true rfl) rfl ?_
      refine c268_2 (B := B) g0 1 (m501 g0 44 8) (by omega) (hJ504.self.up (by omega)) (by omega) (by omega) (by omega) (fun m514 hJ515 km514 hqv5160 => ?_)
      have hJ517 := hJ504.trans hJ515
      have mom514 := hJ515.mo g0
      show X (EE s) d 272 50 [(0, zr g0 44)] [] m514 _
      refine X.cut [] i272_50 rfl ?_
      refine X.retv i272_50 rfl t272 ?_
      exact hQ  m514  (hJ517.up (by omega)) (fun g => by simp only [km501, km514]) (by omega)
    · refine X.aload_n 29 i272_28 rfl rfl rfl ?_
      refine X.dup 30 i272_29 rfl rfl rfl ?_
      refine X.getI 33 8 i272_30 rfl rfl (by decide) rfl rfl rfl ?_
      refine X.iconst 34 i272_33 rfl rfl (by decide) ?_
      refine X.iadd 35 i272_34 rfl rfl (by omega) ?_
      refine X.putI' 38 8 i272_35 rfl rfl (by decide) rfl rfl rfl (fun hrm518 m518 hm518 => ?_)
      have rmm518 := r44_8 hJ504 g0
      have hJ519 := w44_8 hJ504 hm518 (by omega) (by omega)
      have em518 : m518 g0 44 8 = ((m501 g0 44 8) + 1) := by rw [hm518]; exact z_upd_same _ _ _ _ _
      have km518 : ∀ g, m518 g 8 9 = m501 g 8 9 := fun g9 => by rw [hm518]; exact z_upd_o _ _ rfl
      have wmm5189 : m518 g0 44 9 = m501 g0 44 9 := by rw [hm518]; exact z_upd_o _ _ rfl
      have wmm51810 : m518 g0 44 10 = m501 g0 44 10 := by rw [hm518]; exact z_upd_o _ _ rfl
      refine X.goto 50 i272_38 rfl rfl ?_
      refine X.cut [] i272_50 rfl ?_
      refine X.retv i272_50 rfl t272 ?_
      exact hQ  m518  (hJ519.up (by omega)) (fun g => by simp only [km501, km518]) (by omega)
theorem l273_2_1 {s : Nat × (Nat → Int32)} {m0 m : zM} {B : Int} {d : Nat} {Q : Option zV → zM → Prop} (g0 : Nat) (y1 y2 : Int) (hd : 13 ≤ d) (hJ : J m0 B m) (hB9 : B ≤ 1000000000) (hy1 : 0 ≤ y1 ∧ y1 ≤ 7) (hy2 : 0 ≤ y2 ∧ y2 ≤ 86340)
    (K39 : ∀ (x3 : Int) , (0 ≤ x3 ∧ x3 ≤ 5) → X (EE s) d 273 39 [(0, zr g0 44), (1, zi y1), (2, zi y2), (3, zi x3)] [] m Q)
    (K47 : X (EE s) d 273 47 [] [] m Q) :
    ∀ (n : Nat) (y3 : Int) , (0 ≤ y3 ∧ y3 ≤ 6) → 6 - y3 < (n : Int) → X (EE s) d 273 2 [(0, zr g0 44), (1, zi y1), (2, zi y2), (3, zi y3)] [] m Q := by
  intro n
  induction n with
  | zero =>
    intro y3 hy3 hn
    exfalso
    omega
  | succ n ih =>
    intro y3 hy3 hn
    refine X.iload_n 3 i273_2 rfl rfl rfl ?_
    refine X.i2l 4 i273_3 rfl rfl ?_
    refine X.aload_n 5 i273_4 rfl rfl rfl ?_
    refine X.getF 8 i273_5 rfl rfl (by decide) rfl rfl ?_
    refine X.sipush 11 i273_8 rfl rfl (by decide) ?_
    refine X.iload_n 12 i273_11 rfl rfl rfl ?_
    refine X.iadd 13 i273_12 rfl rfl (by omega) ?_
    refine X.lald 14 i273_13 rfl rfl (by decide) rfl (by omega) ?_
    have h509 := r45_287 hJ 4 (i := (287 + y1)) (by omega)
    refine X.lcmp 15 i273_14 rfl rfl (fun z510 hz510 => ?_)
    refine X.ifge 47 18 i273_15 rfl rfl rfl (fun h511 => ?_) (fun h511 => ?_)
    · have h511c : y3 ≥ (m 4 45 (287 + y1)) := by omega
      clear h511 hz510
      refine X.cut [] i273_47 rfl ?_
      exact K47  
    · have h511c : y3 < (m 4 45 (287 + y1)) := by omega
      clear h511 hz510
      refine X.aload_n 19 i273_18 rfl rfl rfl ?_
      refine X.getF 22 i273_19 rfl rfl (by decide) rfl rfl ?_
      refine X.sipush 25 i273_22 rfl rfl (by decide) ?_
      refine X.bipush 27 i273_25 rfl rfl (by decide) ?_
      refine X.iload_n 28 i273_27 rfl rfl rfl ?_
      refine X.imul 29 i273_28 rfl rfl (by omega) ?_
      refine X.iadd 30 i273_29 rfl rfl (by omega) ?_
      refine X.iload_n 31 i273_30 rfl rfl rfl ?_
      refine X.iadd 32 i273_31 rfl rfl (by omega) ?_
      refine X.lald 33 i273_32 rfl rfl (by decide) rfl (by omega) ?_
      have h512 := r45_295 hJ 4 (i := ((295 + (6 * y1)) + y3)) (by omega)
      refine X.iload_n 34 i273_33 rfl rfl rfl ?_
      refine X.i2l 35 i273_34 rfl rfl ?_
      refine X.lcmp 36 i273_35 rfl rfl (fun z513 hz513 => ?_)
      refine X.ifne 41 39 i273_36 rfl rfl rfl (fun h514 => ?_) (fun h514 => ?_)
      · have h514c : (m 4 45 ((295 + (6 * y1)) + y3)) ≠ y2 := by omega
        clear h514 hz513
        refine X.iinc 44 [(0, zr g0 44), (1, zi y1), (2, zi y2), (3, zi (y3 + 1))] i273_41 rfl rfl rfl (by omega) rfl ?_
        refine X.goto 2 i273_44 rfl rfl ?_
        exact ih (y3 + 1) (by omega) (by omega)
      · have h514c : (m 4 45 ((295 + (6 * y1)) + y3)) = y2 := by omega
        clear h514 hz513
        exact K39 y3 (by first | trivial | omega)
-- WorkMeterModel.isSwitch
theorem c273_1 {s : Nat × (Nat → Int32)} {m0 m : zM} {B : Int} {d : Nat} {Q : Option zV → zM → Prop} (g0 : Nat) (a1 a2 : Int) (hd : 13 ≤ d) (hJ : J m0 B m) (hB : B + 0 ≤ 1000000000) (ha1 : 0 ≤ a1 ∧ a1 ≤ 7) (ha2 : 0 ≤ a2 ∧ a2 ≤ 86340) (hQ : ∀ (v : Int), (0 ≤ v ∧ v ≤ 1) → Q (some (zi v)) m) : X (EE s) d 273 0 [(0, zr g0 44), (1, zi a1), (2, zi a2)] [] m Q := by
  refine X.iconst 1 i273_0 rfl rfl (by decide) ?_
  refine X.istore_n 2 [(0, zr g0 44), (1, zi a1), (2, zi a2), (3, zi 0)] i273_1 rfl rfl rfl ?_
  refine l273_2_1 (s := s) (m0 := m0) (m := m) (B := B) (d := d) g0 a1 a2 (by omega) (hJ.up (by omega)) (by omega) (by omega) (by omega) (fun y501 hby501 => ?_) ?_ ((6 - 0 : Int).toNat + 1) 0 (by omega) (by omega)
  · refine X.iconst 40 i273_39 rfl rfl (by decide) ?_
    refine X.retz i273_40 rfl t273 (by omega) ?_
    exact hQ 1 (by first | trivial | omega) 
  · refine X.iconst 48 i273_47 rfl rfl (by decide) ?_
    refine X.retz i273_48 rfl t273 (by omega) ?_
    exact hQ 0 (by first | trivial | omega) 
-- WorkMeterModel.wrong
theorem c268_4 {s : Nat × (Nat → Int32)} {m0 m : zM} {B : Int} {d : Nat} {Q : Option zV → zM → Prop} (g0 : Nat) (a1 a2 : Int) (hd : 13 ≤ d) (hJ : J m0 B m) (hB : B + 0 ≤ 1000000000) (ha1 : 4 ≤ a1 ∧ a1 ≤ 4) (ha2 : (-2147483648) ≤ a2 ∧ a2 ≤ 2147483647) (hQ : ∀ m', J m0 (B) m' → (∀ g, m' g 8 9 = m g 8 9) → (m' g0 44 9 = 1) → Q none m') : X (EE s) d 268 0 [(0, zr g0 44), (1, zi a1), (2, zi a2)] [] m Q := by
  refine X.aload_n 1 i268_0 rfl rfl rfl ?_
  refine X.getZ 4 9 i268_1 rfl rfl (by decide) rfl rfl rfl (fun h501 => ?_)
  refine X.ifeq 8 7 i268_4 rfl rfl rfl (fun h502 => ?_) (fun h502 => ?_)
  · refine X.aload_n 9 i268_8 rfl rfl rfl ?_
    refine X.iconst 10 i268_9 rfl rfl (by decide) ?_
    refine X.putZ' 13 9 i268_10 rfl rfl (by decide) rfl rfl rfl (by omega) (fun hrm503 m503 hm503 => ?_)
    have rmm503 := r44_9 hJ g0
    have hJ504 := w44_9 hJ hm503 (by omega) (by omega)
    have em503 : m503 g0 44 9 = 1 := by rw [hm503]; exact z_upd_same _ _ _ _ _
    have km503 : ∀ g, m503 g 8 9 = m g 8 9 := fun g9 => by rw [hm503]; exact z_upd_o _ _ rfl
    have wmm5038 : m503 g0 44 8 = m g0 44 8 := by rw [hm503]; exact z_upd_o _ _ rfl
    have wmm50310 : m503 g0 44 10 = m g0 44 10 := by rw [hm503]; exact z_upd_o _ _ rfl
    refine X.aload_n 14 i268_13 rfl rfl rfl ?_
    refine X.iload_n 15 i268_14 rfl rfl rfl ?_
    refine X.putI' 18 6 i268_15 rfl rfl (by decide) rfl rfl rfl (fun hrm505 m505 hm505 => ?_)
    have hJ506 := w44_6 hJ504 hm505 (by omega) hrm505
    have km505 : ∀ g, m505 g 8 9 = m503 g 8 9 := fun g9 => by rw [hm505]; exact z_upd_o _ _ rfl
    have wmm5058 : m505 g0 44 8 = m503 g0 44 8 := by rw [hm505]; exact z_upd_o _ _ rfl
    have wmm5059 : m505 g0 44 9 = m503 g0 44 9 := by rw [hm505]; exact z_upd_o _ _ rfl
    have wmm50510 : m505 g0 44 10 = m503 g0 44 10 := by rw [hm505]; exact z_upd_o _ _ rfl
    refine X.aload_n 19 i268_18 rfl rfl rfl ?_
    refine X.iload_n 20 i268_19 rfl rfl rfl ?_
    refine X.putI' 23 7 i268_20 rfl rfl (by decide) rfl rfl rfl (fun hrm507 m507 hm507 => ?_)
    have hJ508 := w44_6 hJ506 hm507 (by omega) hrm507
    have km507 : ∀ g, m507 g 8 9 = m505 g 8 9 := fun g9 => by rw [hm507]; exact z_upd_o _ _ rfl
    have wmm5078 : m507 g0 44 8 = m505 g0 44 8 := by rw [hm507]; exact z_upd_o _ _ rfl
    have wmm5079 : m507 g0 44 9 = m505 g0 44 9 := by rw [hm507]; exact z_upd_o _ _ rfl
    have wmm50710 : m507 g0 44 10 = m505 g0 44 10 := by rw [hm507]; exact z_upd_o _ _ rfl
    refine X.retv i268_23 rfl t268 ?_
    exact hQ  m507  (hJ508.up (by omega)) (fun g => by simp only [km503, km505, km507]) (by omega)
  · refine X.retv i268_7 rfl t268 ?_
    exact hQ  m  (hJ.up (by omega)) (fun g => rfl) (by omega)
theorem l269_40_1 {s : Nat × (Nat → Int32)} {m0 : zM} {d : Nat} {Q : Option zV → zM → Prop} (g0 : Nat) (y1 : Int) (T9 : Nat → Int) (BE : Int) (hE : BE ≤ 1000000000) (hd : 15 ≤ d) (hy1 : 0 ≤ y1 ∧ y1 ≤ 7)
    (K175 : ∀ (m' : zM) (B' : Int), J m0 B' m' → B' ≤ BE → (∀ g, m' g 8 9 = T9 g) → X (EE s) d 269 175 [] [] m' Q) :
    ∀ (n : Nat) (m : zM) (B : Int), J m0 B m → B + 0 * (n : Int) ≤ BE → (∀ g, m g 8 9 = T9 g) → 604 - m g0 44 8 - 302 * m g0 44 9 < (n : Int) → X (EE s) d 269 40 [(0, zr g0 44), (1, zi y1)] [] m Q := by
  intro n
  induction n with
  | zero =>
    intro  m B hJ hB hT  hn
    have zf0 := r44_8 hJ g0
    have zf1 := r44_9 hJ g0
    exfalso
    omega
  | succ n ih =>
    intro  m B hJ hB hT  hn
    refine X.aload_n 41 i269_40 rfl rfl rfl ?_
    refine X.getZ 44 9 i269_41 rfl rfl (by decide) rfl rfl rfl (fun h669 => ?_)
    refine X.ifne 175 47 i269_44 rfl rfl rfl (fun h670 => ?_) (fun h670 => ?_)
    · refine X.cut [] i269_175 rfl ?_
      exact K175  m (B) (hJ.up (by omega)) (by omega) (fun g => by simp only [hT]) 
    · refine X.aload_n 48 i269_47 rfl rfl rfl ?_
      refine X.callv 51 [] [] [(0, zr g0 44)] i269_48 rfl (by decide) rfl rfl (by omega) rfl rfl (by decide) rfl t271 (Nat.le_of_ble_eq_true rfl) (Nat.le_of_ble_eq_true rfl) rfl ?_
      refine c271_1 (B := B) g0  (by omega) (hJ.self.up (by omega)) (by omega)  (fun v673 m671 hv673 hJ672 km671 => ?_)
      have hJ674 := hJ.trans hJ672
      have mom671 := hJ672.mo g0
      show X (EE s) d 269 51 [(0, zr g0 44), (1, zi y1)] [zi v673] m671 _
      refine X.ifeq 175 54 i269_51 rfl rfl rfl (fun h675 => ?_) (fun h675 => ?_)
      · refine X.cut [] i269_175 rfl ?_
        exact K175  m671 (B) (hJ674.up (by omega)) (by omega) (fun g => by simp only [km671, hT]) 
      · refine X.aload_n 55 i269_54 rfl rfl rfl ?_
        refine X.iconst 56 i269_55 rfl rfl (by decide) ?_
        refine X.bipush 58 i269_56 rfl rfl (by decide) ?_
        refine X.callv 61 [zi 0, zi 23] [] [(0, zr g0 44), (1, zi 0), (2, zi 23)] i269_58 rfl (by decide) rfl rfl (by omega) rfl rfl (by decide) rfl t270 (Nat.le_of_ble_eq_true rfl) (Nat.le_of_ble_eq_true rfl) rfl ?_
        refine c270_1 (B := B) g0 0 23 (by omega) (hJ674.self.up (by omega)) (by omega) (by omega) (by omega) (fun v678 m676 hv678 hJ677 km676 hqv6780 hqv6781 => ?_)
        have hJ679 := hJ674.trans hJ677
        have mom676 := hJ677.mo g0
        show X (EE s) d 269 61 [(0, zr g0 44), (1, zi y1)] [zi v678] m676 _
        refine X.istore_n 62 [(0, zr g0 44), (1, zi y1), (2, zi v678)] i269_61 rfl rfl rfl ?_
        refine X.aload_n 63 i269_62 rfl rfl rfl ?_
        refine X.getZ 66 9 i269_63 rfl rfl (by decide) rfl rfl rfl (fun h680 => ?_)
        refine X.ifne 95 69 i269_66 rfl rfl rfl (fun h681 => ?_) (fun h681 => ?_)
        · refine X.aload_n 96 i269_95 rfl rfl rfl ?_
          refine X.bipush 98 i269_96 rfl rfl (by decide) ?_
          refine X.callv 101 [zi 58] [] [(0, zr g0 44), (1, zi 58)] i269_98 rfl (by decide) rfl rfl (by omega) rfl rfl (by decide) rfl t272 (Nat.le_of_ble_eq_true rfl) (Nat.le_of_ble_eq_true rfl) rfl ?_
          refine c272_2 (B := B) g0 58 (by omega) (hJ679.self.up (by omega)) (by omega) (by omega) (fun m682 hJ683 km682 hqv6840 => ?_)
          have hJ685 := hJ679.trans hJ683
          have mom682 := hJ683.mo g0
          show X (EE s) d 269 101 [(0, zr g0 44), (1, zi y1), (2, zi v678)] [] m682 _
          refine X.aload_n 102 i269_101 rfl rfl rfl ?_
          refine X.iconst 103 i269_102 rfl rfl (by decide) ?_
          refine X.bipush 105 i269_103 rfl rfl (by decide) ?_
          refine X.callv 108 [zi 0, zi 59] [] [(0, zr g0 44), (1, zi 0), (2, zi 59)] i269_105 rfl (by decide) rfl rfl (by omega) rfl rfl (by decide) rfl t270 (Nat.le_of_ble_eq_true rfl) (Nat.le_of_ble_eq_true rfl) rfl ?_
          refine c270_1 (B := B) g0 0 59 (by omega) (hJ685.self.up (by omega)) (by omega) (by omega) (by omega) (fun v688 m686 hv688 hJ687 km686 hqv6880 hqv6881 => ?_)
          have hJ689 := hJ685.trans hJ687
          have mom686 := hJ687.mo g0
          show X (EE s) d 269 108 [(0, zr g0 44), (1, zi y1), (2, zi v678)] [zi v688] m686 _
          refine X.istore_n 109 [(0, zr g0 44), (1, zi y1), (2, zi v678), (3, zi v688)] i269_108 rfl rfl rfl ?_
          refine X.sipush 112 i269_109 rfl rfl (by decide) ?_
          refine X.iload_n 113 i269_112 rfl rfl rfl ?_
          refine X.imul 114 i269_113 rfl rfl (by omega) ?_
          refine X.bipush 116 i269_114 rfl rfl (by decide) ?_
          refine X.iload_n 117 i269_116 rfl rfl rfl ?_
          refine X.imul 118 i269_117 rfl rfl (by omega) ?_
          refine X.iadd 119 i269_118 rfl rfl (by omega) ?_
          refine X.istore 121 [(0, zr g0 44), (1, zi y1), (2, zi v678), (3, zi v688), (4, zi ((3600 * v678) + (60 * v688)))] i269_119 rfl rfl rfl ?_
          refine X.aload_n 122 i269_121 rfl rfl rfl ?_
          refine X.getZ 125 9 i269_122 rfl rfl (by decide) rfl rfl rfl (fun h690 => ?_)
          refine X.ifne 147 128 i269_125 rfl rfl rfl (fun h691 => ?_) (fun h691 => ?_)
          · refine X.cut [(0, zr g0 44), (1, zi y1), (4, zi ((3600 * v678) + (60 * v688)))] i269_147 rfl ?_
            refine X.aload_n 148 i269_147 rfl rfl rfl ?_
            refine X.iconst 149 i269_148 rfl rfl (by decide) ?_
            refine X.iconst 150 i269_149 rfl rfl (by decide) ?_
            refine X.callv 153 [zi 0, zi 3] [] [(0, zr g0 44), (1, zi 0), (2, zi 3)] i269_150 rfl (by decide) rfl rfl (by omega) rfl rfl (by decide) rfl t270 (Nat.le_of_ble_eq_true rfl) (Nat.le_of_ble_eq_true rfl) rfl ?_
            refine c270_1 (B := B) g0 0 3 (by omega) (hJ689.self.up (by omega)) (by omega) (by omega) (by omega) (fun v694 m692 hv694 hJ693 km692 hqv6940 hqv6941 => ?_)
            have hJ695 := hJ689.trans hJ693
            have mom692 := hJ693.mo g0
            show X (EE s) d 269 153 [(0, zr g0 44), (1, zi y1), (4, zi ((3600 * v678) + (60 * v688)))] [zi v694] m692 _
            refine X.istore 155 [(0, zr g0 44), (1, zi y1), (4, zi ((3600 * v678) + (60 * v688))), (5, zi v694)] i269_153 rfl rfl rfl ?_
            refine X.aload_n 156 i269_155 rfl rfl rfl ?_
            refine X.getZ 159 9 i269_156 rfl rfl (by decide) rfl rfl rfl (fun h696 => ?_)
            refine X.ifne 172 162 i269_159 rfl rfl rfl (fun h697 => ?_) (fun h697 => ?_)
            · refine X.cut [(0, zr g0 44), (1, zi y1)] i269_172 rfl ?_
              refine X.goto 40 i269_172 rfl rfl ?_
              exact ih  m692 (B) (hJ695.up (by omega)) (by omega) (fun g => by simp only [km671, km676, km682, km686, km692, hT])  (by omega)
            · refine X.aload_n 163 i269_162 rfl rfl rfl ?_
              refine X.iload_n 164 i269_163 rfl rfl rfl ?_
              refine X.iload 166 i269_164 rfl rfl rfl ?_
              refine X.iload 168 i269_166 rfl rfl rfl ?_
              refine X.callv 171 [zi y1, zi ((3600 * v678) + (60 * v688)), zi v694] [] [(0, zr g0 44), (1, zi y1), (2, zi ((3600 * v678) + (60 * v688))), (3, zi v694)] i269_168 rfl (by decide) rfl rfl (by omega) rfl rfl (by decide) rfl t243 (Nat.le_of_ble_eq_true rfl) (Nat.le_of_ble_eq_true rfl) rfl ?_
              refine c243_1 (B := B) g0 y1 ((3600 * v678) + (60 * v688)) v694 (by omega) (hJ695.self.up (by omega)) (by omega) (by omega) (by omega) (by omega) (fun v700 m698 hv700 hJ699 km698 => ?_)
              have hJ701 := hJ695.trans hJ699
              have mom698 := hJ699.mo g0
              show X (EE s) d 269 171 [(0, zr g0 44), (1, zi y1), (4, zi ((3600 * v678) + (60 * v688))), (5, zi v694)] [zi v700] m698 _
              refine X.pop 172 i269_171 rfl rfl rfl ?_
              refine X.cut [(0, zr g0 44), (1, zi y1)] i269_172 rfl ?_
              refine X.goto 40 i269_172 rfl rfl ?_
              exact ih  m698 (B) (hJ701.up (by omega)) (by omega) (fun g => by simp only [km671, km676, km682, km686, km692, km698, hT])  (by omega)
          · refine X.aload_n 129 i269_128 rfl rfl rfl ?_
            refine X.iload_n 130 i269_129 rfl rfl rfl ?_
            refine X.iload 132 i269_130 rfl rfl rfl ?_
            refine X.callv 135 [zi y1, zi ((3600 * v678) + (60 * v688))] [] [(0, zr g0 44), (1, zi y1), (2, zi ((3600 * v678) + (60 * v688)))] i269_132 rfl (by decide) rfl rfl (by omega) rfl rfl (by decide) rfl t273 (Nat.le_of_ble_eq_true rfl) (Nat.le_of_ble_eq_true rfl) rfl ?_
            refine c273_1 (B := B) g0 y1 ((3600 * v678) + (60 * v688)) (by omega) (hJ689.up (by omega)) (by omega) (by omega) (by omega) (fun v704 hv704 => ?_)
            show X (EE s) d 269 135 [(0, zr g0 44), (1, zi y1), (2, zi v678), (3, zi v688), (4, zi ((3600 * v678) + (60 * v688)))] [zi v704] m686 _
            refine X.ifeq 147 138 i269_135 rfl rfl rfl (fun h705 => ?_) (fun h705 => ?_)
            · refine X.cut [(0, zr g0 44), (1, zi y1), (4, zi ((3600 * v678) + (60 * v688)))] i269_147 rfl ?_
              refine X.aload_n 148 i269_147 rfl rfl rfl ?_
              refine X.iconst 149 i269_148 rfl rfl (by decide) ?_
              refine X.iconst 150 i269_149 rfl rfl (by decide) ?_
              refine X.callv 153 [zi 0, zi 3] [] [(0, zr g0 44), (1, zi 0), (2, zi 3)] i269_150 rfl (by decide) rfl rfl (by omega) rfl rfl (by decide) rfl t270 (Nat.le_of_ble_eq_true rfl) (Nat.le_of_ble_eq_true rfl) rfl ?_
              refine c270_1 (B := B) g0 0 3 (by omega) (hJ689.self.up (by omega)) (by omega) (by omega) (by omega) (fun v708 m706 hv708 hJ707 km706 hqv7080 hqv7081 => ?_)
              have hJ709 := hJ689.trans hJ707
              have mom706 := hJ707.mo g0
              show X (EE s) d 269 153 [(0, zr g0 44), (1, zi y1), (4, zi ((3600 * v678) + (60 * v688)))] [zi v708] m706 _
              refine X.istore 155 [(0, zr g0 44), (1, zi y1), (4, zi ((3600 * v678) + (60 * v688))), (5, zi v708)] i269_153 rfl rfl rfl ?_
              refine X.aload_n 156 i269_155 rfl rfl rfl ?_
              refine X.getZ 159 9 i269_156 rfl rfl (by decide) rfl rfl rfl (fun h710 => ?_)
              refine X.ifne 172 162 i269_159 rfl rfl rfl (fun h711 => ?_) (fun h711 => ?_)
              · refine X.cut [(0, zr g0 44), (1, zi y1)] i269_172 rfl ?_
                refine X.goto 40 i269_172 rfl rfl ?_
                exact ih  m706 (B) (hJ709.up (by omega)) (by omega) (fun g => by simp only [km671, km676, km682, km686, km706, hT])  (by omega)
              · refine X.aload_n 163 i269_162 rfl rfl rfl ?_
                refine X.iload_n 164 i269_163 rfl rfl rfl ?_
                refine X.iload 166 i269_164 rfl rfl rfl ?_
                refine X.iload 168 i269_166 rfl rfl rfl ?_
                refine X.callv 171 [zi y1, zi ((3600 * v678) + (60 * v688)), zi v708] [] [(0, zr g0 44), (1, zi y1), (2, zi ((3600 * v678) + (60 * v688))), (3, zi v708)] i269_168 rfl (by decide) rfl rfl (by omega) rfl rfl (by decide) rfl t243 (Nat.le_of_ble_eq_true rfl) (Nat.le_of_ble_eq_true rfl) rfl ?_
                refine c243_1 (B := B) g0 y1 ((3600 * v678) + (60 * v688)) v708 (by omega) (hJ709.self.up (by omega)) (by omega) (by omega) (by omega) (by omega) (fun v714 m712 hv714 hJ713 km712 => ?_)
                have hJ715 := hJ709.trans hJ713
                have mom712 := hJ713.mo g0
                show X (EE s) d 269 171 [(0, zr g0 44), (1, zi y1), (4, zi ((3600 * v678) + (60 * v688))), (5, zi v708)] [zi v714] m712 _
                refine X.pop 172 i269_171 rfl rfl rfl ?_
                refine X.cut [(0, zr g0 44), (1, zi y1)] i269_172 rfl ?_
                refine X.goto 40 i269_172 rfl rfl ?_
                exact ih  m712 (B) (hJ715.up (by omega)) (by omega) (fun g => by simp only [km671, km676, km682, km686, km706, km712, hT])  (by omega)
            · refine X.aload_n 139 i269_138 rfl rfl rfl ?_
              refine X.iconst 140 i269_139 rfl rfl (by decide) ?_
              refine X.aload_n 141 i269_140 rfl rfl rfl ?_
              refine X.getIr 144 10 i269_141 rfl rfl (by decide) rfl rfl rfl (fun h716 => ?_)
              refine X.callv 147 [zi 3, zi (m686 g0 44 10)] [] [(0, zr g0 44), (1, zi 3), (2, zi (m686 g0 44 10))] i269_144 rfl (by decide) rfl rfl (by omega) rfl rfl (by decide) rfl t268 (Nat.le_of_ble_eq_true rfl) (Nat.le_of_ble_eq_true rfl) rfl ?_
              refine c268_3 (B := B) g0 3 (m686 g0 44 10) (by omega) (hJ689.self.up (by omega)) (by omega) (by omega) (by omega) (fun m717 hJ718 km717 hqv7190 => ?_)
              have hJ720 := hJ689.trans hJ718
              have mom717 := hJ718.mo g0
              show X (EE s) d 269 147 [(0, zr g0 44), (1, zi y1), (2, zi v678), (3, zi v688), (4, zi ((3600 * v678) + (60 * v688)))] [] m717 _
              refine X.cut [(0, zr g0 44), (1, zi y1), (4, zi ((3600 * v678) + (60 * v688)))] i269_147 rfl ?_
              refine X.aload_n 148 i269_147 rfl rfl rfl ?_
              refine X.iconst 149 i269_148 rfl rfl (by decide) ?_
              refine X.iconst 150 i269_149 rfl rfl (by decide) ?_
              refine X.callv 153 [zi 0, zi 3] [] [(0, zr g0 44), (1, zi 0), (2, zi 3)] i269_150 rfl (by decide) rfl rfl (by omega) rfl rfl (by decide) rfl t270 (Nat.le_of_ble_eq_true rfl) (Nat.le_of_ble_eq_true rfl) rfl ?_
              refine c270_1 (B := B) g0 0 3 (by omega) (hJ720.self.up (by omega)) (by omega) (by omega) (by omega) (fun v723 m721 hv723 hJ722 km721 hqv7230 hqv7231 => ?_)
              have hJ724 := hJ720.trans hJ722
              have mom721 := hJ722.mo g0
              show X (EE s) d 269 153 [(0, zr g0 44), (1, zi y1), (4, zi ((3600 * v678) + (60 * v688)))] [zi v723] m721 _
              refine X.istore 155 [(0, zr g0 44), (1, zi y1), (4, zi ((3600 * v678) + (60 * v688))), (5, zi v723)] i269_153 rfl rfl rfl ?_
              refine X.aload_n 156 i269_155 rfl rfl rfl ?_
              refine X.getZ 159 9 i269_156 rfl rfl (by decide) rfl rfl rfl (fun h725 => ?_)
              refine X.ifne 172 162 i269_159 rfl rfl rfl (fun h726 => ?_) (fun h726 => ?_)
              · refine X.cut [(0, zr g0 44), (1, zi y1)] i269_172 rfl ?_
                refine X.goto 40 i269_172 rfl rfl ?_
                exact ih  m721 (B) (hJ724.up (by omega)) (by omega) (fun g => by simp only [km671, km676, km682, km686, km717, km721, hT])  (by omega)
              · refine X.aload_n 163 i269_162 rfl rfl rfl ?_
                refine X.iload_n 164 i269_163 rfl rfl rfl ?_
                refine X.iload 166 i269_164 rfl rfl rfl ?_
                refine X.iload 168 i269_166 rfl rfl rfl ?_
                refine X.callv 171 [zi y1, zi ((3600 * v678) + (60 * v688)), zi v723] [] [(0, zr g0 44), (1, zi y1), (2, zi ((3600 * v678) + (60 * v688))), (3, zi v723)] i269_168 rfl (by decide) rfl rfl (by omega) rfl rfl (by decide) rfl t243 (Nat.le_of_ble_eq_true rfl) (Nat.le_of_ble_eq_true rfl) rfl ?_
                refine c243_1 (B := B) g0 y1 ((3600 * v678) + (60 * v688)) v723 (by omega) (hJ724.self.up (by omega)) (by omega) (by omega) (by omega) (by omega) (fun v729 m727 hv729 hJ728 km727 => ?_)
                have hJ730 := hJ724.trans hJ728
                have mom727 := hJ728.mo g0
                show X (EE s) d 269 171 [(0, zr g0 44), (1, zi y1), (4, zi ((3600 * v678) + (60 * v688))), (5, zi v723)] [zi v729] m727 _
                refine X.pop 172 i269_171 rfl rfl rfl ?_
                refine X.cut [(0, zr g0 44), (1, zi y1)] i269_172 rfl ?_
                refine X.goto 40 i269_172 rfl rfl ?_
                exact ih  m727 (B) (hJ730.up (by omega)) (by omega) (fun g => by simp only [km671, km676, km682, km686, km717, km721, km727, hT])  (by omega)
        · refine X.aload_n 70 i269_69 rfl rfl rfl ?_
          refine X.getF 73 i269_70 rfl rfl (by decide) rfl rfl ?_
          refine X.sipush 76 i269_73 rfl rfl (by decide) ?_
          refine X.iload_n 77 i269_76 rfl rfl rfl ?_
          refine X.iadd 78 i269_77 rfl rfl (by omega) ?_
          refine X.lald 79 i269_78 rfl rfl (by decide) rfl (by omega) ?_
          have h731 := r45_287 hJ679 4 (i := (287 + y1)) (by omega)
          refine X.ldc2 82 i269_79 rfl rfl (by decide) ?_
          refine X.lcmp 83 i269_82 rfl rfl (fun z732 hz732 => ?_)
          refine X.ifne 95 86 i269_83 rfl rfl rfl (fun h733 => ?_) (fun h733 => ?_)
          · have h733c : (m676 4 45 (287 + y1)) ≠ 6 := by omega
            clear h733 hz732
            refine X.aload_n 96 i269_95 rfl rfl rfl ?_
            refine X.bipush 98 i269_96 rfl rfl (by decide) ?_
            refine X.callv 101 [zi 58] [] [(0, zr g0 44), (1, zi 58)] i269_98 rfl (by decide) rfl rfl (by omega) rfl rfl (by decide) rfl t272 (Nat.le_of_ble_eq_true rfl) (Nat.le_of_ble_eq_true rfl) rfl ?_
            refine c272_2 (B := B) g0 58 (by omega) (hJ679.self.up (by omega)) (by omega) (by omega) (fun m734 hJ735 km734 hqv7360 => ?_)
            have hJ737 := hJ679.trans hJ735
            have mom734 := hJ735.mo g0
            show X (EE s) d 269 101 [(0, zr g0 44), (1, zi y1), (2, zi v678)] [] m734 _
            refine X.aload_n 102 i269_101 rfl rfl rfl ?_
            refine X.iconst 103 i269_102 rfl rfl (by decide) ?_
            refine X.bipush 105 i269_103 rfl rfl (by decide) ?_
            refine X.callv 108 [zi 0, zi 59] [] [(0, zr g0 44), (1, zi 0), (2, zi 59)] i269_105 rfl (by decide) rfl rfl (by omega) rfl rfl (by decide) rfl t270 (Nat.le_of_ble_eq_true rfl) (Nat.le_of_ble_eq_true rfl) rfl ?_
            refine c270_1 (B := B) g0 0 59 (by omega) (hJ737.self.up (by omega)) (by omega) (by omega) (by omega) (fun v740 m738 hv740 hJ739 km738 hqv7400 hqv7401 => ?_)
            have hJ741 := hJ737.trans hJ739
            have mom738 := hJ739.mo g0
            show X (EE s) d 269 108 [(0, zr g0 44), (1, zi y1), (2, zi v678)] [zi v740] m738 _
            refine X.istore_n 109 [(0, zr g0 44), (1, zi y1), (2, zi v678), (3, zi v740)] i269_108 rfl rfl rfl ?_
            refine X.sipush 112 i269_109 rfl rfl (by decide) ?_
            refine X.iload_n 113 i269_112 rfl rfl rfl ?_
            refine X.imul 114 i269_113 rfl rfl (by omega) ?_
            refine X.bipush 116 i269_114 rfl rfl (by decide) ?_
            refine X.iload_n 117 i269_116 rfl rfl rfl ?_
            refine X.imul 118 i269_117 rfl rfl (by omega) ?_
            refine X.iadd 119 i269_118 rfl rfl (by omega) ?_
            refine X.istore 121 [(0, zr g0 44), (1, zi y1), (2, zi v678), (3, zi v740), (4, zi ((3600 * v678) + (60 * v740)))] i269_119 rfl rfl rfl ?_
            refine X.aload_n 122 i269_121 rfl rfl rfl ?_
            refine X.getZ 125 9 i269_122 rfl rfl (by decide) rfl rfl rfl (fun h742 => ?_)
            refine X.ifne 147 128 i269_125 rfl rfl rfl (fun h743 => ?_) (fun h743 => ?_)
            · refine X.cut [(0, zr g0 44), (1, zi y1), (4, zi ((3600 * v678) + (60 * v740)))] i269_147 rfl ?_
              refine X.aload_n 148 i269_147 rfl rfl rfl ?_
              refine X.iconst 149 i269_148 rfl rfl (by decide) ?_
              refine X.iconst 150 i269_149 rfl rfl (by decide) ?_
              refine X.callv 153 [zi 0, zi 3] [] [(0, zr g0 44), (1, zi 0), (2, zi 3)] i269_150 rfl (by decide) rfl rfl (by omega) rfl rfl (by decide) rfl t270 (Nat.le_of_ble_eq_true rfl) (Nat.le_of_ble_eq_true rfl) rfl ?_
              refine c270_1 (B := B) g0 0 3 (by omega) (hJ741.self.up (by omega)) (by omega) (by omega) (by omega) (fun v746 m744 hv746 hJ745 km744 hqv7460 hqv7461 => ?_)
              have hJ747 := hJ741.trans hJ745
              have mom744 := hJ745.mo g0
              show X (EE s) d 269 153 [(0, zr g0 44), (1, zi y1), (4, zi ((3600 * v678) + (60 * v740)))] [zi v746] m744 _
              refine X.istore 155 [(0, zr g0 44), (1, zi y1), (4, zi ((3600 * v678) + (60 * v740))), (5, zi v746)] i269_153 rfl rfl rfl ?_
              refine X.aload_n 156 i269_155 rfl rfl rfl ?_
              refine X.getZ 159 9 i269_156 rfl rfl (by decide) rfl rfl rfl (fun h748 => ?_)
              refine X.ifne 172 162 i269_159 rfl rfl rfl (fun h749 => ?_) (fun h749 => ?_)
              · refine X.cut [(0, zr g0 44), (1, zi y1)] i269_172 rfl ?_
                refine X.goto 40 i269_172 rfl rfl ?_
                exact ih  m744 (B) (hJ747.up (by omega)) (by omega) (fun g => by simp only [km671, km676, km734, km738, km744, hT])  (by omega)
              · refine X.aload_n 163 i269_162 rfl rfl rfl ?_
                refine X.iload_n 164 i269_163 rfl rfl rfl ?_
                refine X.iload 166 i269_164 rfl rfl rfl ?_
                refine X.iload 168 i269_166 rfl rfl rfl ?_
                refine X.callv 171 [zi y1, zi ((3600 * v678) + (60 * v740)), zi v746] [] [(0, zr g0 44), (1, zi y1), (2, zi ((3600 * v678) + (60 * v740))), (3, zi v746)] i269_168 rfl (by decide) rfl rfl (by omega) rfl rfl (by decide) rfl t243 (Nat.le_of_ble_eq_true rfl) (Nat.le_of_ble_eq_true rfl) rfl ?_
                refine c243_1 (B := B) g0 y1 ((3600 * v678) + (60 * v740)) v746 (by omega) (hJ747.self.up (by omega)) (by omega) (by omega) (by omega) (by omega) (fun v752 m750 hv752 hJ751 km750 => ?_)
                have hJ753 := hJ747.trans hJ751
                have mom750 := hJ751.mo g0
                show X (EE s) d 269 171 [(0, zr g0 44), (1, zi y1), (4, zi ((3600 * v678) + (60 * v740))), (5, zi v746)] [zi v752] m750 _
                refine X.pop 172 i269_171 rfl rfl rfl ?_
                refine X.cut [(0, zr g0 44), (1, zi y1)] i269_172 rfl ?_
                refine X.goto 40 i269_172 rfl rfl ?_
                exact ih  m750 (B) (hJ753.up (by omega)) (by omega) (fun g => by simp only [km671, km676, km734, km738, km744, km750, hT])  (by omega)
            · refine X.aload_n 129 i269_128 rfl rfl rfl ?_
              refine X.iload_n 130 i269_129 rfl rfl rfl ?_
              refine X.iload 132 i269_130 rfl rfl rfl ?_
              refine X.callv 135 [zi y1, zi ((3600 * v678) + (60 * v740))] [] [(0, zr g0 44), (1, zi y1), (2, zi ((3600 * v678) + (60 * v740)))] i269_132 rfl (by decide) rfl rfl (by omega) rfl rfl (by decide) rfl t273 (Nat.le_of_ble_eq_true rfl) (Nat.le_of_ble_eq_true rfl) rfl ?_
              refine c273_1 (B := B) g0 y1 ((3600 * v678) + (60 * v740)) (by omega) (hJ741.up (by omega)) (by omega) (by omega) (by omega) (fun v756 hv756 => ?_)
              show X (EE s) d 269 135 [(0, zr g0 44), (1, zi y1), (2, zi v678), (3, zi v740), (4, zi ((3600 * v678) + (60 * v740)))] [zi v756] m738 _
              refine X.ifeq 147 138 i269_135 rfl rfl rfl (fun h757 => ?_) (fun h757 => ?_)
              · refine X.cut [(0, zr g0 44), (1, zi y1), (4, zi ((3600 * v678) + (60 * v740)))] i269_147 rfl ?_
                refine X.aload_n 148 i269_147 rfl rfl rfl ?_
                refine X.iconst 149 i269_148 rfl rfl (by decide) ?_
                refine X.iconst 150 i269_149 rfl rfl (by decide) ?_
                refine X.callv 153 [zi 0, zi 3] [] [(0, zr g0 44), (1, zi 0), (2, zi 3)] i269_150 rfl (by decide) rfl rfl (by omega) rfl rfl (by decide) rfl t270 (Nat.le_of_ble_eq_true rfl) (Nat.le_of_ble_eq_true rfl) rfl ?_
                refine c270_1 (B := B) g0 0 3 (by omega) (hJ741.self.up (by omega)) (by omega) (by omega) (by omega) (fun v760 m758 hv760 hJ759 km758 hqv7600 hqv7601 => ?_)
                have hJ761 := hJ741.trans hJ759
                have mom758 := hJ759.mo g0
                show X (EE s) d 269 153 [(0, zr g0 44), (1, zi y1), (4, zi ((3600 * v678) + (60 * v740)))] [zi v760] m758 _
                refine X.istore 155 [(0, zr g0 44), (1, zi y1), (4, zi ((3600 * v678) + (60 * v740))), (5, zi v760)] i269_153 rfl rfl rfl ?_
                refine X.aload_n 156 i269_155 rfl rfl rfl ?_
                refine X.getZ 159 9 i269_156 rfl rfl (by decide) rfl rfl rfl (fun h762 => ?_)
                refine X.ifne 172 162 i269_159 rfl rfl rfl (fun h763 => ?_) (fun h763 => ?_)
                · refine X.cut [(0, zr g0 44), (1, zi y1)] i269_172 rfl ?_
                  refine X.goto 40 i269_172 rfl rfl ?_
                  exact ih  m758 (B) (hJ761.up (by omega)) (by omega) (fun g => by simp only [km671, km676, km734, km738, km758, hT])  (by omega)
                · refine X.aload_n 163 i269_162 rfl rfl rfl ?_
                  refine X.iload_n 164 i269_163 rfl rfl rfl ?_
                  refine X.iload 166 i269_164 rfl rfl rfl ?_
                  refine X.iload 168 i269_166 rfl rfl rfl ?_
                  refine X.callv 171 [zi y1, zi ((3600 * v678) + (60 * v740)), zi v760] [] [(0, zr g0 44), (1, zi y1), (2, zi ((3600 * v678) + (60 * v740))), (3, zi v760)] i269_168 rfl (by decide) rfl rfl (by omega) rfl rfl (by decide) rfl t243 (Nat.le_of_ble_eq_true rfl) (Nat.le_of_ble_eq_true rfl) rfl ?_
                  refine c243_1 (B := B) g0 y1 ((3600 * v678) + (60 * v740)) v760 (by omega) (hJ761.self.up (by omega)) (by omega) (by omega) (by omega) (by omega) (fun v766 m764 hv766 hJ765 km764 => ?_)
                  have hJ767 := hJ761.trans hJ765
                  have mom764 := hJ765.mo g0
                  show X (EE s) d 269 171 [(0, zr g0 44), (1, zi y1), (4, zi ((3600 * v678) + (60 * v740))), (5, zi v760)] [zi v766] m764 _
                  refine X.pop 172 i269_171 rfl rfl rfl ?_
                  refine X.cut [(0, zr g0 44), (1, zi y1)] i269_172 rfl ?_
                  refine X.goto 40 i269_172 rfl rfl ?_
                  exact ih  m764 (B) (hJ767.up (by omega)) (by omega) (fun g => by simp only [km671, km676, km734, km738, km758, km764, hT])  (by omega)
              · refine X.aload_n 139 i269_138 rfl rfl rfl ?_
                refine X.iconst 140 i269_139 rfl rfl (by decide) ?_
                refine X.aload_n 141 i269_140 rfl rfl rfl ?_
                refine X.getIr 144 10 i269_141 rfl rfl (by decide) rfl rfl rfl (fun h768 => ?_)
                refine X.callv 147 [zi 3, zi (m738 g0 44 10)] [] [(0, zr g0 44), (1, zi 3), (2, zi (m738 g0 44 10))] i269_144 rfl (by decide) rfl rfl (by omega) rfl rfl (by decide) rfl t268 (Nat.le_of_ble_eq_true rfl) (Nat.le_of_ble_eq_true rfl) rfl ?_
                refine c268_3 (B := B) g0 3 (m738 g0 44 10) (by omega) (hJ741.self.up (by omega)) (by omega) (by omega) (by omega) (fun m769 hJ770 km769 hqv7710 => ?_)
                have hJ772 := hJ741.trans hJ770
                have mom769 := hJ770.mo g0
                show X (EE s) d 269 147 [(0, zr g0 44), (1, zi y1), (2, zi v678), (3, zi v740), (4, zi ((3600 * v678) + (60 * v740)))] [] m769 _
                refine X.cut [(0, zr g0 44), (1, zi y1), (4, zi ((3600 * v678) + (60 * v740)))] i269_147 rfl ?_
                refine X.aload_n 148 i269_147 rfl rfl rfl ?_
                refine X.iconst 149 i269_148 rfl rfl (by decide) ?_
                refine X.iconst 150 i269_149 rfl rfl (by decide) ?_
                refine X.callv 153 [zi 0, zi 3] [] [(0, zr g0 44), (1, zi 0), (2, zi 3)] i269_150 rfl (by decide) rfl rfl (by omega) rfl rfl (by decide) rfl t270 (Nat.le_of_ble_eq_true rfl) (Nat.le_of_ble_eq_true rfl) rfl ?_
                refine c270_1 (B := B) g0 0 3 (by omega) (hJ772.self.up (by omega)) (by omega) (by omega) (by omega) (fun v775 m773 hv775 hJ774 km773 hqv7750 hqv7751 => ?_)
                have hJ776 := hJ772.trans hJ774
                have mom773 := hJ774.mo g0
                show X (EE s) d 269 153 [(0, zr g0 44), (1, zi y1), (4, zi ((3600 * v678) + (60 * v740)))] [zi v775] m773 _
                refine X.istore 155 [(0, zr g0 44), (1, zi y1), (4, zi ((3600 * v678) + (60 * v740))), (5, zi v775)] i269_153 rfl rfl rfl ?_
                refine X.aload_n 156 i269_155 rfl rfl rfl ?_
                refine X.getZ 159 9 i269_156 rfl rfl (by decide) rfl rfl rfl (fun h777 => ?_)
                refine X.ifne 172 162 i269_159 rfl rfl rfl (fun h778 => ?_) (fun h778 => ?_)
                · refine X.cut [(0, zr g0 44), (1, zi y1)] i269_172 rfl ?_
                  refine X.goto 40 i269_172 rfl rfl ?_
                  exact ih  m773 (B) (hJ776.up (by omega)) (by omega) (fun g => by simp only [km671, km676, km734, km738, km769, km773, hT])  (by omega)
                · refine X.aload_n 163 i269_162 rfl rfl rfl ?_
                  refine X.iload_n 164 i269_163 rfl rfl rfl ?_
                  refine X.iload 166 i269_164 rfl rfl rfl ?_
                  refine X.iload 168 i269_166 rfl rfl rfl ?_
                  refine X.callv 171 [zi y1, zi ((3600 * v678) + (60 * v740)), zi v775] [] [(0, zr g0 44), (1, zi y1), (2, zi ((3600 * v678) + (60 * v740))), (3, zi v775)] i269_168 rfl (by decide) rfl rfl (by omega) rfl rfl (by decide) rfl t243 (Nat.le_of_ble_eq_true rfl) (Nat.le_of_ble_eq_true rfl) rfl ?_
                  refine c243_1 (B := B) g0 y1 ((3600 * v678) + (60 * v740)) v775 (by omega) (hJ776.self.up (by omega)) (by omega) (by omega) (by omega) (by omega) (fun v781 m779 hv781 hJ780 km779 => ?_)
                  have hJ782 := hJ776.trans hJ780
                  have mom779 := hJ780.mo g0
                  show X (EE s) d 269 171 [(0, zr g0 44), (1, zi y1), (4, zi ((3600 * v678) + (60 * v740))), (5, zi v775)] [zi v781] m779 _
                  refine X.pop 172 i269_171 rfl rfl rfl ?_
                  refine X.cut [(0, zr g0 44), (1, zi y1)] i269_172 rfl ?_
                  refine X.goto 40 i269_172 rfl rfl ?_
                  exact ih  m779 (B) (hJ782.up (by omega)) (by omega) (fun g => by simp only [km671, km676, km734, km738, km769, km773, km779, hT])  (by omega)
          · have h733c : (m676 4 45 (287 + y1)) = 6 := by omega
            clear h733 hz732
            refine X.aload_n 87 i269_86 rfl rfl rfl ?_
            refine X.iconst 88 i269_87 rfl rfl (by decide) ?_
            refine X.aload_n 89 i269_88 rfl rfl rfl ?_
            refine X.getIr 92 10 i269_89 rfl rfl (by decide) rfl rfl rfl (fun h783 => ?_)
            refine X.callv 95 [zi 4, zi (m676 g0 44 10)] [] [(0, zr g0 44), (1, zi 4), (2, zi (m676 g0 44 10))] i269_92 rfl (by decide) rfl rfl (by omega) rfl rfl (by decide) rfl t268 (Nat.le_of_ble_eq_true rfl) (Nat.le_of_ble_eq_true rfl) rfl ?_
            refine c268_4 (B := B) g0 4 (m676 g0 44 10) (by omega) (hJ679.self.up (by omega)) (by omega) (by omega) (by omega) (fun m784 hJ785 km784 hqv7860 => ?_)
            have hJ787 := hJ679.trans hJ785
            have mom784 := hJ785.mo g0
            show X (EE s) d 269 95 [(0, zr g0 44), (1, zi y1), (2, zi v678)] [] m784 _
            refine X.aload_n 96 i269_95 rfl rfl rfl ?_
            refine X.bipush 98 i269_96 rfl rfl (by decide) ?_
            refine X.callv 101 [zi 58] [] [(0, zr g0 44), (1, zi 58)] i269_98 rfl (by decide) rfl rfl (by omega) rfl rfl (by decide) rfl t272 (Nat.le_of_ble_eq_true rfl) (Nat.le_of_ble_eq_true rfl) rfl ?_
            refine c272_2 (B := B) g0 58 (by omega) (hJ787.self.up (by omega)) (by omega) (by omega) (fun m788 hJ789 km788 hqv7900 => ?_)
            have hJ791 := hJ787.trans hJ789
            have mom788 := hJ789.mo g0
            show X (EE s) d 269 101 [(0, zr g0 44), (1, zi y1), (2, zi v678)] [] m788 _
            refine X.aload_n 102 i269_101 rfl rfl rfl ?_
            refine X.iconst 103 i269_102 rfl rfl (by decide) ?_
            refine X.bipush 105 i269_103 rfl rfl (by decide) ?_
            refine X.callv 108 [zi 0, zi 59] [] [(0, zr g0 44), (1, zi 0), (2, zi 59)] i269_105 rfl (by decide) rfl rfl (by omega) rfl rfl (by decide) rfl t270 (Nat.le_of_ble_eq_true rfl) (Nat.le_of_ble_eq_true rfl) rfl ?_
            refine c270_1 (B := B) g0 0 59 (by omega) (hJ791.self.up (by omega)) (by omega) (by omega) (by omega) (fun v794 m792 hv794 hJ793 km792 hqv7940 hqv7941 => ?_)
            have hJ795 := hJ791.trans hJ793
            have mom792 := hJ793.mo g0
            show X (EE s) d 269 108 [(0, zr g0 44), (1, zi y1), (2, zi v678)] [zi v794] m792 _
            refine X.istore_n 109 [(0, zr g0 44), (1, zi y1), (2, zi v678), (3, zi v794)] i269_108 rfl rfl rfl ?_
            refine X.sipush 112 i269_109 rfl rfl (by decide) ?_
            refine X.iload_n 113 i269_112 rfl rfl rfl ?_
            refine X.imul 114 i269_113 rfl rfl (by omega) ?_
            refine X.bipush 116 i269_114 rfl rfl (by decide) ?_
            refine X.iload_n 117 i269_116 rfl rfl rfl ?_
            refine X.imul 118 i269_117 rfl rfl (by omega) ?_
            refine X.iadd 119 i269_118 rfl rfl (by omega) ?_
            refine X.istore 121 [(0, zr g0 44), (1, zi y1), (2, zi v678), (3, zi v794), (4, zi ((3600 * v678) + (60 * v794)))] i269_119 rfl rfl rfl ?_
            refine X.aload_n 122 i269_121 rfl rfl rfl ?_
            refine X.getZ 125 9 i269_122 rfl rfl (by decide) rfl rfl rfl (fun h796 => ?_)
            refine X.ifne 147 128 i269_125 rfl rfl rfl (fun h797 => ?_) (fun h797 => ?_)
            · refine X.cut [(0, zr g0 44), (1, zi y1), (4, zi ((3600 * v678) + (60 * v794)))] i269_147 rfl ?_
              refine X.aload_n 148 i269_147 rfl rfl rfl ?_
              refine X.iconst 149 i269_148 rfl rfl (by decide) ?_
              refine X.iconst 150 i269_149 rfl rfl (by decide) ?_
              refine X.callv 153 [zi 0, zi 3] [] [(0, zr g0 44), (1, zi 0), (2, zi 3)] i269_150 rfl (by decide) rfl rfl (by omega) rfl rfl (by decide) rfl t270 (Nat.le_of_ble_eq_true rfl) (Nat.le_of_ble_eq_true rfl) rfl ?_
              refine c270_1 (B := B) g0 0 3 (by omega) (hJ795.self.up (by omega)) (by omega) (by omega) (by omega) (fun v800 m798 hv800 hJ799 km798 hqv8000 hqv8001 => ?_)
              have hJ801 := hJ795.trans hJ799
              have mom798 := hJ799.mo g0
              show X (EE s) d 269 153 [(0, zr g0 44), (1, zi y1), (4, zi ((3600 * v678) + (60 * v794)))] [zi v800] m798 _
              refine X.istore 155 [(0, zr g0 44), (1, zi y1), (4, zi ((3600 * v678) + (60 * v794))), (5, zi v800)] i269_153 rfl rfl rfl ?_
              refine X.aload_n 156 i269_155 rfl rfl rfl ?_
              refine X.getZ 159 9 i269_156 rfl rfl (by decide) rfl rfl rfl (fun h802 => ?_)
              refine X.ifne 172 162 i269_159 rfl rfl rfl (fun h803 => ?_) (fun h803 => ?_)
              · refine X.cut [(0, zr g0 44), (1, zi y1)] i269_172 rfl ?_
                refine X.goto 40 i269_172 rfl rfl ?_
                exact ih  m798 (B) (hJ801.up (by omega)) (by omega) (fun g => by simp only [km671, km676, km784, km788, km792, km798, hT])  (by omega)
              · refine X.aload_n 163 i269_162 rfl rfl rfl ?_
                refine X.iload_n 164 i269_163 rfl rfl rfl ?_
                refine X.iload 166 i269_164 rfl rfl rfl ?_
                refine X.iload 168 i269_166 rfl rfl rfl ?_
                refine X.callv 171 [zi y1, zi ((3600 * v678) + (60 * v794)), zi v800] [] [(0, zr g0 44), (1, zi y1), (2, zi ((3600 * v678) + (60 * v794))), (3, zi v800)] i269_168 rfl (by decide) rfl rfl (by omega) rfl rfl (by decide) rfl t243 (Nat.le_of_ble_eq_true rfl) (Nat.le_of_ble_eq_true rfl) rfl ?_
                refine c243_1 (B := B) g0 y1 ((3600 * v678) + (60 * v794)) v800 (by omega) (hJ801.self.up (by omega)) (by omega) (by omega) (by omega) (by omega) (fun v806 m804 hv806 hJ805 km804 => ?_)
                have hJ807 := hJ801.trans hJ805
                have mom804 := hJ805.mo g0
                show X (EE s) d 269 171 [(0, zr g0 44), (1, zi y1), (4, zi ((3600 * v678) + (60 * v794))), (5, zi v800)] [zi v806] m804 _
                refine X.pop 172 i269_171 rfl rfl rfl ?_
                refine X.cut [(0, zr g0 44), (1, zi y1)] i269_172 rfl ?_
                refine X.goto 40 i269_172 rfl rfl ?_
                exact ih  m804 (B) (hJ807.up (by omega)) (by omega) (fun g => by simp only [km671, km676, km784, km788, km792, km798, km804, hT])  (by omega)
            · refine X.aload_n 129 i269_128 rfl rfl rfl ?_
              refine X.iload_n 130 i269_129 rfl rfl rfl ?_
              refine X.iload 132 i269_130 rfl rfl rfl ?_
              refine X.callv 135 [zi y1, zi ((3600 * v678) + (60 * v794))] [] [(0, zr g0 44), (1, zi y1), (2, zi ((3600 * v678) + (60 * v794)))] i269_132 rfl (by decide) rfl rfl (by omega) rfl rfl (by decide) rfl t273 (Nat.le_of_ble_eq_true rfl) (Nat.le_of_ble_eq_true rfl) rfl ?_
              refine c273_1 (B := B) g0 y1 ((3600 * v678) + (60 * v794)) (by omega) (hJ795.up (by omega)) (by omega) (by omega) (by omega) (fun v810 hv810 => ?_)
              show X (EE s) d 269 135 [(0, zr g0 44), (1, zi y1), (2, zi v678), (3, zi v794), (4, zi ((3600 * v678) + (60 * v794)))] [zi v810] m792 _
              refine X.ifeq 147 138 i269_135 rfl rfl rfl (fun h811 => ?_) (fun h811 => ?_)
              · refine X.cut [(0, zr g0 44), (1, zi y1), (4, zi ((3600 * v678) + (60 * v794)))] i269_147 rfl ?_
                refine X.aload_n 148 i269_147 rfl rfl rfl ?_
                refine X.iconst 149 i269_148 rfl rfl (by decide) ?_
                refine X.iconst 150 i269_149 rfl rfl (by decide) ?_
                refine X.callv 153 [zi 0, zi 3] [] [(0, zr g0 44), (1, zi 0), (2, zi 3)] i269_150 rfl (by decide) rfl rfl (by omega) rfl rfl (by decide) rfl t270 (Nat.le_of_ble_eq_true rfl) (Nat.le_of_ble_eq_true rfl) rfl ?_
                refine c270_1 (B := B) g0 0 3 (by omega) (hJ795.self.up (by omega)) (by omega) (by omega) (by omega) (fun v814 m812 hv814 hJ813 km812 hqv8140 hqv8141 => ?_)
                have hJ815 := hJ795.trans hJ813
                have mom812 := hJ813.mo g0
                show X (EE s) d 269 153 [(0, zr g0 44), (1, zi y1), (4, zi ((3600 * v678) + (60 * v794)))] [zi v814] m812 _
                refine X.istore 155 [(0, zr g0 44), (1, zi y1), (4, zi ((3600 * v678) + (60 * v794))), (5, zi v814)] i269_153 rfl rfl rfl ?_
                refine X.aload_n 156 i269_155 rfl rfl rfl ?_
                refine X.getZ 159 9 i269_156 rfl rfl (by decide) rfl rfl rfl (fun h816 => ?_)
                refine X.ifne 172 162 i269_159 rfl rfl rfl (fun h817 => ?_) (fun h817 => ?_)
                · refine X.cut [(0, zr g0 44), (1, zi y1)] i269_172 rfl ?_
                  refine X.goto 40 i269_172 rfl rfl ?_
                  exact ih  m812 (B) (hJ815.up (by omega)) (by omega) (fun g => by simp only [km671, km676, km784, km788, km792, km812, hT])  (by omega)
                · refine X.aload_n 163 i269_162 rfl rfl rfl ?_
                  refine X.iload_n 164 i269_163 rfl rfl rfl ?_
                  refine X.iload 166 i269_164 rfl rfl rfl ?_
                  refine X.iload 168 i269_166 rfl rfl rfl ?_
                  refine X.callv 171 [zi y1, zi ((3600 * v678) + (60 * v794)), zi v814] [] [(0, zr g0 44), (1, zi y1), (2, zi ((3600 * v678) + (60 * v794))), (3, zi v814)] i269_168 rfl (by decide) rfl rfl (by omega) rfl rfl (by decide) rfl t243 (Nat.le_of_ble_eq_true rfl) (Nat.le_of_ble_eq_true rfl) rfl ?_
                  refine c243_1 (B := B) g0 y1 ((3600 * v678) + (60 * v794)) v814 (by omega) (hJ815.self.up (by omega)) (by omega) (by omega) (by omega) (by omega) (fun v820 m818 hv820 hJ819 km818 => ?_)
                  have hJ821 := hJ815.trans hJ819
                  have mom818 := hJ819.mo g0
                  show X (EE s) d 269 171 [(0, zr g0 44), (1, zi y1), (4, zi ((3600 * v678) + (60 * v794))), (5, zi v814)] [zi v820] m818 _
                  refine X.pop 172 i269_171 rfl rfl rfl ?_
                  refine X.cut [(0, zr g0 44), (1, zi y1)] i269_172 rfl ?_
                  refine X.goto 40 i269_172 rfl rfl ?_
                  exact ih  m818 (B) (hJ821.up (by omega)) (by omega) (fun g => by simp only [km671, km676, km784, km788, km792, km812, km818, hT])  (by omega)
              · refine X.aload_n 139 i269_138 rfl rfl rfl ?_
                refine X.iconst 140 i269_139 rfl rfl (by decide) ?_
                refine X.aload_n 141 i269_140 rfl rfl rfl ?_
                refine X.getIr 144 10 i269_141 rfl rfl (by decide) rfl rfl rfl (fun h822 => ?_)
                refine X.callv 147 [zi 3, zi (m792 g0 44 10)] [] [(0, zr g0 44), (1, zi 3), (2, zi (m792 g0 44 10))] i269_144 rfl (by decide) rfl rfl (by omega) rfl rfl (by decide) rfl t268 (Nat.le_of_ble_eq_true rfl) (Nat.le_of_ble_eq_true rfl) rfl ?_
                refine c268_3 (B := B) g0 3 (m792 g0 44 10) (by omega) (hJ795.self.up (by omega)) (by omega) (by omega) (by omega) (fun m823 hJ824 km823 hqv8250 => ?_)
                have hJ826 := hJ795.trans hJ824
                have mom823 := hJ824.mo g0
                show X (EE s) d 269 147 [(0, zr g0 44), (1, zi y1), (2, zi v678), (3, zi v794), (4, zi ((3600 * v678) + (60 * v794)))] [] m823 _
                refine X.cut [(0, zr g0 44), (1, zi y1), (4, zi ((3600 * v678) + (60 * v794)))] i269_147 rfl ?_
                refine X.aload_n 148 i269_147 rfl rfl rfl ?_
                refine X.iconst 149 i269_148 rfl rfl (by decide) ?_
                refine X.iconst 150 i269_149 rfl rfl (by decide) ?_
                refine X.callv 153 [zi 0, zi 3] [] [(0, zr g0 44), (1, zi 0), (2, zi 3)] i269_150 rfl (by decide) rfl rfl (by omega) rfl rfl (by decide) rfl t270 (Nat.le_of_ble_eq_true rfl) (Nat.le_of_ble_eq_true rfl) rfl ?_
                refine c270_1 (B := B) g0 0 3 (by omega) (hJ826.self.up (by omega)) (by omega) (by omega) (by omega) (fun v829 m827 hv829 hJ828 km827 hqv8290 hqv8291 => ?_)
                have hJ830 := hJ826.trans hJ828
                have mom827 := hJ828.mo g0
                show X (EE s) d 269 153 [(0, zr g0 44), (1, zi y1), (4, zi ((3600 * v678) + (60 * v794)))] [zi v829] m827 _
                refine X.istore 155 [(0, zr g0 44), (1, zi y1), (4, zi ((3600 * v678) + (60 * v794))), (5, zi v829)] i269_153 rfl rfl rfl ?_
                refine X.aload_n 156 i269_155 rfl rfl rfl ?_
                refine X.getZ 159 9 i269_156 rfl rfl (by decide) rfl rfl rfl (fun h831 => ?_)
                refine X.ifne 172 162 i269_159 rfl rfl rfl (fun h832 => ?_) (fun h832 => ?_)
                · refine X.cut [(0, zr g0 44), (1, zi y1)] i269_172 rfl ?_
                  refine X.goto 40 i269_172 rfl rfl ?_
                  exact ih  m827 (B) (hJ830.up (by omega)) (by omega) (fun g => by simp only [km671, km676, km784, km788, km792, km823, km827, hT])  (by omega)
                · refine X.aload_n 163 i269_162 rfl rfl rfl ?_
                  refine X.iload_n 164 i269_163 rfl rfl rfl ?_
                  refine X.iload 166 i269_164 rfl rfl rfl ?_
                  refine X.iload 168 i269_166 rfl rfl rfl ?_
                  refine X.callv 171 [zi y1, zi ((3600 * v678) + (60 * v794)), zi v829] [] [(0, zr g0 44), (1, zi y1), (2, zi ((3600 * v678) + (60 * v794))), (3, zi v829)] i269_168 rfl (by decide) rfl rfl (by omega) rfl rfl (by decide) rfl t243 (Nat.le_of_ble_eq_true rfl) (Nat.le_of_ble_eq_true rfl) rfl ?_
                  refine c243_1 (B := B) g0 y1 ((3600 * v678) + (60 * v794)) v829 (by omega) (hJ830.self.up (by omega)) (by omega) (by omega) (by omega) (by omega) (fun v835 m833 hv835 hJ834 km833 => ?_)
                  have hJ836 := hJ830.trans hJ834
                  have mom833 := hJ834.mo g0
                  show X (EE s) d 269 171 [(0, zr g0 44), (1, zi y1), (4, zi ((3600 * v678) + (60 * v794))), (5, zi v829)] [zi v835] m833 _
                  refine X.pop 172 i269_171 rfl rfl rfl ?_
                  refine X.cut [(0, zr g0 44), (1, zi y1)] i269_172 rfl ?_
                  refine X.goto 40 i269_172 rfl rfl ?_
                  exact ih  m833 (B) (hJ836.up (by omega)) (by omega) (fun g => by simp only [km671, km676, km784, km788, km792, km823, km827, km833, hT])  (by omega)
-- WorkMeterModel.tableLine
theorem c269_1 {s : Nat × (Nat → Int32)} {m0 m : zM} {B : Int} {d : Nat} {Q : Option zV → zM → Prop} (g0 : Nat) (hd : 15 ≤ d) (hJ : J m0 B m) (hB : B + 0 ≤ 1000000000) (hQ : ∀ m', J m0 (B) m' → (∀ g, m' g 8 9 = m g 8 9) → Q none m') : X (EE s) d 269 0 [(0, zr g0 44)] [] m Q := by
  refine X.aload_n 1 i269_0 rfl rfl rfl ?_
  refine X.iconst 2 i269_1 rfl rfl (by decide) ?_
  refine X.bipush 4 i269_2 rfl rfl (by decide) ?_
  refine X.callv 7 [zi 0, zi 7] [] [(0, zr g0 44), (1, zi 0), (2, zi 7)] i269_4 rfl (by decide) rfl rfl (by omega) rfl rfl (by decide) rfl t270 (Nat.le_of_ble_eq_true rfl) (Nat.le_of_ble_eq_true rfl) rfl ?_
  refine c270_1 (B := B) g0 0 7 (by omega) (hJ.self.up (by omega)) (by omega) (by omega) (by omega) (fun v503 m501 hv503 hJ502 km501 hqv5030 hqv5031 => ?_)
  have hJ504 := hJ.trans hJ502
  have mom501 := hJ502.mo g0
  show X (EE s) d 269 7 [(0, zr g0 44)] [zi v503] m501 _
  refine X.istore_n 8 [(0, zr g0 44), (1, zi v503)] i269_7 rfl rfl rfl ?_
  refine X.aload_n 9 i269_8 rfl rfl rfl ?_
  refine X.getZ 12 9 i269_9 rfl rfl (by decide) rfl rfl rfl (fun h505 => ?_)
  refine X.ifne 33 15 i269_12 rfl rfl rfl (fun h506 => ?_) (fun h506 => ?_)
  · refine X.aload_n 34 i269_33 rfl rfl rfl ?_
    refine X.getF 37 i269_34 rfl rfl (by decide) rfl rfl ?_
    refine X.iload_n 38 i269_37 rfl rfl rfl ?_
    refine X.iconst 39 i269_38 rfl rfl (by decide) ?_
    refine X.zast' 40 i269_39 rfl rfl (by decide) rfl (by omega) (by omega) (fun hrm507 m507 hm507 => ?_)
    have hJ508 := w49_0 hJ504 hm507 (by omega) hrm507
    have km507 : ∀ g, m507 g 8 9 = m501 g 8 9 := fun g9 => by rw [hm507]; exact z_upd_o _ _ rfl
    have wmm5078 : m507 g0 44 8 = m501 g0 44 8 := by rw [hm507]; exact z_upd_o _ _ rfl
    have wmm5079 : m507 g0 44 9 = m501 g0 44 9 := by rw [hm507]; exact z_upd_o _ _ rfl
    have jsm507 := jself_8 m0 m507 g0
    refine l269_40_1 (s := s) (m0 := (jself m0 m507)) (d := d) g0 v503 (fun g => m g 8 9) (BE := B + 0) (by omega) (by omega) (by omega) (fun  m509 B510 hJ511 hBB510 hkm509 => ?_) ((604 - m507 g0 44 8 - 302 * m507 g0 44 9 : Int).toNat + 1)  m507 (B) (hJ508.self.up (by omega)) (by omega) (fun g => by simp only [km501, km507])  (by omega)
    have hJ512 := hJ508.trans hJ511
    have mom509 := hJ511.mo g0
    refine X.retv i269_175 rfl t269 ?_
    exact hQ  m509  (hJ512.up (by omega)) (fun g => by simp only [hkm509]) 
  · refine X.aload_n 16 i269_15 rfl rfl rfl ?_
    refine X.getF 19 i269_16 rfl rfl (by decide) rfl rfl ?_
    refine X.iload_n 20 i269_19 rfl rfl rfl ?_
    refine X.zald 21 i269_20 rfl rfl (by decide) rfl (by omega) (fun h513 => ?_)
    refine X.ifeq 33 24 i269_21 rfl rfl rfl (fun h514 => ?_) (fun h514 => ?_)
    · refine X.aload_n 34 i269_33 rfl rfl rfl ?_
      refine X.getF 37 i269_34 rfl rfl (by decide) rfl rfl ?_
      refine X.iload_n 38 i269_37 rfl rfl rfl ?_
      refine X.iconst 39 i269_38 rfl rfl (by decide) ?_
      refine X.zast' 40 i269_39 rfl rfl (by decide) rfl (by omega) (by omega) (fun hrm515 m515 hm515 => ?_)
      have hJ516 := w49_0 hJ504 hm515 (by omega) hrm515
      have km515 : ∀ g, m515 g 8 9 = m501 g 8 9 := fun g9 => by rw [hm515]; exact z_upd_o _ _ rfl
      have wmm5158 : m515 g0 44 8 = m501 g0 44 8 := by rw [hm515]; exact z_upd_o _ _ rfl
      have wmm5159 : m515 g0 44 9 = m501 g0 44 9 := by rw [hm515]; exact z_upd_o _ _ rfl
      have jsm515 := jself_8 m0 m515 g0
      refine l269_40_1 (s := s) (m0 := (jself m0 m515)) (d := d) g0 v503 (fun g => m g 8 9) (BE := B + 0) (by omega) (by omega) (by omega) (fun  m517 B518 hJ519 hBB518 hkm517 => ?_) ((604 - m515 g0 44 8 - 302 * m515 g0 44 9 : Int).toNat + 1)  m515 (B) (hJ516.self.up (by omega)) (by omega) (fun g => by simp only [km501, km515])  (by omega)
      have hJ520 := hJ516.trans hJ519
      have mom517 := hJ519.mo g0
      refine X.retv i269_175 rfl t269 ?_
      exact hQ  m517  (hJ520.up (by omega)) (fun g => by simp only [hkm517]) 
    · refine X.aload_n 25 i269_24 rfl rfl rfl ?_
      refine X.iconst 26 i269_25 rfl rfl (by decide) ?_
      refine X.aload_n 27 i269_26 rfl rfl rfl ?_
      refine X.getIr 30 10 i269_27 rfl rfl (by decide) rfl rfl rfl (fun h521 => ?_)
      refine X.callv 33 [zi 3, zi (m501 g0 44 10)] [] [(0, zr g0 44), (1, zi 3), (2, zi (m501 g0 44 10))] i269_30 rfl (by decide) rfl rfl (by omega) rfl rfl (by decide) rfl t268 (Nat.le_of_ble_eq_true rfl) (Nat.le_of_ble_eq_true rfl) rfl ?_
      refine c268_3 (B := B) g0 3 (m501 g0 44 10) (by omega) (hJ504.self.up (by omega)) (by omega) (by omega) (by omega) (fun m522 hJ523 km522 hqv5240 => ?_)
      have hJ525 := hJ504.trans hJ523
      have mom522 := hJ523.mo g0
      show X (EE s) d 269 33 [(0, zr g0 44), (1, zi v503)] [] m522 _
      refine X.aload_n 34 i269_33 rfl rfl rfl ?_
      refine X.getF 37 i269_34 rfl rfl (by decide) rfl rfl ?_
      refine X.iload_n 38 i269_37 rfl rfl rfl ?_
      refine X.iconst 39 i269_38 rfl rfl (by decide) ?_
      refine X.zast' 40 i269_39 rfl rfl (by decide) rfl (by omega) (by omega) (fun hrm526 m526 hm526 => ?_)
      have hJ527 := w49_0 hJ525 hm526 (by omega) hrm526
      have km526 : ∀ g, m526 g 8 9 = m522 g 8 9 := fun g9 => by rw [hm526]; exact z_upd_o _ _ rfl
      have wmm5268 : m526 g0 44 8 = m522 g0 44 8 := by rw [hm526]; exact z_upd_o _ _ rfl
      have wmm5269 : m526 g0 44 9 = m522 g0 44 9 := by rw [hm526]; exact z_upd_o _ _ rfl
      have jsm526 := jself_8 m0 m526 g0
      refine l269_40_1 (s := s) (m0 := (jself m0 m526)) (d := d) g0 v503 (fun g => m g 8 9) (BE := B + 0) (by omega) (by omega) (by omega) (fun  m528 B529 hJ530 hBB529 hkm528 => ?_) ((604 - m526 g0 44 8 - 302 * m526 g0 44 9 : Int).toNat + 1)  m526 (B) (hJ527.self.up (by omega)) (by omega) (fun g => by simp only [km501, km522, km526])  (by omega)
      have hJ531 := hJ527.trans hJ530
      have mom528 := hJ530.mo g0
      refine X.retv i269_175 rfl t269 ?_
      exact hQ  m528  (hJ531.up (by omega)) (fun g => by simp only [hkm528]) 
theorem l264_123_1 {s : Nat × (Nat → Int32)} {m0 : zM} {d : Nat} {Q : Option zV → zM → Prop} (g0 : Nat) (T9 : Nat → Int) (BE : Int) (hE : BE ≤ 1000000000) (hd : 15 ≤ d)
    (K151 : ∀ (m' : zM) (B' : Int), J m0 B' m' → B' ≤ BE → (∀ g, m' g 8 9 = T9 g) → X (EE s) d 264 151 [(0, zr g0 44)] [] m' Q) :
    ∀ (n : Nat) (y3 : Int) (m : zM) (B : Int), J m0 B m → B + 0 * (n : Int) ≤ BE → (∀ g, m g 8 9 = T9 g) → (0 ≤ y3 ∧ y3 ≤ 4) → 4 - y3 < (n : Int) → X (EE s) d 264 123 [(0, zr g0 44), (3, zi y3)] [] m Q := by
  intro n
  induction n with
  | zero =>
    intro y3 m B hJ hB hT hy3 hn
    exfalso
    omega
  | succ n ih =>
    intro y3 m B hJ hB hT hy3 hn
    refine X.iload_n 124 i264_123 rfl rfl rfl ?_
    refine X.iconst 125 i264_124 rfl rfl (by decide) ?_
    refine X.icmpge 151 128 i264_125 rfl rfl rfl (fun h508 => ?_) (fun h508 => ?_)
    · refine X.cut [(0, zr g0 44)] i264_151 rfl ?_
      exact K151  m (B) (hJ.up (by omega)) (by omega) (fun g => by simp only [hT]) 
    · refine X.aload_n 129 i264_128 rfl rfl rfl ?_
      refine X.getF 132 i264_129 rfl rfl (by decide) rfl rfl ?_
      refine X.bipush 134 i264_132 rfl rfl (by decide) ?_
      refine X.iload_n 135 i264_134 rfl rfl rfl ?_
      refine X.iadd 136 i264_135 rfl rfl (by omega) ?_
      refine X.aload_n 137 i264_136 rfl rfl rfl ?_
      refine X.iconst 138 i264_137 rfl rfl (by decide) ?_
      refine X.bipush 140 i264_138 rfl rfl (by decide) ?_
      refine X.callv 143 [zi 0, zi 100] [zi (28 + y3), zr 4 45] [(0, zr g0 44), (1, zi 0), (2, zi 100)] i264_140 rfl (by decide) rfl rfl (by omega) rfl rfl (by decide) rfl t270 (Nat.le_of_ble_eq_true rfl) (Nat.le_of_ble_eq_true rfl) rfl ?_
      refine c270_1 (B := B) g0 0 100 (by omega) (hJ.self.up (by omega)) (by omega) (by omega) (by omega) (fun v511 m509 hv511 hJ510 km509 hqv5110 hqv5111 => ?_)
      have hJ512 := hJ.trans hJ510
      have mom509 := hJ510.mo g0
      show X (EE s) d 264 143 [(0, zr g0 44), (3, zi y3)] [zi v511, zi (28 + y3), zr 4 45] m509 _
      refine X.i2l 144 i264_143 rfl rfl ?_
      refine X.last' 145 i264_144 rfl rfl (by decide) rfl (by omega) (fun hrm513 m513 hm513 => ?_)
      have hJ514 := w45_19 hJ512 hm513 (by omega) hrm513
      have km513 : ∀ g, m513 g 8 9 = m509 g 8 9 := fun g9 => by rw [hm513]; exact z_upd_o _ _ rfl
      have wmm5138 : m513 g0 44 8 = m509 g0 44 8 := by rw [hm513]; exact z_upd_o _ _ rfl
      have wmm5139 : m513 g0 44 9 = m509 g0 44 9 := by rw [hm513]; exact z_upd_o _ _ rfl
      refine X.iinc 148 [(0, zr g0 44), (3, zi (y3 + 1))] i264_145 rfl rfl rfl (by omega) rfl ?_
      refine X.goto 123 i264_148 rfl rfl ?_
      exact ih (y3 + 1) m513 (B) (hJ514.up (by omega)) (by omega) (fun g => by simp only [km509, km513, hT]) (by omega) (by omega)
-- WorkMeterModel.line
theorem c264_1 {s : Nat × (Nat → Int32)} {m0 m : zM} {B : Int} {d : Nat} {Q : Option zV → zM → Prop} (g0 : Nat) (hd : 16 ≤ d) (hJ : J m0 B m) (hB : B + 0 ≤ 1000000000) (hQ : ∀ m', J m0 (B) m' → (∀ g, m' g 8 9 = m g 8 9) → (m' g0 44 9 = 1 ∨ m g0 44 8 < m' g0 44 8) → Q none m') : X (EE s) d 264 0 [(0, zr g0 44)] [] m Q := by
  refine X.aload_n 1 i264_0 rfl rfl rfl ?_
  refine X.getI 4 8 i264_1 rfl rfl (by decide) rfl rfl rfl ?_
  have h501 := r44_8 hJ g0
  refine X.istore_n 5 [(0, zr g0 44), (1, zi (m g0 44 8))] i264_4 rfl rfl rfl ?_
  refine X.aload_n 6 i264_5 rfl rfl rfl ?_
  refine X.callv 9 [] [] [(0, zr g0 44)] i264_6 rfl (by decide) rfl rfl (by omega) rfl rfl (by decide) rfl t265 (Nat.le_of_ble_eq_true rfl) (Nat.le_of_ble_eq_true rfl) rfl ?_
  refine c265_1 (B := B) g0  (by omega) (hJ.up (by omega)) (by omega)  (fun v504 hv504 => ?_)
  show X (EE s) d 264 9 [(0, zr g0 44), (1, zi (m g0 44 8))] [zi v504] m _
  refine X.istore_n 10 [(0, zr g0 44), (1, zi (m g0 44 8)), (2, zi v504)] i264_9 rfl rfl rfl ?_
  refine X.iload_n 11 i264_10 rfl rfl rfl ?_
  refine X.ifne 20 14 i264_11 rfl rfl rfl (fun h505 => ?_) (fun h505 => ?_)
  · refine X.iload_n 21 i264_20 rfl rfl rfl ?_
    refine X.iconst 22 i264_21 rfl rfl (by decide) ?_
    refine X.icmpne 40 25 i264_22 rfl rfl rfl (fun h506 => ?_) (fun h506 => ?_)
    · refine X.iload_n 41 i264_40 rfl rfl rfl ?_
      refine X.iconst 42 i264_41 rfl rfl (by decide) ?_
      refine X.icmpne 58 45 i264_42 rfl rfl rfl (fun h507 => ?_) (fun h507 => ?_)
      · refine X.cut [(0, zr g0 44), (2, zi v504)] i264_58 rfl ?_
        refine X.aload_n 59 i264_58 rfl rfl rfl ?_
        refine X.aload_n 60 i264_59 rfl rfl rfl ?_
        refine X.callv 63 [] [zr g0 44] [(0, zr g0 44)] i264_60 rfl (by decide) rfl rfl (by omega) rfl rfl (by decide) rfl t267 (Nat.le_of_ble_eq_true rfl) (Nat.le_of_ble_eq_true rfl) rfl ?_
        refine c267_1 (B := B) g0  (by omega) (hJ.up (by omega)) (by omega)  (fun v510 hv510 hqv5100 => ?_)
        show X (EE s) d 264 63 [(0, zr g0 44), (2, zi v504)] [zi v510, zr g0 44] m _
        refine X.putI' 66 8 i264_63 rfl rfl (by decide) rfl rfl rfl (fun hrm511 m511 hm511 => ?_)
        have rmm511 := r44_8 hJ g0
        have hJ512 := w44_8 hJ hm511 (by omega) (by omega)
        have em511 : m511 g0 44 8 = v510 := by rw [hm511]; exact z_upd_same _ _ _ _ _
        have km511 : ∀ g, m511 g 8 9 = m g 8 9 := fun g9 => by rw [hm511]; exact z_upd_o _ _ rfl
        have wmm5119 : m511 g0 44 9 = m g0 44 9 := by rw [hm511]; exact z_upd_o _ _ rfl
        have wmm51110 : m511 g0 44 10 = m g0 44 10 := by rw [hm511]; exact z_upd_o _ _ rfl
        refine X.aload_n 67 i264_66 rfl rfl rfl ?_
        refine X.getZ 70 9 i264_67 rfl rfl (by decide) rfl rfl rfl (fun h513 => ?_)
        refine X.ifeq 74 73 i264_70 rfl rfl rfl (fun h514 => ?_) (fun h514 => ?_)
        · refine X.iload_n 75 i264_74 rfl rfl rfl ?_
          refine X.iconst 76 i264_75 rfl rfl (by decide) ?_
          refine X.icmpne 83 79 i264_76 rfl rfl rfl (fun h515 => ?_) (fun h515 => ?_)
          · refine X.iload_n 84 i264_83 rfl rfl rfl ?_
            refine X.iconst 85 i264_84 rfl rfl (by decide) ?_
            refine X.icmpne 92 88 i264_85 rfl rfl rfl (fun h516 => ?_) (fun h516 => ?_)
            · refine X.iload_n 93 i264_92 rfl rfl rfl ?_
              refine X.iconst 94 i264_93 rfl rfl (by decide) ?_
              refine X.icmpne 111 97 i264_94 rfl rfl rfl (fun h517 => (by exfalso; omega)) (fun h517 => ?_)
              refine X.aload_n 98 i264_97 rfl rfl rfl ?_
              refine X.dup 99 i264_98 rfl rfl rfl ?_
              refine X.getIr 102 13 i264_99 rfl rfl (by decide) rfl rfl rfl (fun h518 => ?_)
              refine X.iconst 103 i264_102 rfl rfl (by decide) ?_
              refine X.iiF 104 .iadd (fun x y => x + y) i264_103 rfl rfl rfl (fun _ _ => rfl) (fun z519 hz519 => ?_)
              refine X.putI' 107 13 i264_104 rfl rfl (by decide) rfl rfl rfl (fun hrm520 m520 hm520 => ?_)
              have hJ521 := w44_10 hJ512 hm520 (by omega) hrm520
              have km520 : ∀ g, m520 g 8 9 = m511 g 8 9 := fun g9 => by rw [hm520]; exact z_upd_o _ _ rfl
              have wmm5208 : m520 g0 44 8 = m511 g0 44 8 := by rw [hm520]; exact z_upd_o _ _ rfl
              have wmm5209 : m520 g0 44 9 = m511 g0 44 9 := by rw [hm520]; exact z_upd_o _ _ rfl
              have wmm52010 : m520 g0 44 10 = m511 g0 44 10 := by rw [hm520]; exact z_upd_o _ _ rfl
              refine X.aload_n 108 i264_107 rfl rfl rfl ?_
              refine X.callv 111 [] [] [(0, zr g0 44)] i264_108 rfl (by decide) rfl rfl (by omega) rfl rfl (by decide) rfl t275 (Nat.le_of_ble_eq_true rfl) (Nat.le_of_ble_eq_true rfl) rfl ?_
              refine c275_1 (B := B) g0  (by omega) (hJ521.self.up (by omega)) (by omega)  (fun m522 hJ523 km522 => ?_)
              have hJ525 := hJ521.trans hJ523
              have mom522 := hJ523.mo g0
              show X (EE s) d 264 111 [(0, zr g0 44), (2, zi v504)] [] m522 _
              refine X.iload_n 112 i264_111 rfl rfl rfl ?_
              refine X.iconst 113 i264_112 rfl rfl (by decide) ?_
              refine X.icmpne 151 116 i264_113 rfl rfl rfl (fun h526 => ?_) (fun h526 => (by exfalso; omega))
              refine X.cut [(0, zr g0 44)] i264_151 rfl ?_
              refine X.aload_n 152 i264_151 rfl rfl rfl ?_
              refine X.bipush 154 i264_152 rfl rfl (by decide) ?_
              refine X.callv 157 [zi 59] [] [(0, zr g0 44), (1, zi 59)] i264_154 rfl (by decide) rfl rfl (by omega) rfl rfl (by decide) rfl t272 (Nat.le_of_ble_eq_true rfl) (Nat.le_of_ble_eq_true rfl) rfl ?_
              refine c272_1 (B := B) g0 59 (by omega) (hJ525.self.up (by omega)) (by omega) (by omega) (fun m527 hJ528 km527 hqv5290 => ?_)
              have hJ530 := hJ525.trans hJ528
              have mom527 := hJ528.mo g0
              show X (EE s) d 264 157 [(0, zr g0 44)] [] m527 _
              refine X.retv i264_157 rfl t264 ?_
              exact hQ  m527  (hJ530.up (by omega)) (fun g => by simp only [km511, km520, km522, km527]) (by omega)
            · refine X.aload_n 89 i264_88 rfl rfl rfl ?_
              refine X.callv 92 [] [] [(0, zr g0 44)] i264_89 rfl (by decide) rfl rfl (by omega) rfl rfl (by decide) rfl t274 (Nat.le_of_ble_eq_true rfl) (Nat.le_of_ble_eq_true rfl) rfl ?_
              refine c274_1 (B := B) g0  (by omega) (hJ512.self.up (by omega)) (by omega)  (fun m531 hJ532 km531 => ?_)
              have hJ534 := hJ512.trans hJ532
              have mom531 := hJ532.mo g0
              show X (EE s) d 264 92 [(0, zr g0 44), (2, zi v504)] [] m531 _
              refine X.iload_n 93 i264_92 rfl rfl rfl ?_
              refine X.iconst 94 i264_93 rfl rfl (by decide) ?_
              refine X.icmpne 111 97 i264_94 rfl rfl rfl (fun h535 => ?_) (fun h535 => (by exfalso; omega))
              refine X.iload_n 112 i264_111 rfl rfl rfl ?_
              refine X.iconst 113 i264_112 rfl rfl (by decide) ?_
              refine X.icmpne 151 116 i264_113 rfl rfl rfl (fun h536 => ?_) (fun h536 => (by exfalso; omega))
              refine X.cut [(0, zr g0 44)] i264_151 rfl ?_
              refine X.aload_n 152 i264_151 rfl rfl rfl ?_
              refine X.bipush 154 i264_152 rfl rfl (by decide) ?_
              refine X.callv 157 [zi 59] [] [(0, zr g0 44), (1, zi 59)] i264_154 rfl (by decide) rfl rfl (by omega) rfl rfl (by decide) rfl t272 (Nat.le_of_ble_eq_true rfl) (Nat.le_of_ble_eq_true rfl) rfl ?_
              refine c272_1 (B := B) g0 59 (by omega) (hJ534.self.up (by omega)) (by omega) (by omega) (fun m537 hJ538 km537 hqv5390 => ?_)
              have hJ540 := hJ534.trans hJ538
              have mom537 := hJ538.mo g0
              show X (EE s) d 264 157 [(0, zr g0 44)] [] m537 _
              refine X.retv i264_157 rfl t264 ?_
              exact hQ  m537  (hJ540.up (by omega)) (fun g => by simp only [km511, km531, km537]) (by omega)
          · refine X.aload_n 80 i264_79 rfl rfl rfl ?_
            refine X.callv 83 [] [] [(0, zr g0 44)] i264_80 rfl (by decide) rfl rfl (by omega) rfl rfl (by decide) rfl t269 (Nat.le_of_ble_eq_true rfl) (Nat.le_of_ble_eq_true rfl) rfl ?_
            refine c269_1 (B := B) g0  (by omega) (hJ512.self.up (by omega)) (by omega)  (fun m541 hJ542 km541 => ?_)
            have hJ544 := hJ512.trans hJ542
            have mom541 := hJ542.mo g0
            show X (EE s) d 264 83 [(0, zr g0 44), (2, zi v504)] [] m541 _
            refine X.iload_n 84 i264_83 rfl rfl rfl ?_
            refine X.iconst 85 i264_84 rfl rfl (by decide) ?_
            refine X.icmpne 92 88 i264_85 rfl rfl rfl (fun h545 => ?_) (fun h545 => (by exfalso; omega))
            refine X.iload_n 93 i264_92 rfl rfl rfl ?_
            refine X.iconst 94 i264_93 rfl rfl (by decide) ?_
            refine X.icmpne 111 97 i264_94 rfl rfl rfl (fun h546 => ?_) (fun h546 => (by exfalso; omega))
            refine X.iload_n 112 i264_111 rfl rfl rfl ?_
            refine X.iconst 113 i264_112 rfl rfl (by decide) ?_
            refine X.icmpne 151 116 i264_113 rfl rfl rfl (fun h547 => ?_) (fun h547 => (by exfalso; omega))
            refine X.cut [(0, zr g0 44)] i264_151 rfl ?_
            refine X.aload_n 152 i264_151 rfl rfl rfl ?_
            refine X.bipush 154 i264_152 rfl rfl (by decide) ?_
            refine X.callv 157 [zi 59] [] [(0, zr g0 44), (1, zi 59)] i264_154 rfl (by decide) rfl rfl (by omega) rfl rfl (by decide) rfl t272 (Nat.le_of_ble_eq_true rfl) (Nat.le_of_ble_eq_true rfl) rfl ?_
            refine c272_1 (B := B) g0 59 (by omega) (hJ544.self.up (by omega)) (by omega) (by omega) (fun m548 hJ549 km548 hqv5500 => ?_)
            have hJ551 := hJ544.trans hJ549
            have mom548 := hJ549.mo g0
            show X (EE s) d 264 157 [(0, zr g0 44)] [] m548 _
            refine X.retv i264_157 rfl t264 ?_
            exact hQ  m548  (hJ551.up (by omega)) (fun g => by simp only [km511, km541, km548]) (by omega)
        · refine X.retv i264_73 rfl t264 ?_
          exact hQ  m511  (hJ512.up (by omega)) (fun g => by simp only [km511]) (by omega)
      · refine X.aload_n 46 i264_45 rfl rfl rfl ?_
        refine X.getZ 49 14 i264_46 rfl rfl (by decide) rfl rfl rfl (fun h552 => ?_)
        refine X.ifeq 58 52 i264_49 rfl rfl rfl (fun h553 => ?_) (fun h553 => ?_)
        · refine X.cut [(0, zr g0 44), (2, zi v504)] i264_58 rfl ?_
          refine X.aload_n 59 i264_58 rfl rfl rfl ?_
          refine X.aload_n 60 i264_59 rfl rfl rfl ?_
          refine X.callv 63 [] [zr g0 44] [(0, zr g0 44)] i264_60 rfl (by decide) rfl rfl (by omega) rfl rfl (by decide) rfl t267 (Nat.le_of_ble_eq_true rfl) (Nat.le_of_ble_eq_true rfl) rfl ?_
          refine c267_1 (B := B) g0  (by omega) (hJ.up (by omega)) (by omega)  (fun v556 hv556 hqv5560 => ?_)
          show X (EE s) d 264 63 [(0, zr g0 44), (2, zi v504)] [zi v556, zr g0 44] m _
          refine X.putI' 66 8 i264_63 rfl rfl (by decide) rfl rfl rfl (fun hrm557 m557 hm557 => ?_)
          have rmm557 := r44_8 hJ g0
          have hJ558 := w44_8 hJ hm557 (by omega) (by omega)
          have em557 : m557 g0 44 8 = v556 := by rw [hm557]; exact z_upd_same _ _ _ _ _
          have km557 : ∀ g, m557 g 8 9 = m g 8 9 := fun g9 => by rw [hm557]; exact z_upd_o _ _ rfl
          have wmm5579 : m557 g0 44 9 = m g0 44 9 := by rw [hm557]; exact z_upd_o _ _ rfl
          have wmm55710 : m557 g0 44 10 = m g0 44 10 := by rw [hm557]; exact z_upd_o _ _ rfl
          refine X.aload_n 67 i264_66 rfl rfl rfl ?_
          refine X.getZ 70 9 i264_67 rfl rfl (by decide) rfl rfl rfl (fun h559 => ?_)
          refine X.ifeq 74 73 i264_70 rfl rfl rfl (fun h560 => ?_) (fun h560 => ?_)
          · refine X.iload_n 75 i264_74 rfl rfl rfl ?_
            refine X.iconst 76 i264_75 rfl rfl (by decide) ?_
            refine X.icmpne 83 79 i264_76 rfl rfl rfl (fun h561 => ?_) (fun h561 => (by exfalso; omega))
            refine X.iload_n 84 i264_83 rfl rfl rfl ?_
            refine X.iconst 85 i264_84 rfl rfl (by decide) ?_
            refine X.icmpne 92 88 i264_85 rfl rfl rfl (fun h562 => ?_) (fun h562 => (by exfalso; omega))
            refine X.iload_n 93 i264_92 rfl rfl rfl ?_
            refine X.iconst 94 i264_93 rfl rfl (by decide) ?_
            refine X.icmpne 111 97 i264_94 rfl rfl rfl (fun h563 => ?_) (fun h563 => (by exfalso; omega))
            refine X.iload_n 112 i264_111 rfl rfl rfl ?_
            refine X.iconst 113 i264_112 rfl rfl (by decide) ?_
            refine X.icmpne 151 116 i264_113 rfl rfl rfl (fun h564 => (by exfalso; omega)) (fun h564 => ?_)
            refine X.aload_n 117 i264_116 rfl rfl rfl ?_
            refine X.iconst 118 i264_117 rfl rfl (by decide) ?_
            refine X.putZ' 121 14 i264_118 rfl rfl (by decide) rfl rfl rfl (by omega) (fun hrm565 m565 hm565 => ?_)
            have hJ566 := w44_14 hJ558 hm565 (by omega)
            have km565 : ∀ g, m565 g 8 9 = m557 g 8 9 := fun g9 => by rw [hm565]; exact z_upd_o _ _ rfl
            have wmm5658 : m565 g0 44 8 = m557 g0 44 8 := by rw [hm565]; exact z_upd_o _ _ rfl
            have wmm5659 : m565 g0 44 9 = m557 g0 44 9 := by rw [hm565]; exact z_upd_o _ _ rfl
            have wmm56510 : m565 g0 44 10 = m557 g0 44 10 := by rw [hm565]; exact z_upd_o _ _ rfl
            refine X.iconst 122 i264_121 rfl rfl (by decide) ?_
            refine X.istore_n 123 [(0, zr g0 44), (2, zi v504), (3, zi 0)] i264_122 rfl rfl rfl ?_
            refine X.cut [(0, zr g0 44), (3, zi 0)] i264_123 rfl ?_
            have jsm565 := jself_8 m0 m565 g0
            refine l264_123_1 (s := s) (m0 := (jself m0 m565)) (d := d) g0  (fun g => m g 8 9) (BE := B + 0) (by omega) (by omega) (fun  m567 B568 hJ569 hBB568 hkm567 => ?_) ((4 - 0 : Int).toNat + 1) 0 m565 (B) (hJ566.self.up (by omega)) (by omega) (fun g => by simp only [km557, km565]) (by omega) (by omega)
            have hJ570 := hJ566.trans hJ569
            have mom567 := hJ569.mo g0
            refine X.aload_n 152 i264_151 rfl rfl rfl ?_
            refine X.bipush 154 i264_152 rfl rfl (by decide) ?_
            refine X.callv 157 [zi 59] [] [(0, zr g0 44), (1, zi 59)] i264_154 rfl (by decide) rfl rfl (by omega) rfl rfl (by decide) rfl t272 (Nat.le_of_ble_eq_true rfl) (Nat.le_of_ble_eq_true rfl) rfl ?_
            refine c272_1 (B := B568) g0 59 (by omega) (hJ570.self.up (by omega)) (by omega) (by omega) (fun m571 hJ572 km571 hqv5730 => ?_)
            have hJ574 := hJ570.trans hJ572
            have mom571 := hJ572.mo g0
            show X (EE s) d 264 157 [(0, zr g0 44)] [] m571 _
            refine X.retv i264_157 rfl t264 ?_
            exact hQ  m571  (hJ574.up (by omega)) (fun g => by simp only [hkm567, km571]) (by omega)
          · refine X.retv i264_73 rfl t264 ?_
            exact hQ  m557  (hJ558.up (by omega)) (fun g => by simp only [km557]) (by omega)
        · refine X.aload_n 53 i264_52 rfl rfl rfl ?_
          refine X.iconst 54 i264_53 rfl rfl (by decide) ?_
          refine X.iload_n 55 i264_54 rfl rfl rfl ?_
          refine X.callv 58 [zi 3, zi (m g0 44 8)] [] [(0, zr g0 44), (1, zi 3), (2, zi (m g0 44 8))] i264_55 rfl (by decide) rfl rfl (by omega) rfl rfl (by decide) rfl t268 (Nat.le_of_ble_eq_true rfl) (Nat.le_of_ble_eq_true rfl) rfl ?_
          refine c268_3 (B := B) g0 3 (m g0 44 8) (by omega) (hJ.self.up (by omega)) (by omega) (by omega) (by omega) (fun m575 hJ576 km575 hqv5770 => ?_)
          have hJ578 := hJ.trans hJ576
          have mom575 := hJ576.mo g0
          show X (EE s) d 264 58 [(0, zr g0 44), (1, zi (m g0 44 8)), (2, zi v504)] [] m575 _
          refine X.cut [(0, zr g0 44), (2, zi v504)] i264_58 rfl ?_
          refine X.aload_n 59 i264_58 rfl rfl rfl ?_
          refine X.aload_n 60 i264_59 rfl rfl rfl ?_
          refine X.callv 63 [] [zr g0 44] [(0, zr g0 44)] i264_60 rfl (by decide) rfl rfl (by omega) rfl rfl (by decide) rfl t267 (Nat.le_of_ble_eq_true rfl) (Nat.le_of_ble_eq_true rfl) rfl ?_
          refine c267_1 (B := B) g0  (by omega) (hJ578.up (by omega)) (by omega)  (fun v581 hv581 hqv5810 => ?_)
          show X (EE s) d 264 63 [(0, zr g0 44), (2, zi v504)] [zi v581, zr g0 44] m575 _
          refine X.putI' 66 8 i264_63 rfl rfl (by decide) rfl rfl rfl (fun hrm582 m582 hm582 => ?_)
          have rmm582 := r44_8 hJ578 g0
          have hJ583 := w44_8 hJ578 hm582 (by omega) (by omega)
          have em582 : m582 g0 44 8 = v581 := by rw [hm582]; exact z_upd_same _ _ _ _ _
          have km582 : ∀ g, m582 g 8 9 = m575 g 8 9 := fun g9 => by rw [hm582]; exact z_upd_o _ _ rfl
          have wmm5829 : m582 g0 44 9 = m575 g0 44 9 := by rw [hm582]; exact z_upd_o _ _ rfl
          have wmm58210 : m582 g0 44 10 = m575 g0 44 10 := by rw [hm582]; exact z_upd_o _ _ rfl
          refine X.aload_n 67 i264_66 rfl rfl rfl ?_
          refine X.getZ 70 9 i264_67 rfl rfl (by decide) rfl rfl rfl (fun h584 => ?_)
          refine X.ifeq 74 73 i264_70 rfl rfl rfl (fun h585 => ?_) (fun h585 => ?_)
          · refine X.iload_n 75 i264_74 rfl rfl rfl ?_
            refine X.iconst 76 i264_75 rfl rfl (by decide) ?_
            refine X.icmpne 83 79 i264_76 rfl rfl rfl (fun h586 => ?_) (fun h586 => (by exfalso; omega))
            refine X.iload_n 84 i264_83 rfl rfl rfl ?_
            refine X.iconst 85 i264_84 rfl rfl (by decide) ?_
            refine X.icmpne 92 88 i264_85 rfl rfl rfl (fun h587 => ?_) (fun h587 => (by exfalso; omega))
            refine X.iload_n 93 i264_92 rfl rfl rfl ?_
            refine X.iconst 94 i264_93 rfl rfl (by decide) ?_
            refine X.icmpne 111 97 i264_94 rfl rfl rfl (fun h588 => ?_) (fun h588 => (by exfalso; omega))
            refine X.iload_n 112 i264_111 rfl rfl rfl ?_
            refine X.iconst 113 i264_112 rfl rfl (by decide) ?_
            refine X.icmpne 151 116 i264_113 rfl rfl rfl (fun h589 => (by exfalso; omega)) (fun h589 => ?_)
            refine X.aload_n 117 i264_116 rfl rfl rfl ?_
            refine X.iconst 118 i264_117 rfl rfl (by decide) ?_
            refine X.putZ' 121 14 i264_118 rfl rfl (by decide) rfl rfl rfl (by omega) (fun hrm590 m590 hm590 => ?_)
            have hJ591 := w44_14 hJ583 hm590 (by omega)
            have km590 : ∀ g, m590 g 8 9 = m582 g 8 9 := fun g9 => by rw [hm590]; exact z_upd_o _ _ rfl
            have wmm5908 : m590 g0 44 8 = m582 g0 44 8 := by rw [hm590]; exact z_upd_o _ _ rfl
            have wmm5909 : m590 g0 44 9 = m582 g0 44 9 := by rw [hm590]; exact z_upd_o _ _ rfl
            have wmm59010 : m590 g0 44 10 = m582 g0 44 10 := by rw [hm590]; exact z_upd_o _ _ rfl
            refine X.iconst 122 i264_121 rfl rfl (by decide) ?_
            refine X.istore_n 123 [(0, zr g0 44), (2, zi v504), (3, zi 0)] i264_122 rfl rfl rfl ?_
            refine X.cut [(0, zr g0 44), (3, zi 0)] i264_123 rfl ?_
            have jsm590 := jself_8 m0 m590 g0
            refine l264_123_1 (s := s) (m0 := (jself m0 m590)) (d := d) g0  (fun g => m g 8 9) (BE := B + 0) (by omega) (by omega) (fun  m592 B593 hJ594 hBB593 hkm592 => ?_) ((4 - 0 : Int).toNat + 1) 0 m590 (B) (hJ591.self.up (by omega)) (by omega) (fun g => by simp only [km575, km582, km590]) (by omega) (by omega)
            have hJ595 := hJ591.trans hJ594
            have mom592 := hJ594.mo g0
            refine X.aload_n 152 i264_151 rfl rfl rfl ?_
            refine X.bipush 154 i264_152 rfl rfl (by decide) ?_
            refine X.callv 157 [zi 59] [] [(0, zr g0 44), (1, zi 59)] i264_154 rfl (by decide) rfl rfl (by omega) rfl rfl (by decide) rfl t272 (Nat.le_of_ble_eq_true rfl) (Nat.le_of_ble_eq_true rfl) rfl ?_
            refine c272_1 (B := B593) g0 59 (by omega) (hJ595.self.up (by omega)) (by omega) (by omega) (fun m596 hJ597 km596 hqv5980 => ?_)
            have hJ599 := hJ595.trans hJ597
            have mom596 := hJ597.mo g0
            show X (EE s) d 264 157 [(0, zr g0 44)] [] m596 _
            refine X.retv i264_157 rfl t264 ?_
            exact hQ  m596  (hJ599.up (by omega)) (fun g => by simp only [hkm592, km596]) (by omega)
          · refine X.retv i264_73 rfl t264 ?_
            exact hQ  m582  (hJ583.up (by omega)) (fun g => by simp only [km575, km582]) (by omega)
    · refine X.aload_n 26 i264_25 rfl rfl rfl ?_
      refine X.getIr 29 13 i264_26 rfl rfl (by decide) rfl rfl rfl (fun h600 => ?_)
      refine X.bipush 31 i264_29 rfl rfl (by decide) ?_
      refine X.icmpne 40 34 i264_31 rfl rfl rfl (fun h601 => ?_) (fun h601 => ?_)
      · refine X.iload_n 41 i264_40 rfl rfl rfl ?_
        refine X.iconst 42 i264_41 rfl rfl (by decide) ?_
        refine X.icmpne 58 45 i264_42 rfl rfl rfl (fun h602 => ?_) (fun h602 => (by exfalso; omega))
        refine X.cut [(0, zr g0 44), (2, zi v504)] i264_58 rfl ?_
        refine X.aload_n 59 i264_58 rfl rfl rfl ?_
        refine X.aload_n 60 i264_59 rfl rfl rfl ?_
        refine X.callv 63 [] [zr g0 44] [(0, zr g0 44)] i264_60 rfl (by decide) rfl rfl (by omega) rfl rfl (by decide) rfl t267 (Nat.le_of_ble_eq_true rfl) (Nat.le_of_ble_eq_true rfl) rfl ?_
        refine c267_1 (B := B) g0  (by omega) (hJ.up (by omega)) (by omega)  (fun v605 hv605 hqv6050 => ?_)
        show X (EE s) d 264 63 [(0, zr g0 44), (2, zi v504)] [zi v605, zr g0 44] m _
        refine X.putI' 66 8 i264_63 rfl rfl (by decide) rfl rfl rfl (fun hrm606 m606 hm606 => ?_)
        have rmm606 := r44_8 hJ g0
        have hJ607 := w44_8 hJ hm606 (by omega) (by omega)
        have em606 : m606 g0 44 8 = v605 := by rw [hm606]; exact z_upd_same _ _ _ _ _
        have km606 : ∀ g, m606 g 8 9 = m g 8 9 := fun g9 => by rw [hm606]; exact z_upd_o _ _ rfl
        have wmm6069 : m606 g0 44 9 = m g0 44 9 := by rw [hm606]; exact z_upd_o _ _ rfl
        have wmm60610 : m606 g0 44 10 = m g0 44 10 := by rw [hm606]; exact z_upd_o _ _ rfl
        refine X.aload_n 67 i264_66 rfl rfl rfl ?_
        refine X.getZ 70 9 i264_67 rfl rfl (by decide) rfl rfl rfl (fun h608 => ?_)
        refine X.ifeq 74 73 i264_70 rfl rfl rfl (fun h609 => ?_) (fun h609 => ?_)
        · refine X.iload_n 75 i264_74 rfl rfl rfl ?_
          refine X.iconst 76 i264_75 rfl rfl (by decide) ?_
          refine X.icmpne 83 79 i264_76 rfl rfl rfl (fun h610 => ?_) (fun h610 => (by exfalso; omega))
          refine X.iload_n 84 i264_83 rfl rfl rfl ?_
          refine X.iconst 85 i264_84 rfl rfl (by decide) ?_
          refine X.icmpne 92 88 i264_85 rfl rfl rfl (fun h611 => ?_) (fun h611 => (by exfalso; omega))
          refine X.iload_n 93 i264_92 rfl rfl rfl ?_
          refine X.iconst 94 i264_93 rfl rfl (by decide) ?_
          refine X.icmpne 111 97 i264_94 rfl rfl rfl (fun h612 => (by exfalso; omega)) (fun h612 => ?_)
          refine X.aload_n 98 i264_97 rfl rfl rfl ?_
          refine X.dup 99 i264_98 rfl rfl rfl ?_
          refine X.getIr 102 13 i264_99 rfl rfl (by decide) rfl rfl rfl (fun h613 => ?_)
          refine X.iconst 103 i264_102 rfl rfl (by decide) ?_
          refine X.iiF 104 .iadd (fun x y => x + y) i264_103 rfl rfl rfl (fun _ _ => rfl) (fun z614 hz614 => ?_)
          refine X.putI' 107 13 i264_104 rfl rfl (by decide) rfl rfl rfl (fun hrm615 m615 hm615 => ?_)
          have hJ616 := w44_10 hJ607 hm615 (by omega) hrm615
          have km615 : ∀ g, m615 g 8 9 = m606 g 8 9 := fun g9 => by rw [hm615]; exact z_upd_o _ _ rfl
          have wmm6158 : m615 g0 44 8 = m606 g0 44 8 := by rw [hm615]; exact z_upd_o _ _ rfl
          have wmm6159 : m615 g0 44 9 = m606 g0 44 9 := by rw [hm615]; exact z_upd_o _ _ rfl
          have wmm61510 : m615 g0 44 10 = m606 g0 44 10 := by rw [hm615]; exact z_upd_o _ _ rfl
          refine X.aload_n 108 i264_107 rfl rfl rfl ?_
          refine X.callv 111 [] [] [(0, zr g0 44)] i264_108 rfl (by decide) rfl rfl (by omega) rfl rfl (by decide) rfl t275 (Nat.le_of_ble_eq_true rfl) (Nat.le_of_ble_eq_true rfl) rfl ?_
          refine c275_1 (B := B) g0  (by omega) (hJ616.self.up (by omega)) (by omega)  (fun m617 hJ618 km617 => ?_)
          have hJ620 := hJ616.trans hJ618
          have mom617 := hJ618.mo g0
          show X (EE s) d 264 111 [(0, zr g0 44), (2, zi v504)] [] m617 _
          refine X.iload_n 112 i264_111 rfl rfl rfl ?_
          refine X.iconst 113 i264_112 rfl rfl (by decide) ?_
          refine X.icmpne 151 116 i264_113 rfl rfl rfl (fun h621 => ?_) (fun h621 => (by exfalso; omega))
          refine X.cut [(0, zr g0 44)] i264_151 rfl ?_
          refine X.aload_n 152 i264_151 rfl rfl rfl ?_
          refine X.bipush 154 i264_152 rfl rfl (by decide) ?_
          refine X.callv 157 [zi 59] [] [(0, zr g0 44), (1, zi 59)] i264_154 rfl (by decide) rfl rfl (by omega) rfl rfl (by decide) rfl t272 (Nat.le_of_ble_eq_true rfl) (Nat.le_of_ble_eq_true rfl) rfl ?_
          refine c272_1 (B := B) g0 59 (by omega) (hJ620.self.up (by omega)) (by omega) (by omega) (fun m622 hJ623 km622 hqv6240 => ?_)
          have hJ625 := hJ620.trans hJ623
          have mom622 := hJ623.mo g0
          show X (EE s) d 264 157 [(0, zr g0 44)] [] m622 _
          refine X.retv i264_157 rfl t264 ?_
          exact hQ  m622  (hJ625.up (by omega)) (fun g => by simp only [km606, km615, km617, km622]) (by omega)
        · refine X.retv i264_73 rfl t264 ?_
          exact hQ  m606  (hJ607.up (by omega)) (fun g => by simp only [km606]) (by omega)
      · refine X.aload_n 35 i264_34 rfl rfl rfl ?_
        refine X.iconst 36 i264_35 rfl rfl (by decide) ?_
        refine X.iload_n 37 i264_36 rfl rfl rfl ?_
        refine X.callv 40 [zi 4, zi (m g0 44 8)] [] [(0, zr g0 44), (1, zi 4), (2, zi (m g0 44 8))] i264_37 rfl (by decide) rfl rfl (by omega) rfl rfl (by decide) rfl t268 (Nat.le_of_ble_eq_true rfl) (Nat.le_of_ble_eq_true rfl) rfl ?_
        refine c268_4 (B := B) g0 4 (m g0 44 8) (by omega) (hJ.self.up (by omega)) (by omega) (by omega) (by omega) (fun m626 hJ627 km626 hqv6280 => ?_)
        have hJ629 := hJ.trans hJ627
        have mom626 := hJ627.mo g0
        show X (EE s) d 264 40 [(0, zr g0 44), (1, zi (m g0 44 8)), (2, zi v504)] [] m626 _
        refine X.iload_n 41 i264_40 rfl rfl rfl ?_
        refine X.iconst 42 i264_41 rfl rfl (by decide) ?_
        refine X.icmpne 58 45 i264_42 rfl rfl rfl (fun h630 => ?_) (fun h630 => (by exfalso; omega))
        refine X.cut [(0, zr g0 44), (2, zi v504)] i264_58 rfl ?_
        refine X.aload_n 59 i264_58 rfl rfl rfl ?_
        refine X.aload_n 60 i264_59 rfl rfl rfl ?_
        refine X.callv 63 [] [zr g0 44] [(0, zr g0 44)] i264_60 rfl (by decide) rfl rfl (by omega) rfl rfl (by decide) rfl t267 (Nat.le_of_ble_eq_true rfl) (Nat.le_of_ble_eq_true rfl) rfl ?_
        refine c267_1 (B := B) g0  (by omega) (hJ629.up (by omega)) (by omega)  (fun v633 hv633 hqv6330 => ?_)
        show X (EE s) d 264 63 [(0, zr g0 44), (2, zi v504)] [zi v633, zr g0 44] m626 _
        refine X.putI' 66 8 i264_63 rfl rfl (by decide) rfl rfl rfl (fun hrm634 m634 hm634 => ?_)
        have rmm634 := r44_8 hJ629 g0
        have hJ635 := w44_8 hJ629 hm634 (by omega) (by omega)
        have em634 : m634 g0 44 8 = v633 := by rw [hm634]; exact z_upd_same _ _ _ _ _
        have km634 : ∀ g, m634 g 8 9 = m626 g 8 9 := fun g9 => by rw [hm634]; exact z_upd_o _ _ rfl
        have wmm6349 : m634 g0 44 9 = m626 g0 44 9 := by rw [hm634]; exact z_upd_o _ _ rfl
        have wmm63410 : m634 g0 44 10 = m626 g0 44 10 := by rw [hm634]; exact z_upd_o _ _ rfl
        refine X.aload_n 67 i264_66 rfl rfl rfl ?_
        refine X.getZ 70 9 i264_67 rfl rfl (by decide) rfl rfl rfl (fun h636 => ?_)
        refine X.ifeq 74 73 i264_70 rfl rfl rfl (fun h637 => ?_) (fun h637 => ?_)
        · refine X.iload_n 75 i264_74 rfl rfl rfl ?_
          refine X.iconst 76 i264_75 rfl rfl (by decide) ?_
          refine X.icmpne 83 79 i264_76 rfl rfl rfl (fun h638 => ?_) (fun h638 => (by exfalso; omega))
          refine X.iload_n 84 i264_83 rfl rfl rfl ?_
          refine X.iconst 85 i264_84 rfl rfl (by decide) ?_
          refine X.icmpne 92 88 i264_85 rfl rfl rfl (fun h639 => ?_) (fun h639 => (by exfalso; omega))
          refine X.iload_n 93 i264_92 rfl rfl rfl ?_
          refine X.iconst 94 i264_93 rfl rfl (by decide) ?_
          refine X.icmpne 111 97 i264_94 rfl rfl rfl (fun h640 => (by exfalso; omega)) (fun h640 => ?_)
          refine X.aload_n 98 i264_97 rfl rfl rfl ?_
          refine X.dup 99 i264_98 rfl rfl rfl ?_
          refine X.getIr 102 13 i264_99 rfl rfl (by decide) rfl rfl rfl (fun h641 => ?_)
          refine X.iconst 103 i264_102 rfl rfl (by decide) ?_
          refine X.iiF 104 .iadd (fun x y => x + y) i264_103 rfl rfl rfl (fun _ _ => rfl) (fun z642 hz642 => ?_)
          refine X.putI' 107 13 i264_104 rfl rfl (by decide) rfl rfl rfl (fun hrm643 m643 hm643 => ?_)
          have hJ644 := w44_10 hJ635 hm643 (by omega) hrm643
          have km643 : ∀ g, m643 g 8 9 = m634 g 8 9 := fun g9 => by rw [hm643]; exact z_upd_o _ _ rfl
          have wmm6438 : m643 g0 44 8 = m634 g0 44 8 := by rw [hm643]; exact z_upd_o _ _ rfl
          have wmm6439 : m643 g0 44 9 = m634 g0 44 9 := by rw [hm643]; exact z_upd_o _ _ rfl
          have wmm64310 : m643 g0 44 10 = m634 g0 44 10 := by rw [hm643]; exact z_upd_o _ _ rfl
          refine X.aload_n 108 i264_107 rfl rfl rfl ?_
          refine X.callv 111 [] [] [(0, zr g0 44)] i264_108 rfl (by decide) rfl rfl (by omega) rfl rfl (by decide) rfl t275 (Nat.le_of_ble_eq_true rfl) (Nat.le_of_ble_eq_true rfl) rfl ?_
          refine c275_1 (B := B) g0  (by omega) (hJ644.self.up (by omega)) (by omega)  (fun m645 hJ646 km645 => ?_)
          have hJ648 := hJ644.trans hJ646
          have mom645 := hJ646.mo g0
          show X (EE s) d 264 111 [(0, zr g0 44), (2, zi v504)] [] m645 _
          refine X.iload_n 112 i264_111 rfl rfl rfl ?_
          refine X.iconst 113 i264_112 rfl rfl (by decide) ?_
          refine X.icmpne 151 116 i264_113 rfl rfl rfl (fun h649 => ?_) (fun h649 => (by exfalso; omega))
          refine X.cut [(0, zr g0 44)] i264_151 rfl ?_
          refine X.aload_n 152 i264_151 rfl rfl rfl ?_
          refine X.bipush 154 i264_152 rfl rfl (by decide) ?_
          refine X.callv 157 [zi 59] [] [(0, zr g0 44), (1, zi 59)] i264_154 rfl (by decide) rfl rfl (by omega) rfl rfl (by decide) rfl t272 (Nat.le_of_ble_eq_true rfl) (Nat.le_of_ble_eq_true rfl) rfl ?_
          refine c272_1 (B := B) g0 59 (by omega) (hJ648.self.up (by omega)) (by omega) (by omega) (fun m650 hJ651 km650 hqv6520 => ?_)
          have hJ653 := hJ648.trans hJ651
          have mom650 := hJ651.mo g0
          show X (EE s) d 264 157 [(0, zr g0 44)] [] m650 _
          refine X.retv i264_157 rfl t264 ?_
          exact hQ  m650  (hJ653.up (by omega)) (fun g => by simp only [km626, km634, km643, km645, km650]) (by omega)
        · refine X.retv i264_73 rfl t264 ?_
          exact hQ  m634  (hJ635.up (by omega)) (fun g => by simp only [km626, km634]) (by omega)
  · refine X.aload_n 15 i264_14 rfl rfl rfl ?_
    refine X.iconst 16 i264_15 rfl rfl (by decide) ?_
    refine X.iload_n 17 i264_16 rfl rfl rfl ?_
    refine X.callv 20 [zi 1, zi (m g0 44 8)] [] [(0, zr g0 44), (1, zi 1), (2, zi (m g0 44 8))] i264_17 rfl (by decide) rfl rfl (by omega) rfl rfl (by decide) rfl t268 (Nat.le_of_ble_eq_true rfl) (Nat.le_of_ble_eq_true rfl) rfl ?_
    refine c268_2 (B := B) g0 1 (m g0 44 8) (by omega) (hJ.self.up (by omega)) (by omega) (by omega) (by omega) (fun m654 hJ655 km654 hqv6560 => ?_)
    have hJ657 := hJ.trans hJ655
    have mom654 := hJ655.mo g0
    show X (EE s) d 264 20 [(0, zr g0 44), (1, zi (m g0 44 8)), (2, zi v504)] [] m654 _
    refine X.iload_n 21 i264_20 rfl rfl rfl ?_
    refine X.iconst 22 i264_21 rfl rfl (by decide) ?_
    refine X.icmpne 40 25 i264_22 rfl rfl rfl (fun h658 => ?_) (fun h658 => (by exfalso; omega))
    refine X.iload_n 41 i264_40 rfl rfl rfl ?_
    refine X.iconst 42 i264_41 rfl rfl (by decide) ?_
    refine X.icmpne 58 45 i264_42 rfl rfl rfl (fun h659 => ?_) (fun h659 => (by exfalso; omega))
    refine X.cut [(0, zr g0 44), (2, zi v504)] i264_58 rfl ?_
    refine X.aload_n 59 i264_58 rfl rfl rfl ?_
    refine X.aload_n 60 i264_59 rfl rfl rfl ?_
    refine X.callv 63 [] [zr g0 44] [(0, zr g0 44)] i264_60 rfl (by decide) rfl rfl (by omega) rfl rfl (by decide) rfl t267 (Nat.le_of_ble_eq_true rfl) (Nat.le_of_ble_eq_true rfl) rfl ?_
    refine c267_1 (B := B) g0  (by omega) (hJ657.up (by omega)) (by omega)  (fun v662 hv662 hqv6620 => ?_)
    show X (EE s) d 264 63 [(0, zr g0 44), (2, zi v504)] [zi v662, zr g0 44] m654 _
    refine X.putI' 66 8 i264_63 rfl rfl (by decide) rfl rfl rfl (fun hrm663 m663 hm663 => ?_)
    have rmm663 := r44_8 hJ657 g0
    have hJ664 := w44_8 hJ657 hm663 (by omega) (by omega)
    have em663 : m663 g0 44 8 = v662 := by rw [hm663]; exact z_upd_same _ _ _ _ _
    have km663 : ∀ g, m663 g 8 9 = m654 g 8 9 := fun g9 => by rw [hm663]; exact z_upd_o _ _ rfl
    have wmm6639 : m663 g0 44 9 = m654 g0 44 9 := by rw [hm663]; exact z_upd_o _ _ rfl
    have wmm66310 : m663 g0 44 10 = m654 g0 44 10 := by rw [hm663]; exact z_upd_o _ _ rfl
    refine X.aload_n 67 i264_66 rfl rfl rfl ?_
    refine X.getZ 70 9 i264_67 rfl rfl (by decide) rfl rfl rfl (fun h665 => ?_)
    refine X.ifeq 74 73 i264_70 rfl rfl rfl (fun h666 => ?_) (fun h666 => ?_)
    · refine X.iload_n 75 i264_74 rfl rfl rfl ?_
      refine X.iconst 76 i264_75 rfl rfl (by decide) ?_
      refine X.icmpne 83 79 i264_76 rfl rfl rfl (fun h667 => ?_) (fun h667 => (by exfalso; omega))
      refine X.iload_n 84 i264_83 rfl rfl rfl ?_
      refine X.iconst 85 i264_84 rfl rfl (by decide) ?_
      refine X.icmpne 92 88 i264_85 rfl rfl rfl (fun h668 => ?_) (fun h668 => (by exfalso; omega))
      refine X.iload_n 93 i264_92 rfl rfl rfl ?_
      refine X.iconst 94 i264_93 rfl rfl (by decide) ?_
      refine X.icmpne 111 97 i264_94 rfl rfl rfl (fun h669 => ?_) (fun h669 => (by exfalso; omega))
      refine X.iload_n 112 i264_111 rfl rfl rfl ?_
      refine X.iconst 113 i264_112 rfl rfl (by decide) ?_
      refine X.icmpne 151 116 i264_113 rfl rfl rfl (fun h670 => ?_) (fun h670 => (by exfalso; omega))
      refine X.cut [(0, zr g0 44)] i264_151 rfl ?_
      refine X.aload_n 152 i264_151 rfl rfl rfl ?_
      refine X.bipush 154 i264_152 rfl rfl (by decide) ?_
      refine X.callv 157 [zi 59] [] [(0, zr g0 44), (1, zi 59)] i264_154 rfl (by decide) rfl rfl (by omega) rfl rfl (by decide) rfl t272 (Nat.le_of_ble_eq_true rfl) (Nat.le_of_ble_eq_true rfl) rfl ?_
      refine c272_1 (B := B) g0 59 (by omega) (hJ664.self.up (by omega)) (by omega) (by omega) (fun m671 hJ672 km671 hqv6730 => ?_)
      have hJ674 := hJ664.trans hJ672
      have mom671 := hJ672.mo g0
      show X (EE s) d 264 157 [(0, zr g0 44)] [] m671 _
      refine X.retv i264_157 rfl t264 ?_
      exact hQ  m671  (hJ674.up (by omega)) (fun g => by simp only [km654, km663, km671]) (by omega)
    · refine X.retv i264_73 rfl t264 ?_
      exact hQ  m663  (hJ664.up (by omega)) (fun g => by simp only [km654, km663]) (by omega)
theorem l260_55_1 {s : Nat × (Nat → Int32)} {m0 : zM} {d : Nat} {Q : Option zV → zM → Prop} (g0 : Nat) (T9 : Nat → Int) (BE : Int) (hE : BE ≤ 1000000000) (hd : 17 ≤ d)
    (K87 : ∀ (x1 : Int) (m' : zM) (B' : Int), J m0 B' m' → B' ≤ BE → (∀ g, m' g 8 9 = T9 g) → ((-2147483648) ≤ x1 ∧ x1 ≤ 2147483647) → X (EE s) d 260 87 [(0, zr g0 44), (1, zi x1)] [] m' Q) :
    ∀ (n : Nat) (y1 : Int) (m : zM) (B : Int), J m0 B m → B + 0 * (n : Int) ≤ BE → (∀ g, m g 8 9 = T9 g) → ((-2147483648) ≤ y1 ∧ y1 ≤ 2147483647) → 604 - m g0 44 8 - 302 * m g0 44 9 < (n : Int) → X (EE s) d 260 55 [(0, zr g0 44), (1, zi y1)] [] m Q := by
  intro n
  induction n with
  | zero =>
    intro y1 m B hJ hB hT hy1 hn
    have zf0 := r44_8 hJ g0
    have zf1 := r44_9 hJ g0
    exfalso
    omega
  | succ n ih =>
    intro y1 m B hJ hB hT hy1 hn
    refine X.aload_n 56 i260_55 rfl rfl rfl ?_
    refine X.getI 59 8 i260_56 rfl rfl (by decide) rfl rfl rfl ?_
    have h567 := r44_8 hJ g0
    refine X.aload_n 60 i260_59 rfl rfl rfl ?_
    refine X.getI 63 5 i260_60 rfl rfl (by decide) rfl rfl rfl ?_
    have h568 := r44_5 hJ g0
    refine X.icmpge 87 66 i260_63 rfl rfl rfl (fun h569 => ?_) (fun h569 => ?_)
    · exact K87 y1 m (B) (hJ.up (by omega)) (by omega) (fun g => by simp only [hT]) (by first | trivial | omega)
    · refine X.aload_n 67 i260_66 rfl rfl rfl ?_
      refine X.getZ 70 9 i260_67 rfl rfl (by decide) rfl rfl rfl (fun h570 => ?_)
      refine X.ifne 87 73 i260_70 rfl rfl rfl (fun h571 => ?_) (fun h571 => ?_)
      · exact K87 y1 m (B) (hJ.up (by omega)) (by omega) (fun g => by simp only [hT]) (by first | trivial | omega)
      · refine X.aload_n 74 i260_73 rfl rfl rfl ?_
        refine X.callv 77 [] [] [(0, zr g0 44)] i260_74 rfl (by decide) rfl rfl (by omega) rfl rfl (by decide) rfl t264 (Nat.le_of_ble_eq_true rfl) (Nat.le_of_ble_eq_true rfl) rfl ?_
        refine c264_1 (B := B) g0  (by omega) (hJ.self.up (by omega)) (by omega)  (fun m572 hJ573 km572 hqv5740 => ?_)
        have hJ575 := hJ.trans hJ573
        have mom572 := hJ573.mo g0
        show X (EE s) d 260 77 [(0, zr g0 44), (1, zi y1)] [] m572 _
        refine X.iincF 80 i260_77 rfl rfl rfl (fun z576 hz576 => ?_)
        show X (EE s) d 260 80 [(0, zr g0 44), (1, zi z576)] [] m572 _
        refine X.aload_n 81 i260_80 rfl rfl rfl ?_
        refine X.callv 84 [] [] [(0, zr g0 44)] i260_81 rfl (by decide) rfl rfl (by omega) rfl rfl (by decide) rfl t263 (Nat.le_of_ble_eq_true rfl) (Nat.le_of_ble_eq_true rfl) rfl ?_
        refine c263_1 (B := B) g0  (by omega) (hJ575.self.up (by omega)) (by omega)  (fun m577 hJ578 km577 => ?_)
        have hJ580 := hJ575.trans hJ578
        have mom577 := hJ578.mo g0
        show X (EE s) d 260 84 [(0, zr g0 44), (1, zi z576)] [] m577 _
        refine X.goto 55 i260_84 rfl rfl ?_
        exact ih z576 m577 (B) (hJ580.up (by omega)) (by omega) (fun g => by simp only [km572, km577, hT]) (by omega) (by omega)
-- WorkMeterModel.calendar
theorem c260_1 {s : Nat × (Nat → Int32)} {m0 m : zM} {B : Int} {d : Nat} {Q : Option zV → zM → Prop} (g0 : Nat) (hd : 17 ≤ d) (hJ : J m0 B m) (hB : B + 0 ≤ 1000000000) (hp0 : g0 = 4) (hQ : ∀ (n0 : zM) (v : Int) m', ((-2147483648) ≤ v ∧ v ≤ 2147483647) → J n0 (B) m' → (∀ g, m' g 8 9 = m g 8 9) → (calP m0 n0) → Q (some (zi v)) m') : X (EE s) d 260 0 [(0, zr g0 44)] [] m Q := by
  refine X.aload_n 1 i260_0 rfl rfl rfl ?_
  refine X.iconst 2 i260_1 rfl rfl (by decide) ?_
  refine X.putI' 5 6 i260_2 rfl rfl (by decide) rfl rfl rfl (fun hrm501 m501 hm501 => ?_)
  have hJ502 := w44_6 hJ hm501 (by omega) hrm501
  have km501 : ∀ g, m501 g 8 9 = m g 8 9 := fun g9 => by rw [hm501]; exact z_upd_o _ _ rfl
  refine X.aload_n 6 i260_5 rfl rfl rfl ?_
  refine X.iconst 7 i260_6 rfl rfl (by decide) ?_
  refine X.putI' 10 7 i260_7 rfl rfl (by decide) rfl rfl rfl (fun hrm503 m503 hm503 => ?_)
  have hJ504 := w44_6 hJ502 hm503 (by omega) hrm503
  have km503 : ∀ g, m503 g 8 9 = m501 g 8 9 := fun g9 => by rw [hm503]; exact z_upd_o _ _ rfl
  refine X.aload_n 11 i260_10 rfl rfl rfl ?_
  refine X.callv 14 [] [] [(0, zr g0 44)] i260_11 rfl (by decide) rfl rfl (by omega) rfl rfl (by decide) rfl t203 (Nat.le_of_ble_eq_true rfl) (Nat.le_of_ble_eq_true rfl) rfl ?_
  refine X.aload_n 1 i203_0 rfl rfl rfl ?_
  refine X.getF 4 i203_1 rfl rfl (by decide) rfl rfl ?_
  refine X.sipush 7 i203_4 rfl rfl (by decide) ?_
  refine X.dup2 8 i203_7 rfl rfl ?_
  refine X.lald 9 i203_8 rfl rfl (by decide) rfl (by omega) ?_
  refine X.aload_n 10 i203_9 rfl rfl rfl ?_
  refine X.getF 13 i203_10 rfl rfl (by decide) rfl rfl ?_
  refine X.sipush 16 i203_13 rfl rfl (by decide) ?_
  refine X.lald 17 i203_16 rfl rfl (by decide) rfl (by omega) ?_
  have h505 := r45_1614 hJ504 4
  refine X.llF 18 .ladd (fun x y => x + y) i203_17 rfl rfl rfl (fun _ _ => rfl) (fun z506 hz506 => ?_)
  refine X.last' 19 i203_18 rfl rfl (by decide) rfl (by omega) (fun hrm507 m507 hm507 => ?_)
  have hJ508 := w45_1615 hJ504 hm507 (by omega) hrm507
  have km507 : ∀ g, m507 g 8 9 = m503 g 8 9 := fun g9 => by rw [hm507]; exact z_upd_o _ _ rfl
  have wmm5078 : m507 g0 44 8 = m503 g0 44 8 := by rw [hm507]; exact z_upd_o _ _ rfl
  have wmm5079 : m507 g0 44 9 = m503 g0 44 9 := by rw [hm507]; exact z_upd_o _ _ rfl
  refine X.aload_n 20 i203_19 rfl rfl rfl ?_
  refine X.getF 23 i203_20 rfl rfl (by decide) rfl rfl ?_
  refine X.sipush 26 i203_23 rfl rfl (by decide) ?_
  refine X.lald 27 i203_26 rfl rfl (by decide) rfl (by omega) ?_
  have h509 := r45_1614 hJ508 4
  refine X.lconst (y := 1) 28 i203_27 rfl rfl rfl ?_
  refine X.lcmp 29 i203_28 rfl rfl (fun z510 hz510 => ?_)
  refine X.ifne 36 32 i203_29 rfl rfl rfl (fun h511 => ?_) (fun h511 => ?_)
  · have h511c : (m507 4 45 1614) ≠ 1 := by omega
    clear h511 hz510
    refine X.cut [] i203_36 rfl ?_
    refine X.iconst 37 i203_36 rfl rfl (by decide) ?_
    refine X.retz i203_37 rfl t203 (by omega) ?_
    show X (EE s) d 260 14 [(0, zr g0 44)] [zi 0] m507 _
    refine X.ifeq 24 17 i260_14 rfl rfl rfl (fun h512 => ?_) (fun h512 => (by exfalso; omega))
    refine X.aload_n 25 i260_24 rfl rfl rfl ?_
    refine X.getF 28 i260_25 rfl rfl (by decide) rfl rfl ?_
    refine X.aload_n 29 i260_28 rfl rfl rfl ?_
    refine X.getF 32 i260_29 rfl rfl (by decide) rfl rfl ?_
    refine X.calls 35 [zr 4 45, zr 4 46] [] [(0, zr 4 45), (1, zr 4 46)] i260_32 (by decide) rfl rfl (by omega) rfl rfl t261 (Nat.le_of_ble_eq_true rfl) (Nat.le_of_ble_eq_true rfl) rfl ?_
    refine c_cq_45_46 (B := B) 4 4  (by omega) (hJ508.up (by omega)) (by omega)  (fun n0516 m513 hJ514 km513 pn0516 hqv5150 => ?_)
    have fln0516 : n0516 4 46 (-1) = 1 := by rw [pn0516]; exact z_upd_same _ _ _ _ _
    show X (EE s) d 260 35 [(0, zr g0 44)] [] m513 _
    refine X.aload_n 36 i260_35 rfl rfl rfl ?_
    refine X.iconst 37 i260_36 rfl rfl (by decide) ?_
    refine X.putZ' 40 9 i260_37 rfl rfl (by decide) rfl rfl rfl (by omega) (fun hrm517 m517 hm517 => ?_)
    have hJ518 := v44_9 hJ514 hm517 (by omega)
    have em517 : m517 g0 44 9 = 0 := by rw [hm517]; exact z_upd_same _ _ _ _ _
    have km517 : ∀ g, m517 g 8 9 = m513 g 8 9 := fun g9 => by rw [hm517]; exact z_upd_o _ _ rfl
    refine X.aload_n 41 i260_40 rfl rfl rfl ?_
    refine X.iconst 42 i260_41 rfl rfl (by decide) ?_
    refine X.putI' 45 8 i260_42 rfl rfl (by decide) rfl rfl rfl (fun hrm519 m519 hm519 => ?_)
    have hJ520 := v44_8 hJ518 hm519 (by omega)
    have em519 : m519 g0 44 8 = 0 := by rw [hm519]; exact z_upd_same _ _ _ _ _
    have km519 : ∀ g, m519 g 8 9 = m517 g 8 9 := fun g9 => by rw [hm519]; exact z_upd_o _ _ rfl
    refine X.aload_n 46 i260_45 rfl rfl rfl ?_
    refine X.callv 49 [] [] [(0, zr g0 44)] i260_46 rfl (by decide) rfl rfl (by omega) rfl rfl (by decide) rfl t262 (Nat.le_of_ble_eq_true rfl) (Nat.le_of_ble_eq_true rfl) rfl ?_
    refine c262_1 (B := B) g0  (by omega) (hJ520.self.up (by omega)) (by omega)  (fun m521 hJ522 km521 => ?_)
    have hJ524 := hJ520.trans hJ522
    have mom521 := hJ522.mo g0
    show X (EE s) d 260 49 [(0, zr g0 44)] [] m521 _
    refine X.iconst 50 i260_49 rfl rfl (by decide) ?_
    refine X.istore_n 51 [(0, zr g0 44), (1, zi 0)] i260_50 rfl rfl rfl ?_
    refine X.aload_n 52 i260_51 rfl rfl rfl ?_
    refine X.callv 55 [] [] [(0, zr g0 44)] i260_52 rfl (by decide) rfl rfl (by omega) rfl rfl (by decide) rfl t263 (Nat.le_of_ble_eq_true rfl) (Nat.le_of_ble_eq_true rfl) rfl ?_
    refine c263_1 (B := B) g0  (by omega) (hJ524.self.up (by omega)) (by omega)  (fun m525 hJ526 km525 => ?_)
    have hJ528 := hJ524.trans hJ526
    have mom525 := hJ526.mo g0
    show X (EE s) d 260 55 [(0, zr g0 44), (1, zi 0)] [] m525 _
    refine l260_55_1 (s := s) (m0 := (z_upd (z_upd n0516 g0 44 9 0) g0 44 8 0)) (d := d) g0  (fun g => m g 8 9) (BE := B + 0) (by omega) (by omega) (fun y529 m530 B531 hJ532 hBB531 hkm530 hby529 => ?_) ((604 - m525 g0 44 8 - 302 * m525 g0 44 9 : Int).toNat + 1) 0 m525 (B) (hJ528.up (by omega)) (by omega) (fun g => by simp only [km501, km503, km507, km513, km517, km519, km521, km525]) (by omega) (by omega)
    refine X.aload_n 88 i260_87 rfl rfl rfl ?_
    refine X.iconst 89 i260_88 rfl rfl (by decide) ?_
    refine X.putI' 92 5 i260_89 rfl rfl (by decide) rfl rfl rfl (fun hrm533 m533 hm533 => ?_)
    have hJ534 := v44_5 hJ532 hm533 (by omega)
    have em533 : m533 g0 44 5 = 0 := by rw [hm533]; exact z_upd_same _ _ _ _ _
    have km533 : ∀ g, m533 g 8 9 = m530 g 8 9 := fun g9 => by rw [hm533]; exact z_upd_o _ _ rfl
    refine X.aload_n 93 i260_92 rfl rfl rfl ?_
    refine X.getZ 96 9 i260_93 rfl rfl (by decide) rfl rfl rfl (fun h535 => ?_)
    refine X.ifne 101 99 i260_96 rfl rfl rfl (fun h536 => ?_) (fun h536 => ?_)
    · refine X.cut [(0, zr g0 44)] i260_101 rfl ?_
      refine X.aload_n 102 i260_101 rfl rfl rfl ?_
      refine X.getF 105 i260_102 rfl rfl (by decide) rfl rfl ?_
      refine X.aload_n 106 i260_105 rfl rfl rfl ?_
      refine X.getF 109 i260_106 rfl rfl (by decide) rfl rfl ?_
      refine X.calls 112 [zr 4 46, zr 4 45] [] [(0, zr 4 46), (1, zr 4 45)] i260_109 (by decide) rfl rfl (by omega) rfl rfl t261 (Nat.le_of_ble_eq_true rfl) (Nat.le_of_ble_eq_true rfl) rfl ?_
      refine c_cq_46_45 (B := B531) 4 4  (by omega) (hJ534.up (by omega)) (by omega) (by first | omega | (rw [z_upd_o _ _ rfl]; omega) | (rw [z_upd_o _ _ rfl, z_upd_o _ _ rfl, z_upd_o _ _ rfl]; omega)) (fun n0540 m537 hJ538 km537 pn0540 hqv5390 => ?_)
      show X (EE s) d 260 112 [(0, zr g0 44)] [] m537 _
      refine X.iconst 113 i260_112 rfl rfl (by decide) ?_
      refine X.reti i260_113 rfl t260 ?_
      exact hQ n0540 (-1) m537 (by first | trivial | omega) (hJ538.up (by omega)) (fun g => by simp only [hkm530, km533, km537]) (by subst hp0; subst_vars; first | exact cal_a _ | exact cal_b _ | exact cal_c _) 
    · refine X.iload_n 100 i260_99 rfl rfl rfl ?_
      refine X.reti i260_100 rfl t260 ?_
      exact hQ (z_upd (z_upd (z_upd n0516 g0 44 9 0) g0 44 8 0) g0 44 5 0) y529 m533 (by first | trivial | omega) (hJ534.up (by omega)) (fun g => by simp only [hkm530, km533]) (by subst hp0; subst_vars; first | exact cal_a _ | exact cal_b _ | exact cal_c _) 
  · have h511c : (m507 4 45 1614) = 1 := by omega
    clear h511 hz510
    refine X.iconst 33 i203_32 rfl rfl (by decide) ?_
    refine X.goto 37 i203_33 rfl rfl ?_
    refine X.cut [] i203_37 rfl ?_
    refine X.retz i203_37 rfl t203 (by omega) ?_
    show X (EE s) d 260 14 [(0, zr g0 44)] [zi 1] m507 _
    refine X.ifeq 24 17 i260_14 rfl rfl rfl (fun h541 => (by exfalso; omega)) (fun h541 => ?_)
    refine X.aload_n 18 i260_17 rfl rfl rfl ?_
    refine X.iconst 19 i260_18 rfl rfl (by decide) ?_
    refine X.putI' 22 5 i260_19 rfl rfl (by decide) rfl rfl rfl (fun hrm542 m542 hm542 => ?_)
    have hJ543 := v44_5 hJ508 hm542 (by omega)
    have em542 : m542 g0 44 5 = 0 := by rw [hm542]; exact z_upd_same _ _ _ _ _
    have km542 : ∀ g, m542 g 8 9 = m507 g 8 9 := fun g9 => by rw [hm542]; exact z_upd_o _ _ rfl
    refine X.iconst 23 i260_22 rfl rfl (by decide) ?_
    refine X.reti i260_23 rfl t260 ?_
    exact hQ (z_upd m0 g0 44 5 0) (-1) m542 (by first | trivial | omega) (hJ543.up (by omega)) (fun g => by simp only [km501, km503, km507, km542]) (by subst hp0; subst_vars; first | exact cal_a _ | exact cal_b _ | exact cal_c _) 
-- WorkMeter.fault
theorem c113_1 {s : Nat × (Nat → Int32)} {m0 m : zM} {B : Int} {d : Nat} {Q : Option zV → zM → Prop} (g0 : Nat) (a1 : Int) (hd : 13 ≤ d) (hJ : J m0 B m) (hB : B + 0 ≤ 1000000000) (ha1 : (-2147483648) ≤ a1 ∧ a1 ≤ 2147483647) (hQ : ∀ (v : Int), ((-2147483648) ≤ v ∧ v ≤ 2147483647) → Q (some (zi v)) m) : X (EE s) d 113 0 [(0, zr g0 40), (1, zi a1)] [] m Q := by
  refine X.iload_n 1 i113_0 rfl rfl rfl ?_
  refine X.ifne 12 4 i113_1 rfl rfl rfl (fun h501 => ?_) (fun h501 => ?_)
  · refine X.iload_n 13 i113_12 rfl rfl rfl ?_
    refine X.iconst 14 i113_13 rfl rfl (by decide) ?_
    refine X.icmpne 27 17 i113_14 rfl rfl rfl (fun h502 => ?_) (fun h502 => ?_)
    · refine X.cut [] i113_27 rfl ?_
      refine X.iconst 28 i113_27 rfl rfl (by decide) ?_
      refine X.reti i113_28 rfl t113 ?_
      exact hQ (-1) (by first | trivial | omega) 
    · refine X.aload_n 18 i113_17 rfl rfl rfl ?_
      refine X.getF 21 i113_18 rfl rfl (by decide) rfl rfl ?_
      refine X.getIr 24 5 i113_21 rfl rfl (by decide) rfl rfl rfl (fun h503 => ?_)
      refine X.goto 28 i113_24 rfl rfl ?_
      refine X.cut [] i113_28 rfl ?_
      refine X.reti i113_28 rfl t113 ?_
      exact hQ (m 4 41 5) (by first | trivial | omega) 
  · refine X.aload_n 5 i113_4 rfl rfl rfl ?_
    refine X.getF 8 i113_5 rfl rfl (by decide) rfl rfl ?_
    refine X.getIr 11 4 i113_8 rfl rfl (by decide) rfl rfl rfl (fun h504 => ?_)
    refine X.reti i113_11 rfl t113 ?_
    exact hQ (m 4 41 4) (by first | trivial | omega) 
-- WorkMeterModel.fault
theorem c259_1 {s : Nat × (Nat → Int32)} {m0 m : zM} {B : Int} {d : Nat} {Q : Option zV → zM → Prop} (g0 : Nat) (a1 : Int) (hd : 13 ≤ d) (hJ : J m0 B m) (hB : B + 0 ≤ 1000000000) (ha1 : (-2147483648) ≤ a1 ∧ a1 ≤ 2147483647) (hQ : ∀ (v : Int), ((-2147483648) ≤ v ∧ v ≤ 2147483647) → Q (some (zi v)) m) : X (EE s) d 259 0 [(0, zr g0 44), (1, zi a1)] [] m Q := by
  refine X.iload_n 1 i259_0 rfl rfl rfl ?_
  refine X.ifne 11 4 i259_1 rfl rfl rfl (fun h501 => ?_) (fun h501 => ?_)
  · refine X.iload_n 12 i259_11 rfl rfl rfl ?_
    refine X.iconst 13 i259_12 rfl rfl (by decide) ?_
    refine X.icmpne 23 16 i259_13 rfl rfl rfl (fun h502 => ?_) (fun h502 => ?_)
    · refine X.cut [] i259_23 rfl ?_
      refine X.iconst 24 i259_23 rfl rfl (by decide) ?_
      refine X.reti i259_24 rfl t259 ?_
      exact hQ (-1) (by first | trivial | omega) 
    · refine X.aload_n 17 i259_16 rfl rfl rfl ?_
      refine X.getIr 20 7 i259_17 rfl rfl (by decide) rfl rfl rfl (fun h503 => ?_)
      refine X.goto 24 i259_20 rfl rfl ?_
      refine X.cut [] i259_24 rfl ?_
      refine X.reti i259_24 rfl t259 ?_
      exact hQ (m g0 44 7) (by first | trivial | omega) 
  · refine X.aload_n 5 i259_4 rfl rfl rfl ?_
    refine X.getIr 8 6 i259_5 rfl rfl (by decide) rfl rfl rfl (fun h504 => ?_)
    refine X.goto 24 i259_8 rfl rfl ?_
    refine X.cut [] i259_24 rfl ?_
    refine X.reti i259_24 rfl t259 ?_
    exact hQ (m g0 44 6) (by first | trivial | omega) 
-- WorkMeter.seal
theorem c114_1 {s : Nat × (Nat → Int32)} {m0 m : zM} {B : Int} {d : Nat} {Q : Option zV → zM → Prop} (g0 : Nat) (a1 : Int) (hd : 13 ≤ d) (hJ : J m0 B m) (hB : B + 1 ≤ 1000000000) (ha1 : (-2147483648) ≤ a1 ∧ a1 ≤ 2147483647) (hQ : ∀ (v : Int) m', (0 ≤ v ∧ v ≤ 1) → J m0 (B + 1) m' → (∀ g, m' g 8 9 = m g 8 9) → Q (some (zi v)) m') : X (EE s) d 114 0 [(0, zr g0 40), (1, zi a1)] [] m Q := by
  refine X.aload_n 1 i114_0 rfl rfl rfl ?_
  refine X.getF 4 i114_1 rfl rfl (by decide) rfl rfl ?_
  refine X.getR 7 i114_4 rfl rfl (by decide) rfl rfl ?_
  refine X.iload_n 8 i114_7 rfl rfl rfl ?_
  refine X.callv 11 [zi a1] [] [(0, zr 0 39), (1, zi a1)] i114_8 rfl (by decide) rfl rfl (by omega) rfl rfl (by decide) rfl t115 (Nat.le_of_ble_eq_true rfl) (Nat.le_of_ble_eq_true rfl) rfl ?_
  refine X.aload_n 1 i115_0 rfl rfl rfl ?_
  refine X.getZ 4 0 i115_1 rfl rfl (by decide) rfl rfl rfl (fun h501 => ?_)
  refine X.ifne 18 7 i115_4 rfl rfl rfl (fun h502 => ?_) (fun h502 => ?_)
  · refine X.cut [] i115_18 rfl ?_
    refine X.iconst 19 i115_18 rfl rfl (by decide) ?_
    refine X.retz i115_19 rfl t115 (by omega) ?_
    show X (EE s) d 114 11 [(0, zr g0 40), (1, zi a1)] [zi 0] m _
    refine X.ifne 16 14 i114_11 rfl rfl rfl (fun h503 => (by exfalso; omega)) (fun h503 => ?_)
    refine X.iconst 15 i114_14 rfl rfl (by decide) ?_
    refine X.retz i114_15 rfl t114 (by omega) ?_
    exact hQ 0 m (by first | trivial | omega) (hJ.up (by omega)) (fun g => rfl) 
  · refine X.iload_n 8 i115_7 rfl rfl rfl ?_
    refine X.iflt 18 11 i115_8 rfl rfl rfl (fun h504 => ?_) (fun h504 => ?_)
    · refine X.cut [] i115_18 rfl ?_
      refine X.iconst 19 i115_18 rfl rfl (by decide) ?_
      refine X.retz i115_19 rfl t115 (by omega) ?_
      show X (EE s) d 114 11 [(0, zr g0 40), (1, zi a1)] [zi 0] m _
      refine X.ifne 16 14 i114_11 rfl rfl rfl (fun h505 => (by exfalso; omega)) (fun h505 => ?_)
      refine X.iconst 15 i114_14 rfl rfl (by decide) ?_
      refine X.retz i114_15 rfl t114 (by omega) ?_
      exact hQ 0 m (by first | trivial | omega) (hJ.up (by omega)) (fun g => rfl) 
    · refine X.iload_n 12 i115_11 rfl rfl rfl ?_
      refine X.sipush 15 i115_12 rfl rfl (by decide) ?_
      refine X.icmple 20 18 i115_15 rfl rfl rfl (fun h506 => ?_) (fun h506 => ?_)
      · refine X.aload_n 21 i115_20 rfl rfl rfl ?_
        refine X.iconst 22 i115_21 rfl rfl (by decide) ?_
        refine X.putZ' 25 0 i115_22 rfl rfl (by decide) rfl rfl rfl (by omega) (fun hrm507 m507 hm507 => ?_)
        have hJ508 := w39_0 hJ hm507 (by omega)
        have km507 : ∀ g, m507 g 8 9 = m g 8 9 := fun g9 => by rw [hm507]; exact z_upd_o _ _ rfl
        refine X.aload_n 26 i115_25 rfl rfl rfl ?_
        refine X.iload_n 27 i115_26 rfl rfl rfl ?_
        refine X.putI' 30 1 i115_27 rfl rfl (by decide) rfl rfl rfl (fun hrm509 m509 hm509 => ?_)
        have hJ510 := w39_1 hJ508 hm509 (by omega) hrm509
        have km509 : ∀ g, m509 g 8 9 = m507 g 8 9 := fun g9 => by rw [hm509]; exact z_upd_o _ _ rfl
        refine X.iconst 31 i115_30 rfl rfl (by decide) ?_
        refine X.retz i115_31 rfl t115 (by omega) ?_
        show X (EE s) d 114 11 [(0, zr g0 40), (1, zi a1)] [zi 1] m509 _
        refine X.ifne 16 14 i114_11 rfl rfl rfl (fun h511 => ?_) (fun h511 => (by exfalso; omega))
        refine X.cut [(0, zr g0 40)] i114_16 rfl ?_
        refine X.aload_n 17 i114_16 rfl rfl rfl ?_
        refine X.getF 20 i114_17 rfl rfl (by decide) rfl rfl ?_
        refine X.bipush 22 i114_20 rfl rfl (by decide) ?_
        refine X.iconst 23 i114_22 rfl rfl (by decide) ?_
        refine X.callv 26 [zi 30, zi 0] [] [(0, zr 0 8), (1, zi 30), (2, zi 0)] i114_23 rfl (by decide) rfl rfl (by omega) rfl rfl (by decide) rfl t54 (Nat.le_of_ble_eq_true rfl) (Nat.le_of_ble_eq_true rfl) rfl ?_
        refine X.aload_n 1 i54_0 rfl rfl rfl ?_
        refine X.getR 4 i54_1 rfl rfl (by decide) rfl rfl ?_
        refine X.aload_n 5 i54_4 rfl rfl rfl ?_
        refine X.getI 8 9 i54_5 rfl rfl (by decide) rfl rfl rfl ?_
        have h512 := r8_9 hJ510 0
        refine X.iload_n 9 i54_8 rfl rfl rfl ?_
        refine X.iload_n 10 i54_9 rfl rfl rfl ?_
        refine X.callv 13 [zi (m509 0 8 9), zi 30, zi 0] [] [(0, zr 0 37), (1, zi (m509 0 8 9)), (2, zi 30), (3, zi 0)] i54_10 rfl (by decide) rfl rfl (by omega) rfl rfl (by decide) rfl t55 (Nat.le_of_ble_eq_true rfl) (Nat.le_of_ble_eq_true rfl) rfl ?_
        refine X.aload_n 1 i55_0 rfl rfl rfl ?_
        refine X.getI 4 1 i55_1 rfl rfl (by decide) rfl rfl rfl ?_
        have h513 := r37_1 hJ510 0
        refine X.bipush 6 i55_4 rfl rfl (by decide) ?_
        refine X.irem 7 i55_6 rfl rfl (by omega) ?_
        refine X.iconst 8 i55_7 rfl rfl (by decide) ?_
        refine X.imul 9 i55_8 rfl rfl (by omega) ?_
        refine X.istore 11 [(0, zr 0 37), (1, zi (m509 0 8 9)), (2, zi 30), (3, zi 0), (4, zi (((m509 0 37 1) % 40) * 3))] i55_9 rfl rfl rfl ?_
        refine X.aload_n 12 i55_11 rfl rfl rfl ?_
        refine X.getR 15 i55_12 rfl rfl (by decide) rfl rfl ?_
        refine X.iload 17 i55_15 rfl rfl rfl ?_
        refine X.iload_n 18 i55_17 rfl rfl rfl ?_
        refine X.iast' 19 i55_18 rfl rfl (by decide) rfl (by omega) (fun hrm514 m514 hm514 => ?_)
        have hJ515 := w38_0 hJ510 hm514 (by omega) hrm514
        have km514 : ∀ g, m514 g 8 9 = m509 g 8 9 := fun g9 => by rw [hm514]; exact z_upd_o _ _ rfl
        refine X.aload_n 20 i55_19 rfl rfl rfl ?_
        refine X.getR 23 i55_20 rfl rfl (by decide) rfl rfl ?_
        refine X.iload 25 i55_23 rfl rfl rfl ?_
        refine X.iconst 26 i55_25 rfl rfl (by decide) ?_
        refine X.iadd 27 i55_26 rfl rfl (by omega) ?_
        refine X.iload_n 28 i55_27 rfl rfl rfl ?_
        refine X.iast' 29 i55_28 rfl rfl (by decide) rfl (by omega) (fun hrm516 m516 hm516 => ?_)
        have hJ517 := w38_0 hJ515 hm516 (by omega) hrm516
        have km516 : ∀ g, m516 g 8 9 = m514 g 8 9 := fun g9 => by rw [hm516]; exact z_upd_o _ _ rfl
        refine X.aload_n 30 i55_29 rfl rfl rfl ?_
        refine X.getR 33 i55_30 rfl rfl (by decide) rfl rfl ?_
        refine X.iload 35 i55_33 rfl rfl rfl ?_
        refine X.iconst 36 i55_35 rfl rfl (by decide) ?_
        refine X.iadd 37 i55_36 rfl rfl (by omega) ?_
        refine X.iload_n 38 i55_37 rfl rfl rfl ?_
        refine X.iast' 39 i55_38 rfl rfl (by decide) rfl (by omega) (fun hrm518 m518 hm518 => ?_)
        have hJ519 := w38_0 hJ517 hm518 (by omega) hrm518
        have km518 : ∀ g, m518 g 8 9 = m516 g 8 9 := fun g9 => by rw [hm518]; exact z_upd_o _ _ rfl
        refine X.aload_n 40 i55_39 rfl rfl rfl ?_
        refine X.dup 41 i55_40 rfl rfl rfl ?_
        refine X.getI 44 1 i55_41 rfl rfl (by decide) rfl rfl rfl ?_
        have h520 := r37_1 hJ519 0
        refine X.iconst 45 i55_44 rfl rfl (by decide) ?_
        refine X.iadd 46 i55_45 rfl rfl (by omega) ?_
        refine X.putI' 49 1 i55_46 rfl rfl (by decide) rfl rfl rfl (fun hrm521 m521 hm521 => ?_)
        have hJ522 := w37_1 (hJ519.up (B' := B + 1) (by omega)) hm521 (by omega)
        have km521 : ∀ g, m521 g 8 9 = m518 g 8 9 := fun g9 => by rw [hm521]; exact z_upd_o _ _ rfl
        refine X.retv i55_49 rfl t55 ?_
        show X (EE s) (d - 1) 54 13 [(0, zr 0 8), (1, zi 30), (2, zi 0)] [] m521 _
        refine X.retv i54_13 rfl t54 ?_
        show X (EE s) d 114 26 [(0, zr g0 40)] [] m521 _
        refine X.iconst 27 i114_26 rfl rfl (by decide) ?_
        refine X.retz i114_27 rfl t114 (by omega) ?_
        exact hQ 1 m521 (by first | trivial | omega) (hJ522.up (by omega)) (fun g => by simp only [km507, km509, km514, km516, km518, km521]) 
      · refine X.cut [] i115_18 rfl ?_
        refine X.iconst 19 i115_18 rfl rfl (by decide) ?_
        refine X.retz i115_19 rfl t115 (by omega) ?_
        show X (EE s) d 114 11 [(0, zr g0 40), (1, zi a1)] [zi 0] m _
        refine X.ifne 16 14 i114_11 rfl rfl rfl (fun h523 => (by exfalso; omega)) (fun h523 => ?_)
        refine X.iconst 15 i114_14 rfl rfl (by decide) ?_
        refine X.retz i114_15 rfl t114 (by omega) ?_
        exact hQ 0 m (by first | trivial | omega) (hJ.up (by omega)) (fun g => rfl) 
-- WorkMeterModel.seal
theorem c276_1 {s : Nat × (Nat → Int32)} {m0 m : zM} {B : Int} {d : Nat} {Q : Option zV → zM → Prop} (g0 : Nat) (a1 : Int) (hd : 14 ≤ d) (hJ : J m0 B m) (hB : B + 1 ≤ 1000000000) (ha1 : (-2147483648) ≤ a1 ∧ a1 ≤ 2147483647) (hQ : ∀ (v : Int) m', (0 ≤ v ∧ v ≤ 1) → J m0 (B + 1) m' → (∀ g, m' g 8 9 = m g 8 9) → Q (some (zi v)) m') : X (EE s) d 276 0 [(0, zr g0 44), (1, zi a1)] [] m Q := by
  refine X.aload_n 1 i276_0 rfl rfl rfl ?_
  refine X.getF 4 i276_1 rfl rfl (by decide) rfl rfl ?_
  refine X.sipush 7 i276_4 rfl rfl (by decide) ?_
  refine X.lald 8 i276_7 rfl rfl (by decide) rfl (by omega) ?_
  have h501 := r45_1614 hJ 4
  refine X.lconst (y := 1) 9 i276_8 rfl rfl rfl ?_
  refine X.lcmp 10 i276_9 rfl rfl (fun z502 hz502 => ?_)
  refine X.ifeq 25 13 i276_10 rfl rfl rfl (fun h503 => ?_) (fun h503 => ?_)
  · have h503c : (m 4 45 1614) = 1 := by omega
    clear h503 hz502
    refine X.cut [] i276_25 rfl ?_
    refine X.iconst 26 i276_25 rfl rfl (by decide) ?_
    refine X.retz i276_26 rfl t276 (by omega) ?_
    exact hQ 0 m (by first | trivial | omega) (hJ.up (by omega)) (fun g => rfl) 
  · have h503c : (m 4 45 1614) ≠ 1 := by omega
    clear h503 hz502
    refine X.iload_n 14 i276_13 rfl rfl rfl ?_
    refine X.i2l 15 i276_14 rfl rfl ?_
    refine X.lconst (y := 0) 16 i276_15 rfl rfl rfl ?_
    refine X.ldc2 19 i276_16 rfl rfl (by decide) ?_
    refine X.calls 22 [zl a1, zl 0, zl 9999] [] [(0, zl a1), (2, zl 0), (4, zl 9999)] i276_19 (by decide) rfl rfl (by omega) rfl rfl t204 (Nat.le_of_ble_eq_true rfl) (Nat.le_of_ble_eq_true rfl) rfl ?_
    refine X.lload_n 1 i204_0 rfl rfl rfl ?_
    refine X.lload_n 2 i204_1 rfl rfl rfl ?_
    refine X.lcmp 3 i204_2 rfl rfl (fun z504 hz504 => ?_)
    refine X.iflt 17 6 i204_3 rfl rfl rfl (fun h505 => ?_) (fun h505 => ?_)
    · have h505c : a1 < 0 := by omega
      clear h505 hz504
      refine X.cut [] i204_17 rfl ?_
      refine X.iconst 18 i204_17 rfl rfl (by decide) ?_
      refine X.retz i204_18 rfl t204 (by omega) ?_
      show X (EE s) d 276 22 [(0, zr g0 44), (1, zi a1)] [zi 0] m _
      refine X.ifne 27 25 i276_22 rfl rfl rfl (fun h506 => (by exfalso; omega)) (fun h506 => ?_)
      refine X.cut [] i276_25 rfl ?_
      refine X.iconst 26 i276_25 rfl rfl (by decide) ?_
      refine X.retz i276_26 rfl t276 (by omega) ?_
      exact hQ 0 m (by first | trivial | omega) (hJ.up (by omega)) (fun g => rfl) 
    · have h505c : a1 ≥ 0 := by omega
      clear h505 hz504
      refine X.lload_n 7 i204_6 rfl rfl rfl ?_
      refine X.lload 9 i204_7 rfl rfl rfl ?_
      refine X.lcmp 10 i204_9 rfl rfl (fun z507 hz507 => ?_)
      refine X.ifgt 17 13 i204_10 rfl rfl rfl (fun h508 => ?_) (fun h508 => ?_)
      · have h508c : a1 > 9999 := by omega
        clear h508 hz507
        refine X.cut [] i204_17 rfl ?_
        refine X.iconst 18 i204_17 rfl rfl (by decide) ?_
        refine X.retz i204_18 rfl t204 (by omega) ?_
        show X (EE s) d 276 22 [(0, zr g0 44), (1, zi a1)] [zi 0] m _
        refine X.ifne 27 25 i276_22 rfl rfl rfl (fun h509 => (by exfalso; omega)) (fun h509 => ?_)
        refine X.cut [] i276_25 rfl ?_
        refine X.iconst 26 i276_25 rfl rfl (by decide) ?_
        refine X.retz i276_26 rfl t276 (by omega) ?_
        exact hQ 0 m (by first | trivial | omega) (hJ.up (by omega)) (fun g => rfl) 
      · have h508c : a1 ≤ 9999 := by omega
        clear h508 hz507
        refine X.iconst 14 i204_13 rfl rfl (by decide) ?_
        refine X.goto 18 i204_14 rfl rfl ?_
        refine X.cut [] i204_18 rfl ?_
        refine X.retz i204_18 rfl t204 (by omega) ?_
        show X (EE s) d 276 22 [(0, zr g0 44), (1, zi a1)] [zi 1] m _
        refine X.ifne 27 25 i276_22 rfl rfl rfl (fun h510 => ?_) (fun h510 => (by exfalso; omega))
        refine X.aload_n 28 i276_27 rfl rfl rfl ?_
        refine X.getF 31 i276_28 rfl rfl (by decide) rfl rfl ?_
        refine X.sipush 34 i276_31 rfl rfl (by decide) ?_
        refine X.lconst (y := 1) 35 i276_34 rfl rfl rfl ?_
        refine X.last' 36 i276_35 rfl rfl (by decide) rfl (by omega) (fun hrm511 m511 hm511 => ?_)
        have hJ512 := w45_1614 hJ hm511 (by omega)
        have km511 : ∀ g, m511 g 8 9 = m g 8 9 := fun g9 => by rw [hm511]; exact z_upd_o _ _ rfl
        refine X.aload_n 37 i276_36 rfl rfl rfl ?_
        refine X.getF 40 i276_37 rfl rfl (by decide) rfl rfl ?_
        refine X.sipush 43 i276_40 rfl rfl (by decide) ?_
        refine X.iload_n 44 i276_43 rfl rfl rfl ?_
        refine X.i2l 45 i276_44 rfl rfl ?_
        refine X.last' 46 i276_45 rfl rfl (by decide) rfl (by omega) (fun hrm513 m513 hm513 => ?_)
        have hJ514 := w45_1615 hJ512 hm513 (by omega) hrm513
        have km513 : ∀ g, m513 g 8 9 = m511 g 8 9 := fun g9 => by rw [hm513]; exact z_upd_o _ _ rfl
        refine X.aload_n 47 i276_46 rfl rfl rfl ?_
        refine X.bipush 49 i276_47 rfl rfl (by decide) ?_
        refine X.lconst (y := 0) 50 i276_49 rfl rfl rfl ?_
        refine X.callv 53 [zi 30, zl 0] [] [(0, zr g0 44), (1, zi 30), (2, zl 0)] i276_50 rfl (by decide) rfl rfl (by omega) rfl rfl (by decide) rfl t223 (Nat.le_of_ble_eq_true rfl) (Nat.le_of_ble_eq_true rfl) rfl ?_
        refine c223_1 (B := B) g0 30 0 (by omega) (hJ514.up (by omega)) (by omega) (by omega) (by omega) (fun m515 hJ516 km515 => ?_)
        show X (EE s) d 276 53 [(0, zr g0 44), (1, zi a1)] [] m515 _
        refine X.iconst 54 i276_53 rfl rfl (by decide) ?_
        refine X.retz i276_54 rfl t276 (by omega) ?_
        exact hQ 1 m515 (by first | trivial | omega) (hJ516.up (by omega)) (fun g => by simp only [km511, km513, km515]) 
-- WorkMeter$Meter.tryCode
theorem c117_1 {s : Nat × (Nat → Int32)} {m0 m : zM} {B : Int} {d : Nat} {Q : Option zV → zM → Prop} (g0 : Nat) (a1 : Int) (hd : 14 ≤ d) (hJ : J m0 B m) (hB : B + 2 ≤ 1000000000) (ha1 : (-2147483648) ≤ a1 ∧ a1 ≤ 2147483647) (hQ : ∀ (v : Int) m', (0 ≤ v ∧ v ≤ 1) → J m0 (B + 2) m' → (∀ g, m' g 8 9 = m g 8 9) → Q (some (zi v)) m') : X (EE s) d 117 0 [(0, zr g0 8), (1, zi a1)] [] m Q := by
  refine X.aload_n 1 i117_0 rfl rfl rfl ?_
  refine X.getR 4 i117_1 rfl rfl (by decide) rfl rfl ?_
  refine X.getZ 7 0 i117_4 rfl rfl (by decide) rfl rfl rfl (fun h501 => ?_)
  refine X.ifeq 24 10 i117_7 rfl rfl rfl (fun h502 => ?_) (fun h502 => ?_)
  · refine X.cut [] i117_24 rfl ?_
    refine X.iconst 25 i117_24 rfl rfl (by decide) ?_
    refine X.retz i117_25 rfl t117 (by omega) ?_
    exact hQ 0 m (by first | trivial | omega) (hJ.up (by omega)) (fun g => rfl) 
  · refine X.aload_n 11 i117_10 rfl rfl rfl ?_
    refine X.getR 14 i117_11 rfl rfl (by decide) rfl rfl ?_
    refine X.aload_n 15 i117_14 rfl rfl rfl ?_
    refine X.getI 18 9 i117_15 rfl rfl (by decide) rfl rfl rfl ?_
    have h503 := r8_9 hJ g0
    refine X.callv 21 [zi (m g0 8 9)] [] [(0, zr g0 39), (1, zi (m g0 8 9))] i117_18 rfl (by decide) rfl rfl (by omega) rfl rfl (by decide) rfl t118 (Nat.le_of_ble_eq_true rfl) (Nat.le_of_ble_eq_true rfl) rfl ?_
    refine X.iconst 1 i118_0 rfl rfl (by decide) ?_
    refine X.aload_n 2 i118_1 rfl rfl rfl ?_
    refine X.getIr 5 4 i118_2 rfl rfl (by decide) rfl rfl rfl (fun h504 => ?_)
    refine X.iload_n 6 i118_5 rfl rfl rfl ?_
    refine X.iiF 7 .isub (fun x y => x - y) i118_6 rfl rfl rfl (fun _ _ => rfl) (fun z505 hz505 => ?_)
    refine X.maxI 10 i118_7 rfl rfl (by omega) (Nat.le_of_ble_eq_true rfl) ?_
    refine X.reti i118_10 rfl t118 ?_
    show X (EE s) d 117 21 [(0, zr g0 8), (1, zi a1)] [zi (max 0 z505)] m _
    refine X.ifle 26 24 i117_21 rfl rfl rfl (fun h506 => ?_) (fun h506 => ?_)
    · refine X.iload_n 27 i117_26 rfl rfl rfl ?_
      refine X.aload_n 28 i117_27 rfl rfl rfl ?_
      refine X.getR 31 i117_28 rfl rfl (by decide) rfl rfl ?_
      refine X.getIr 34 1 i117_31 rfl rfl (by decide) rfl rfl rfl (fun h507 => ?_)
      refine X.icmpne 53 37 i117_34 rfl rfl rfl (fun h508 => ?_) (fun h508 => ?_)
      · refine X.cut [(0, zr g0 8)] i117_53 rfl ?_
        refine X.aload_n 54 i117_53 rfl rfl rfl ?_
        refine X.getR 57 i117_54 rfl rfl (by decide) rfl rfl ?_
        refine X.dup 58 i117_57 rfl rfl rfl ?_
        refine X.getIr 61 2 i117_58 rfl rfl (by decide) rfl rfl rfl (fun h509 => ?_)
        refine X.iconst 62 i117_61 rfl rfl (by decide) ?_
        refine X.iiF 63 .iadd (fun x y => x + y) i117_62 rfl rfl rfl (fun _ _ => rfl) (fun z510 hz510 => ?_)
        refine X.putI' 66 2 i117_63 rfl rfl (by decide) rfl rfl rfl (fun hrm511 m511 hm511 => ?_)
        have hJ512 := w39_1 hJ hm511 (by omega) hrm511
        have km511 : ∀ g, m511 g 8 9 = m g 8 9 := fun g9 => by rw [hm511]; exact z_upd_o _ _ rfl
        refine X.aload_n 67 i117_66 rfl rfl rfl ?_
        refine X.bipush 69 i117_67 rfl rfl (by decide) ?_
        refine X.aload_n 70 i117_69 rfl rfl rfl ?_
        refine X.getR 73 i117_70 rfl rfl (by decide) rfl rfl ?_
        refine X.getIr 76 2 i117_73 rfl rfl (by decide) rfl rfl rfl (fun h513 => ?_)
        refine X.callv 79 [zi 32, zi (m511 g0 39 2)] [] [(0, zr g0 8), (1, zi 32), (2, zi (m511 g0 39 2))] i117_76 rfl (by decide) rfl rfl (by omega) rfl rfl (by decide) rfl t54 (Nat.le_of_ble_eq_true rfl) (Nat.le_of_ble_eq_true rfl) rfl ?_
        refine X.aload_n 1 i54_0 rfl rfl rfl ?_
        refine X.getR 4 i54_1 rfl rfl (by decide) rfl rfl ?_
        refine X.aload_n 5 i54_4 rfl rfl rfl ?_
        refine X.getI 8 9 i54_5 rfl rfl (by decide) rfl rfl rfl ?_
        have h514 := r8_9 hJ512 g0
        refine X.iload_n 9 i54_8 rfl rfl rfl ?_
        refine X.iload_n 10 i54_9 rfl rfl rfl ?_
        refine X.callv 13 [zi (m511 g0 8 9), zi 32, zi (m511 g0 39 2)] [] [(0, zr g0 37), (1, zi (m511 g0 8 9)), (2, zi 32), (3, zi (m511 g0 39 2))] i54_10 rfl (by decide) rfl rfl (by omega) rfl rfl (by decide) rfl t55 (Nat.le_of_ble_eq_true rfl) (Nat.le_of_ble_eq_true rfl) rfl ?_
        refine X.aload_n 1 i55_0 rfl rfl rfl ?_
        refine X.getI 4 1 i55_1 rfl rfl (by decide) rfl rfl rfl ?_
        have h515 := r37_1 hJ512 g0
        refine X.bipush 6 i55_4 rfl rfl (by decide) ?_
        refine X.irem 7 i55_6 rfl rfl (by omega) ?_
        refine X.iconst 8 i55_7 rfl rfl (by decide) ?_
        refine X.imul 9 i55_8 rfl rfl (by omega) ?_
        refine X.istore 11 [(0, zr g0 37), (1, zi (m511 g0 8 9)), (2, zi 32), (3, zi (m511 g0 39 2)), (4, zi (((m511 g0 37 1) % 40) * 3))] i55_9 rfl rfl rfl ?_
        refine X.aload_n 12 i55_11 rfl rfl rfl ?_
        refine X.getR 15 i55_12 rfl rfl (by decide) rfl rfl ?_
        refine X.iload 17 i55_15 rfl rfl rfl ?_
        refine X.iload_n 18 i55_17 rfl rfl rfl ?_
        refine X.iast' 19 i55_18 rfl rfl (by decide) rfl (by omega) (fun hrm516 m516 hm516 => ?_)
        have hJ517 := w38_0 hJ512 hm516 (by omega) hrm516
        have km516 : ∀ g, m516 g 8 9 = m511 g 8 9 := fun g9 => by rw [hm516]; exact z_upd_o _ _ rfl
        refine X.aload_n 20 i55_19 rfl rfl rfl ?_
        refine X.getR 23 i55_20 rfl rfl (by decide) rfl rfl ?_
        refine X.iload 25 i55_23 rfl rfl rfl ?_
        refine X.iconst 26 i55_25 rfl rfl (by decide) ?_
        refine X.iadd 27 i55_26 rfl rfl (by omega) ?_
        refine X.iload_n 28 i55_27 rfl rfl rfl ?_
        refine X.iast' 29 i55_28 rfl rfl (by decide) rfl (by omega) (fun hrm518 m518 hm518 => ?_)
        have hJ519 := w38_0 hJ517 hm518 (by omega) hrm518
        have km518 : ∀ g, m518 g 8 9 = m516 g 8 9 := fun g9 => by rw [hm518]; exact z_upd_o _ _ rfl
        refine X.aload_n 30 i55_29 rfl rfl rfl ?_
        refine X.getR 33 i55_30 rfl rfl (by decide) rfl rfl ?_
        refine X.iload 35 i55_33 rfl rfl rfl ?_
        refine X.iconst 36 i55_35 rfl rfl (by decide) ?_
        refine X.iadd 37 i55_36 rfl rfl (by omega) ?_
        refine X.iload_n 38 i55_37 rfl rfl rfl ?_
        refine X.iast' 39 i55_38 rfl rfl (by decide) rfl (by omega) (fun hrm520 m520 hm520 => ?_)
        have hJ521 := w38_0 hJ519 hm520 (by omega) hrm520
        have km520 : ∀ g, m520 g 8 9 = m518 g 8 9 := fun g9 => by rw [hm520]; exact z_upd_o _ _ rfl
        refine X.aload_n 40 i55_39 rfl rfl rfl ?_
        refine X.dup 41 i55_40 rfl rfl rfl ?_
        refine X.getI 44 1 i55_41 rfl rfl (by decide) rfl rfl rfl ?_
        have h522 := r37_1 hJ521 g0
        refine X.iconst 45 i55_44 rfl rfl (by decide) ?_
        refine X.iadd 46 i55_45 rfl rfl (by omega) ?_
        refine X.putI' 49 1 i55_46 rfl rfl (by decide) rfl rfl rfl (fun hrm523 m523 hm523 => ?_)
        have hJ524 := w37_1 (hJ521.up (B' := B + 1) (by omega)) hm523 (by omega)
        have km523 : ∀ g, m523 g 8 9 = m520 g 8 9 := fun g9 => by rw [hm523]; exact z_upd_o _ _ rfl
        refine X.retv i55_49 rfl t55 ?_
        show X (EE s) (d - 1) 54 13 [(0, zr g0 8), (1, zi 32), (2, zi (m511 g0 39 2))] [] m523 _
        refine X.retv i54_13 rfl t54 ?_
        show X (EE s) d 117 79 [(0, zr g0 8)] [] m523 _
        refine X.aload_n 80 i117_79 rfl rfl rfl ?_
        refine X.getR 83 i117_80 rfl rfl (by decide) rfl rfl ?_
        refine X.callv 86 [] [] [(0, zr g0 39)] i117_83 rfl (by decide) rfl rfl (by omega) rfl rfl (by decide) rfl t120 (Nat.le_of_ble_eq_true rfl) (Nat.le_of_ble_eq_true rfl) rfl ?_
        refine X.aload_n 1 i120_0 rfl rfl rfl ?_
        refine X.getIr 4 2 i120_1 rfl rfl (by decide) rfl rfl rfl (fun h525 => ?_)
        refine X.iconst 5 i120_4 rfl rfl (by decide) ?_
        refine X.icmplt 12 8 i120_5 rfl rfl rfl (fun h526 => ?_) (fun h526 => ?_)
        · refine X.cut [] i120_12 rfl ?_
          refine X.iconst 13 i120_12 rfl rfl (by decide) ?_
          refine X.retz i120_13 rfl t120 (by omega) ?_
          show X (EE s) d 117 86 [(0, zr g0 8)] [zi 0] m523 _
          refine X.ifeq 107 89 i117_86 rfl rfl rfl (fun h527 => ?_) (fun h527 => (by exfalso; omega))
          refine X.cut [] i117_107 rfl ?_
          refine X.iconst 108 i117_107 rfl rfl (by decide) ?_
          refine X.retz i117_108 rfl t117 (by omega) ?_
          exact hQ 0 m523 (by first | trivial | omega) (hJ524.up (by omega)) (fun g => by simp only [km511, km516, km518, km520, km523]) 
        · refine X.iconst 9 i120_8 rfl rfl (by decide) ?_
          refine X.goto 13 i120_9 rfl rfl ?_
          refine X.cut [] i120_13 rfl ?_
          refine X.retz i120_13 rfl t120 (by omega) ?_
          show X (EE s) d 117 86 [(0, zr g0 8)] [zi 1] m523 _
          refine X.ifeq 107 89 i117_86 rfl rfl rfl (fun h528 => (by exfalso; omega)) (fun h528 => ?_)
          refine X.aload_n 90 i117_89 rfl rfl rfl ?_
          refine X.getR 93 i117_90 rfl rfl (by decide) rfl rfl ?_
          refine X.aload_n 94 i117_93 rfl rfl rfl ?_
          refine X.getI 97 9 i117_94 rfl rfl (by decide) rfl rfl rfl ?_
          have h529 := r8_9 hJ524 g0
          refine X.callv 100 [zi (m523 g0 8 9)] [] [(0, zr g0 39), (1, zi (m523 g0 8 9))] i117_97 rfl (by decide) rfl rfl (by omega) rfl rfl (by decide) rfl t121 (Nat.le_of_ble_eq_true rfl) (Nat.le_of_ble_eq_true rfl) rfl ?_
          refine X.aload_n 1 i121_0 rfl rfl rfl ?_
          refine X.iconst 2 i121_1 rfl rfl (by decide) ?_
          refine X.putI' 5 2 i121_2 rfl rfl (by decide) rfl rfl rfl (fun hrm530 m530 hm530 => ?_)
          have hJ531 := w39_1 hJ524 hm530 (by omega) hrm530
          have km530 : ∀ g, m530 g 8 9 = m523 g 8 9 := fun g9 => by rw [hm530]; exact z_upd_o _ _ rfl
          refine X.aload_n 6 i121_5 rfl rfl rfl ?_
          refine X.iload_n 7 i121_6 rfl rfl rfl ?_
          refine X.sipush 10 i121_7 rfl rfl (by decide) ?_
          refine X.iadd 11 i121_10 rfl rfl (by omega) ?_
          refine X.putI' 14 4 i121_11 rfl rfl (by decide) rfl rfl rfl (fun hrm532 m532 hm532 => ?_)
          have hJ533 := w39_1 hJ531 hm532 (by omega) hrm532
          have km532 : ∀ g, m532 g 8 9 = m530 g 8 9 := fun g9 => by rw [hm532]; exact z_upd_o _ _ rfl
          refine X.retv i121_14 rfl t121 ?_
          show X (EE s) d 117 100 [(0, zr g0 8)] [] m532 _
          refine X.aload_n 101 i117_100 rfl rfl rfl ?_
          refine X.bipush 103 i117_101 rfl rfl (by decide) ?_
          refine X.iconst 104 i117_103 rfl rfl (by decide) ?_
          refine X.callv 107 [zi 33, zi 0] [] [(0, zr g0 8), (1, zi 33), (2, zi 0)] i117_104 rfl (by decide) rfl rfl (by omega) rfl rfl (by decide) rfl t54 (Nat.le_of_ble_eq_true rfl) (Nat.le_of_ble_eq_true rfl) rfl ?_
          refine X.aload_n 1 i54_0 rfl rfl rfl ?_
          refine X.getR 4 i54_1 rfl rfl (by decide) rfl rfl ?_
          refine X.aload_n 5 i54_4 rfl rfl rfl ?_
          refine X.getI 8 9 i54_5 rfl rfl (by decide) rfl rfl rfl ?_
          have h534 := r8_9 hJ533 g0
          refine X.iload_n 9 i54_8 rfl rfl rfl ?_
          refine X.iload_n 10 i54_9 rfl rfl rfl ?_
          refine X.callv 13 [zi (m532 g0 8 9), zi 33, zi 0] [] [(0, zr g0 37), (1, zi (m532 g0 8 9)), (2, zi 33), (3, zi 0)] i54_10 rfl (by decide) rfl rfl (by omega) rfl rfl (by decide) rfl t55 (Nat.le_of_ble_eq_true rfl) (Nat.le_of_ble_eq_true rfl) rfl ?_
          refine X.aload_n 1 i55_0 rfl rfl rfl ?_
          refine X.getI 4 1 i55_1 rfl rfl (by decide) rfl rfl rfl ?_
          have h535 := r37_1 hJ533 g0
          refine X.bipush 6 i55_4 rfl rfl (by decide) ?_
          refine X.irem 7 i55_6 rfl rfl (by omega) ?_
          refine X.iconst 8 i55_7 rfl rfl (by decide) ?_
          refine X.imul 9 i55_8 rfl rfl (by omega) ?_
          refine X.istore 11 [(0, zr g0 37), (1, zi (m532 g0 8 9)), (2, zi 33), (3, zi 0), (4, zi (((m532 g0 37 1) % 40) * 3))] i55_9 rfl rfl rfl ?_
          refine X.aload_n 12 i55_11 rfl rfl rfl ?_
          refine X.getR 15 i55_12 rfl rfl (by decide) rfl rfl ?_
          refine X.iload 17 i55_15 rfl rfl rfl ?_
          refine X.iload_n 18 i55_17 rfl rfl rfl ?_
          refine X.iast' 19 i55_18 rfl rfl (by decide) rfl (by omega) (fun hrm536 m536 hm536 => ?_)
          have hJ537 := w38_0 hJ533 hm536 (by omega) hrm536
          have km536 : ∀ g, m536 g 8 9 = m532 g 8 9 := fun g9 => by rw [hm536]; exact z_upd_o _ _ rfl
          refine X.aload_n 20 i55_19 rfl rfl rfl ?_
          refine X.getR 23 i55_20 rfl rfl (by decide) rfl rfl ?_
          refine X.iload 25 i55_23 rfl rfl rfl ?_
          refine X.iconst 26 i55_25 rfl rfl (by decide) ?_
          refine X.iadd 27 i55_26 rfl rfl (by omega) ?_
          refine X.iload_n 28 i55_27 rfl rfl rfl ?_
          refine X.iast' 29 i55_28 rfl rfl (by decide) rfl (by omega) (fun hrm538 m538 hm538 => ?_)
          have hJ539 := w38_0 hJ537 hm538 (by omega) hrm538
          have km538 : ∀ g, m538 g 8 9 = m536 g 8 9 := fun g9 => by rw [hm538]; exact z_upd_o _ _ rfl
          refine X.aload_n 30 i55_29 rfl rfl rfl ?_
          refine X.getR 33 i55_30 rfl rfl (by decide) rfl rfl ?_
          refine X.iload 35 i55_33 rfl rfl rfl ?_
          refine X.iconst 36 i55_35 rfl rfl (by decide) ?_
          refine X.iadd 37 i55_36 rfl rfl (by omega) ?_
          refine X.iload_n 38 i55_37 rfl rfl rfl ?_
          refine X.iast' 39 i55_38 rfl rfl (by decide) rfl (by omega) (fun hrm540 m540 hm540 => ?_)
          have hJ541 := w38_0 hJ539 hm540 (by omega) hrm540
          have km540 : ∀ g, m540 g 8 9 = m538 g 8 9 := fun g9 => by rw [hm540]; exact z_upd_o _ _ rfl
          refine X.aload_n 40 i55_39 rfl rfl rfl ?_
          refine X.dup 41 i55_40 rfl rfl rfl ?_
          refine X.getI 44 1 i55_41 rfl rfl (by decide) rfl rfl rfl ?_
          have h542 := r37_1 hJ541 g0
          refine X.iconst 45 i55_44 rfl rfl (by decide) ?_
          refine X.iadd 46 i55_45 rfl rfl (by omega) ?_
          refine X.putI' 49 1 i55_46 rfl rfl (by decide) rfl rfl rfl (fun hrm543 m543 hm543 => ?_)
          have hJ544 := w37_1 (hJ541.up (B' := B + 2) (by omega)) hm543 (by omega)
          have km543 : ∀ g, m543 g 8 9 = m540 g 8 9 := fun g9 => by rw [hm543]; exact z_upd_o _ _ rfl
          refine X.retv i55_49 rfl t55 ?_
          show X (EE s) (d - 1) 54 13 [(0, zr g0 8), (1, zi 33), (2, zi 0)] [] m543 _
          refine X.retv i54_13 rfl t54 ?_
          show X (EE s) d 117 107 [(0, zr g0 8)] [] m543 _
          refine X.cut [] i117_107 rfl ?_
          refine X.iconst 108 i117_107 rfl rfl (by decide) ?_
          refine X.retz i117_108 rfl t117 (by omega) ?_
          exact hQ 0 m543 (by first | trivial | omega) (hJ544.up (by omega)) (fun g => by simp only [km511, km516, km518, km520, km523, km530, km532, km536, km538, km540, km543]) 
      · refine X.aload_n 38 i117_37 rfl rfl rfl ?_
        refine X.getR 41 i117_38 rfl rfl (by decide) rfl rfl ?_
        refine X.callv 44 [] [] [(0, zr g0 39)] i117_41 rfl (by decide) rfl rfl (by omega) rfl rfl (by decide) rfl t119 (Nat.le_of_ble_eq_true rfl) (Nat.le_of_ble_eq_true rfl) rfl ?_
        refine X.aload_n 1 i119_0 rfl rfl rfl ?_
        refine X.iconst 2 i119_1 rfl rfl (by decide) ?_
        refine X.putZ' 5 0 i119_2 rfl rfl (by decide) rfl rfl rfl (by omega) (fun hrm545 m545 hm545 => ?_)
        have hJ546 := w39_0 hJ hm545 (by omega)
        have km545 : ∀ g, m545 g 8 9 = m g 8 9 := fun g9 => by rw [hm545]; exact z_upd_o _ _ rfl
        refine X.aload_n 6 i119_5 rfl rfl rfl ?_
        refine X.iconst 7 i119_6 rfl rfl (by decide) ?_
        refine X.putI' 10 2 i119_7 rfl rfl (by decide) rfl rfl rfl (fun hrm547 m547 hm547 => ?_)
        have hJ548 := w39_1 hJ546 hm547 (by omega) hrm547
        have km547 : ∀ g, m547 g 8 9 = m545 g 8 9 := fun g9 => by rw [hm547]; exact z_upd_o _ _ rfl
        refine X.aload_n 11 i119_10 rfl rfl rfl ?_
        refine X.iconst 12 i119_11 rfl rfl (by decide) ?_
        refine X.putI' 15 4 i119_12 rfl rfl (by decide) rfl rfl rfl (fun hrm549 m549 hm549 => ?_)
        have hJ550 := w39_1 hJ548 hm549 (by omega) hrm549
        have km549 : ∀ g, m549 g 8 9 = m547 g 8 9 := fun g9 => by rw [hm549]; exact z_upd_o _ _ rfl
        refine X.retv i119_15 rfl t119 ?_
        show X (EE s) d 117 44 [(0, zr g0 8), (1, zi a1)] [] m549 _
        refine X.aload_n 45 i117_44 rfl rfl rfl ?_
        refine X.bipush 47 i117_45 rfl rfl (by decide) ?_
        refine X.iconst 48 i117_47 rfl rfl (by decide) ?_
        refine X.callv 51 [zi 31, zi 0] [] [(0, zr g0 8), (1, zi 31), (2, zi 0)] i117_48 rfl (by decide) rfl rfl (by omega) rfl rfl (by decide) rfl t54 (Nat.le_of_ble_eq_true rfl) (Nat.le_of_ble_eq_true rfl) rfl ?_
        refine X.aload_n 1 i54_0 rfl rfl rfl ?_
        refine X.getR 4 i54_1 rfl rfl (by decide) rfl rfl ?_
        refine X.aload_n 5 i54_4 rfl rfl rfl ?_
        refine X.getI 8 9 i54_5 rfl rfl (by decide) rfl rfl rfl ?_
        have h551 := r8_9 hJ550 g0
        refine X.iload_n 9 i54_8 rfl rfl rfl ?_
        refine X.iload_n 10 i54_9 rfl rfl rfl ?_
        refine X.callv 13 [zi (m549 g0 8 9), zi 31, zi 0] [] [(0, zr g0 37), (1, zi (m549 g0 8 9)), (2, zi 31), (3, zi 0)] i54_10 rfl (by decide) rfl rfl (by omega) rfl rfl (by decide) rfl t55 (Nat.le_of_ble_eq_true rfl) (Nat.le_of_ble_eq_true rfl) rfl ?_
        refine X.aload_n 1 i55_0 rfl rfl rfl ?_
        refine X.getI 4 1 i55_1 rfl rfl (by decide) rfl rfl rfl ?_
        have h552 := r37_1 hJ550 g0
        refine X.bipush 6 i55_4 rfl rfl (by decide) ?_
        refine X.irem 7 i55_6 rfl rfl (by omega) ?_
        refine X.iconst 8 i55_7 rfl rfl (by decide) ?_
        refine X.imul 9 i55_8 rfl rfl (by omega) ?_
        refine X.istore 11 [(0, zr g0 37), (1, zi (m549 g0 8 9)), (2, zi 31), (3, zi 0), (4, zi (((m549 g0 37 1) % 40) * 3))] i55_9 rfl rfl rfl ?_
        refine X.aload_n 12 i55_11 rfl rfl rfl ?_
        refine X.getR 15 i55_12 rfl rfl (by decide) rfl rfl ?_
        refine X.iload 17 i55_15 rfl rfl rfl ?_
        refine X.iload_n 18 i55_17 rfl rfl rfl ?_
        refine X.iast' 19 i55_18 rfl rfl (by decide) rfl (by omega) (fun hrm553 m553 hm553 => ?_)
        have hJ554 := w38_0 hJ550 hm553 (by omega) hrm553
        have km553 : ∀ g, m553 g 8 9 = m549 g 8 9 := fun g9 => by rw [hm553]; exact z_upd_o _ _ rfl
        refine X.aload_n 20 i55_19 rfl rfl rfl ?_
        refine X.getR 23 i55_20 rfl rfl (by decide) rfl rfl ?_
        refine X.iload 25 i55_23 rfl rfl rfl ?_
        refine X.iconst 26 i55_25 rfl rfl (by decide) ?_
        refine X.iadd 27 i55_26 rfl rfl (by omega) ?_
        refine X.iload_n 28 i55_27 rfl rfl rfl ?_
        refine X.iast' 29 i55_28 rfl rfl (by decide) rfl (by omega) (fun hrm555 m555 hm555 => ?_)
        have hJ556 := w38_0 hJ554 hm555 (by omega) hrm555
        have km555 : ∀ g, m555 g 8 9 = m553 g 8 9 := fun g9 => by rw [hm555]; exact z_upd_o _ _ rfl
        refine X.aload_n 30 i55_29 rfl rfl rfl ?_
        refine X.getR 33 i55_30 rfl rfl (by decide) rfl rfl ?_
        refine X.iload 35 i55_33 rfl rfl rfl ?_
        refine X.iconst 36 i55_35 rfl rfl (by decide) ?_
        refine X.iadd 37 i55_36 rfl rfl (by omega) ?_
        refine X.iload_n 38 i55_37 rfl rfl rfl ?_
        refine X.iast' 39 i55_38 rfl rfl (by decide) rfl (by omega) (fun hrm557 m557 hm557 => ?_)
        have hJ558 := w38_0 hJ556 hm557 (by omega) hrm557
        have km557 : ∀ g, m557 g 8 9 = m555 g 8 9 := fun g9 => by rw [hm557]; exact z_upd_o _ _ rfl
        refine X.aload_n 40 i55_39 rfl rfl rfl ?_
        refine X.dup 41 i55_40 rfl rfl rfl ?_
        refine X.getI 44 1 i55_41 rfl rfl (by decide) rfl rfl rfl ?_
        have h559 := r37_1 hJ558 g0
        refine X.iconst 45 i55_44 rfl rfl (by decide) ?_
        refine X.iadd 46 i55_45 rfl rfl (by omega) ?_
        refine X.putI' 49 1 i55_46 rfl rfl (by decide) rfl rfl rfl (fun hrm560 m560 hm560 => ?_)
        have hJ561 := w37_1 (hJ558.up (B' := B + 1) (by omega)) hm560 (by omega)
        have km560 : ∀ g, m560 g 8 9 = m557 g 8 9 := fun g9 => by rw [hm560]; exact z_upd_o _ _ rfl
        refine X.retv i55_49 rfl t55 ?_
        show X (EE s) (d - 1) 54 13 [(0, zr g0 8), (1, zi 31), (2, zi 0)] [] m560 _
        refine X.retv i54_13 rfl t54 ?_
        show X (EE s) d 117 51 [(0, zr g0 8), (1, zi a1)] [] m560 _
        refine X.iconst 52 i117_51 rfl rfl (by decide) ?_
        refine X.retz i117_52 rfl t117 (by omega) ?_
        exact hQ 1 m560 (by first | trivial | omega) (hJ561.up (by omega)) (fun g => by simp only [km545, km547, km549, km553, km555, km557, km560]) 
    · refine X.cut [] i117_24 rfl ?_
      refine X.iconst 25 i117_24 rfl rfl (by decide) ?_
      refine X.retz i117_25 rfl t117 (by omega) ?_
      exact hQ 0 m (by first | trivial | omega) (hJ.up (by omega)) (fun g => rfl) 
-- WorkMeter.open
theorem c116_1 {s : Nat × (Nat → Int32)} {m0 m : zM} {B : Int} {d : Nat} {Q : Option zV → zM → Prop} (g0 : Nat) (a1 : Int) (hd : 15 ≤ d) (hJ : J m0 B m) (hB : B + 2 ≤ 1000000000) (ha1 : (-2147483648) ≤ a1 ∧ a1 ≤ 2147483647) (hQ : ∀ (v : Int) m', (0 ≤ v ∧ v ≤ 1) → J m0 (B + 2) m' → (∀ g, m' g 8 9 = m g 8 9) → Q (some (zi v)) m') : X (EE s) d 116 0 [(0, zr g0 40), (1, zi a1)] [] m Q := by
  refine X.aload_n 1 i116_0 rfl rfl rfl ?_
  refine X.getF 4 i116_1 rfl rfl (by decide) rfl rfl ?_
  refine X.iload_n 5 i116_4 rfl rfl rfl ?_
  refine X.callv 8 [zi a1] [] [(0, zr 0 8), (1, zi a1)] i116_5 rfl (by decide) rfl rfl (by omega) rfl rfl (by decide) rfl t117 (Nat.le_of_ble_eq_true rfl) (Nat.le_of_ble_eq_true rfl) rfl ?_
  refine c117_1 (B := B) 0 a1 (by omega) (hJ.up (by omega)) (by omega) (by omega) (fun v503 m501 hv503 hJ502 km501 => ?_)
  show X (EE s) d 116 8 [(0, zr g0 40), (1, zi a1)] [zi v503] m501 _
  refine X.retz i116_8 rfl t116 (by omega) ?_
  exact hQ v503 m501 (by first | trivial | omega) (hJ502.up (by omega)) (fun g => by simp only [km501]) 
theorem l223_17_2 {s : Nat × (Nat → Int32)} {m0 : zM} {d : Nat} {Q : Option zV → zM → Prop} (g0 : Nat) (y1 y2 : Int) (T9 : Nat → Int) (BE : Int) (hE : BE ≤ 1000000000) (hd : 13 ≤ d) (hy1 : 0 ≤ y1 ∧ y1 ≤ 40)
    (K54 : ∀ (m' : zM) (B' : Int), J m0 B' m' → B' ≤ BE → (∀ g, m' g 8 9 = T9 g) → X (EE s) d 223 54 [(0, zr g0 44), (1, zi y1), (2, zl y2)] [] m' Q) :
    ∀ (n : Nat) (y4 : Int) (m : zM) (B : Int), J m0 B m → B + 0 * (n : Int) ≤ BE → (∀ g, m g 8 9 = T9 g) → (3 ≤ y4 ∧ y4 ≤ 120) → 120 - y4 < (n : Int) → X (EE s) d 223 17 [(0, zr g0 44), (1, zi y1), (2, zl y2), (4, zi y4)] [] m Q := by
  intro n
  induction n with
  | zero =>
    intro y4 m B hJ hB hT hy4 hn
    exfalso
    omega
  | succ n ih =>
    intro y4 m B hJ hB hT hy4 hn
    refine X.iload 19 i223_17 rfl rfl rfl ?_
    refine X.bipush 21 i223_19 rfl rfl (by decide) ?_
    refine X.icmpge 54 24 i223_21 rfl rfl rfl (fun h504 => ?_) (fun h504 => ?_)
    · refine X.cut [(0, zr g0 44), (1, zi y1), (2, zl y2)] i223_54 rfl ?_
      exact K54  m (B) (hJ.up (by omega)) (by omega) (fun g => by simp only [hT]) 
    · refine X.aload_n 25 i223_24 rfl rfl rfl ?_
      refine X.getF 28 i223_25 rfl rfl (by decide) rfl rfl ?_
      refine X.sipush 31 i223_28 rfl rfl (by decide) ?_
      refine X.iload 33 i223_31 rfl rfl rfl ?_
      refine X.iadd 34 i223_33 rfl rfl (by omega) ?_
      refine X.iconst 35 i223_34 rfl rfl (by decide) ?_
      refine X.isub 36 i223_35 rfl rfl (by omega) ?_
      refine X.aload_n 37 i223_36 rfl rfl rfl ?_
      refine X.getF 40 i223_37 rfl rfl (by decide) rfl rfl ?_
      refine X.sipush 43 i223_40 rfl rfl (by decide) ?_
      refine X.iload 45 i223_43 rfl rfl rfl ?_
      refine X.iadd 46 i223_45 rfl rfl (by omega) ?_
      refine X.lald 47 i223_46 rfl rfl (by decide) rfl (by omega) ?_
      refine X.last' 48 i223_47 rfl rfl (by decide) rfl (by omega) (fun hrm505 m505 hm505 => ?_)
      have hJ506 := w45_788 hJ hm505 (by omega) hrm505
      have km505 : ∀ g, m505 g 8 9 = m g 8 9 := fun g9 => by rw [hm505]; exact z_upd_o _ _ rfl
      refine X.iinc 51 [(0, zr g0 44), (1, zi y1), (2, zl y2), (4, zi (y4 + 1))] i223_48 rfl rfl rfl (by omega) rfl ?_
      refine X.goto 17 i223_51 rfl rfl ?_
      exact ih (y4 + 1) m505 (B) (hJ506.up (by omega)) (by omega) (fun g => by simp only [km505, hT]) (by omega) (by omega)
-- WorkMeterModel.logs
theorem c223_2 {s : Nat × (Nat → Int32)} {m0 m : zM} {B : Int} {d : Nat} {Q : Option zV → zM → Prop} (g0 : Nat) (a1 a2 : Int) (hd : 13 ≤ d) (hJ : J m0 B m) (hB : B + 1 ≤ 1000000000) (ha1 : 0 ≤ a1 ∧ a1 ≤ 40) (hQ : ∀ m', J m0 (B + 1) m' → (∀ g, m' g 8 9 = m g 8 9) → Q none m') : X (EE s) d 223 0 [(0, zr g0 44), (1, zi a1), (2, zl a2)] [] m Q := by
  refine X.aload_n 1 i223_0 rfl rfl rfl ?_
  refine X.getF 4 i223_1 rfl rfl (by decide) rfl rfl ?_
  refine X.bipush 6 i223_4 rfl rfl (by decide) ?_
  refine X.lald 7 i223_6 rfl rfl (by decide) rfl (by omega) ?_
  have h501 := r45_16 hJ 4
  refine X.ldc2 10 i223_7 rfl rfl (by decide) ?_
  refine X.lcmp 11 i223_10 rfl rfl (fun z502 hz502 => ?_)
  refine X.iflt 54 14 i223_11 rfl rfl rfl (fun h503 => ?_) (fun h503 => ?_)
  · have h503c : (m 4 45 16) < 40 := by omega
    clear h503 hz502
    refine X.sipush 57 i223_54 rfl rfl (by decide) ?_
    refine X.iconst 58 i223_57 rfl rfl (by decide) ?_
    refine X.aload_n 59 i223_58 rfl rfl rfl ?_
    refine X.getF 62 i223_59 rfl rfl (by decide) rfl rfl ?_
    refine X.bipush 64 i223_62 rfl rfl (by decide) ?_
    refine X.lald 65 i223_64 rfl rfl (by decide) rfl (by omega) ?_
    refine X.ldc2 68 i223_65 rfl rfl (by decide) ?_
    refine X.lcmp 69 i223_68 rfl rfl (fun z504 hz504 => ?_)
    refine X.ifge 82 72 i223_69 rfl rfl rfl (fun h505 => (by exfalso; omega)) (fun h505 => ?_)
    have h505c : (m 4 45 16) < 40 := by omega
    clear h505 hz504
    refine X.aload_n 73 i223_72 rfl rfl rfl ?_
    refine X.getF 76 i223_73 rfl rfl (by decide) rfl rfl ?_
    refine X.bipush 78 i223_76 rfl rfl (by decide) ?_
    refine X.lald 79 i223_78 rfl rfl (by decide) rfl (by omega) ?_
    refine X.goto 85 i223_79 rfl rfl ?_
    refine X.l2i 86 i223_85 rfl rfl (by omega) ?_
    refine X.imul 87 i223_86 rfl rfl (by omega) ?_
    refine X.iadd 88 i223_87 rfl rfl (by omega) ?_
    refine X.istore 90 [(0, zr g0 44), (1, zi a1), (2, zl a2), (4, zi (1487 + (3 * (m 4 45 16))))] i223_88 rfl rfl rfl ?_
    refine X.aload_n 91 i223_90 rfl rfl rfl ?_
    refine X.getF 94 i223_91 rfl rfl (by decide) rfl rfl ?_
    refine X.iload 96 i223_94 rfl rfl rfl ?_
    refine X.aload_n 97 i223_96 rfl rfl rfl ?_
    refine X.getF 100 i223_97 rfl rfl (by decide) rfl rfl ?_
    refine X.iconst 101 i223_100 rfl rfl (by decide) ?_
    refine X.lald 102 i223_101 rfl rfl (by decide) rfl (by omega) ?_
    have h506 := r45_0 hJ 4
    refine X.last' 103 i223_102 rfl rfl (by decide) rfl (by omega) (fun hrm507 m507 hm507 => ?_)
    have hJ508 := w45_788 hJ hm507 (by omega) hrm507
    have km507 : ∀ g, m507 g 8 9 = m g 8 9 := fun g9 => by rw [hm507]; exact z_upd_o _ _ rfl
    refine X.aload_n 104 i223_103 rfl rfl rfl ?_
    refine X.getF 107 i223_104 rfl rfl (by decide) rfl rfl ?_
    refine X.iload 109 i223_107 rfl rfl rfl ?_
    refine X.iconst 110 i223_109 rfl rfl (by decide) ?_
    refine X.iadd 111 i223_110 rfl rfl (by omega) ?_
    refine X.iload_n 112 i223_111 rfl rfl rfl ?_
    refine X.i2l 113 i223_112 rfl rfl ?_
    refine X.last' 114 i223_113 rfl rfl (by decide) rfl (by omega) (fun hrm509 m509 hm509 => ?_)
    have hJ510 := w45_788 hJ508 hm509 (by omega) hrm509
    have km509 : ∀ g, m509 g 8 9 = m507 g 8 9 := fun g9 => by rw [hm509]; exact z_upd_o _ _ rfl
    refine X.aload_n 115 i223_114 rfl rfl rfl ?_
    refine X.getF 118 i223_115 rfl rfl (by decide) rfl rfl ?_
    refine X.iload 120 i223_118 rfl rfl rfl ?_
    refine X.iconst 121 i223_120 rfl rfl (by decide) ?_
    refine X.iadd 122 i223_121 rfl rfl (by omega) ?_
    refine X.lload_n 123 i223_122 rfl rfl rfl ?_
    refine X.last' 124 i223_123 rfl rfl (by decide) rfl (by omega) (fun hrm511 m511 hm511 => ?_)
    have hJ512 := w45_788 hJ510 hm511 (by omega) hrm511
    have km511 : ∀ g, m511 g 8 9 = m509 g 8 9 := fun g9 => by rw [hm511]; exact z_upd_o _ _ rfl
    refine X.aload_n 125 i223_124 rfl rfl rfl ?_
    refine X.getF 128 i223_125 rfl rfl (by decide) rfl rfl ?_
    refine X.bipush 130 i223_128 rfl rfl (by decide) ?_
    refine X.dup2 131 i223_130 rfl rfl ?_
    refine X.lald 132 i223_131 rfl rfl (by decide) rfl (by omega) ?_
    have h513 := r45_16 hJ512 4
    refine X.lconst (y := 1) 133 i223_132 rfl rfl rfl ?_
    refine X.ladd 134 i223_133 rfl rfl (by omega) ?_
    refine X.last' 135 i223_134 rfl rfl (by decide) rfl (by omega) (fun hrm514 m514 hm514 => ?_)
    have hJ515 := w45_16 (hJ512.up (B' := B + 1) (by omega)) hm514 (by omega)
    have km514 : ∀ g, m514 g 8 9 = m511 g 8 9 := fun g9 => by rw [hm514]; exact z_upd_o _ _ rfl
    refine X.retv i223_135 rfl t223 ?_
    exact hQ  m514  (hJ515.up (by omega)) (fun g => by simp only [km507, km509, km511, km514]) 
  · have h503c : (m 4 45 16) ≥ 40 := by omega
    clear h503 hz502
    refine X.iconst 15 i223_14 rfl rfl (by decide) ?_
    refine X.istore 17 [(0, zr g0 44), (1, zi a1), (2, zl a2), (4, zi 3)] i223_15 rfl rfl rfl ?_
    refine l223_17_2 (s := s) (m0 := m0) (d := d) g0 a1 a2 (fun g => m g 8 9) (BE := B + 0) (by omega) (by omega) (by omega) (fun  m516 B517 hJ518 hBB517 hkm516 => ?_) ((120 - 3 : Int).toNat + 1) 3 m (B) (hJ.up (by omega)) (by omega) (fun g => rfl) (by omega) (by omega)
    refine X.sipush 57 i223_54 rfl rfl (by decide) ?_
    refine X.iconst 58 i223_57 rfl rfl (by decide) ?_
    refine X.aload_n 59 i223_58 rfl rfl rfl ?_
    refine X.getF 62 i223_59 rfl rfl (by decide) rfl rfl ?_
    refine X.bipush 64 i223_62 rfl rfl (by decide) ?_
    refine X.lald 65 i223_64 rfl rfl (by decide) rfl (by omega) ?_
    have h519 := r45_16 hJ518 4
    refine X.ldc2 68 i223_65 rfl rfl (by decide) ?_
    refine X.lcmp 69 i223_68 rfl rfl (fun z520 hz520 => ?_)
    refine X.ifge 82 72 i223_69 rfl rfl rfl (fun h521 => ?_) (fun h521 => ?_)
    · have h521c : (m516 4 45 16) ≥ 40 := by omega
      clear h521 hz520
      refine X.ldc2 85 i223_82 rfl rfl (by decide) ?_
      refine X.l2i 86 i223_85 rfl rfl (by omega) ?_
      refine X.imul 87 i223_86 rfl rfl (by omega) ?_
      refine X.iadd 88 i223_87 rfl rfl (by omega) ?_
      refine X.istore 90 [(0, zr g0 44), (1, zi a1), (2, zl a2), (4, zi (1487 + (3 * 39)))] i223_88 rfl rfl rfl ?_
      refine X.aload_n 91 i223_90 rfl rfl rfl ?_
      refine X.getF 94 i223_91 rfl rfl (by decide) rfl rfl ?_
      refine X.iload 96 i223_94 rfl rfl rfl ?_
      refine X.aload_n 97 i223_96 rfl rfl rfl ?_
      refine X.getF 100 i223_97 rfl rfl (by decide) rfl rfl ?_
      refine X.iconst 101 i223_100 rfl rfl (by decide) ?_
      refine X.lald 102 i223_101 rfl rfl (by decide) rfl (by omega) ?_
      have h522 := r45_0 hJ518 4
      refine X.last' 103 i223_102 rfl rfl (by decide) rfl (by omega) (fun hrm523 m523 hm523 => ?_)
      have hJ524 := w45_788 hJ518 hm523 (by omega) hrm523
      have km523 : ∀ g, m523 g 8 9 = m516 g 8 9 := fun g9 => by rw [hm523]; exact z_upd_o _ _ rfl
      refine X.aload_n 104 i223_103 rfl rfl rfl ?_
      refine X.getF 107 i223_104 rfl rfl (by decide) rfl rfl ?_
      refine X.iload 109 i223_107 rfl rfl rfl ?_
      refine X.iconst 110 i223_109 rfl rfl (by decide) ?_
      refine X.iadd 111 i223_110 rfl rfl (by omega) ?_
      refine X.iload_n 112 i223_111 rfl rfl rfl ?_
      refine X.i2l 113 i223_112 rfl rfl ?_
      refine X.last' 114 i223_113 rfl rfl (by decide) rfl (by omega) (fun hrm525 m525 hm525 => ?_)
      have hJ526 := w45_788 hJ524 hm525 (by omega) hrm525
      have km525 : ∀ g, m525 g 8 9 = m523 g 8 9 := fun g9 => by rw [hm525]; exact z_upd_o _ _ rfl
      refine X.aload_n 115 i223_114 rfl rfl rfl ?_
      refine X.getF 118 i223_115 rfl rfl (by decide) rfl rfl ?_
      refine X.iload 120 i223_118 rfl rfl rfl ?_
      refine X.iconst 121 i223_120 rfl rfl (by decide) ?_
      refine X.iadd 122 i223_121 rfl rfl (by omega) ?_
      refine X.lload_n 123 i223_122 rfl rfl rfl ?_
      refine X.last' 124 i223_123 rfl rfl (by decide) rfl (by omega) (fun hrm527 m527 hm527 => ?_)
      have hJ528 := w45_788 hJ526 hm527 (by omega) hrm527
      have km527 : ∀ g, m527 g 8 9 = m525 g 8 9 := fun g9 => by rw [hm527]; exact z_upd_o _ _ rfl
      refine X.aload_n 125 i223_124 rfl rfl rfl ?_
      refine X.getF 128 i223_125 rfl rfl (by decide) rfl rfl ?_
      refine X.bipush 130 i223_128 rfl rfl (by decide) ?_
      refine X.dup2 131 i223_130 rfl rfl ?_
      refine X.lald 132 i223_131 rfl rfl (by decide) rfl (by omega) ?_
      have h529 := r45_16 hJ528 4
      refine X.lconst (y := 1) 133 i223_132 rfl rfl rfl ?_
      refine X.ladd 134 i223_133 rfl rfl (by omega) ?_
      refine X.last' 135 i223_134 rfl rfl (by decide) rfl (by omega) (fun hrm530 m530 hm530 => ?_)
      have hJ531 := w45_16 (hJ528.up (B' := B517 + 1) (by omega)) hm530 (by omega)
      have km530 : ∀ g, m530 g 8 9 = m527 g 8 9 := fun g9 => by rw [hm530]; exact z_upd_o _ _ rfl
      refine X.retv i223_135 rfl t223 ?_
      exact hQ  m530  (hJ531.up (by omega)) (fun g => by simp only [hkm516, km523, km525, km527, km530]) 
    · have h521c : (m516 4 45 16) < 40 := by omega
      clear h521 hz520
      refine X.aload_n 73 i223_72 rfl rfl rfl ?_
      refine X.getF 76 i223_73 rfl rfl (by decide) rfl rfl ?_
      refine X.bipush 78 i223_76 rfl rfl (by decide) ?_
      refine X.lald 79 i223_78 rfl rfl (by decide) rfl (by omega) ?_
      refine X.goto 85 i223_79 rfl rfl ?_
      refine X.l2i 86 i223_85 rfl rfl (by omega) ?_
      refine X.imul 87 i223_86 rfl rfl (by omega) ?_
      refine X.iadd 88 i223_87 rfl rfl (by omega) ?_
      refine X.istore 90 [(0, zr g0 44), (1, zi a1), (2, zl a2), (4, zi (1487 + (3 * (m516 4 45 16))))] i223_88 rfl rfl rfl ?_
      refine X.aload_n 91 i223_90 rfl rfl rfl ?_
      refine X.getF 94 i223_91 rfl rfl (by decide) rfl rfl ?_
      refine X.iload 96 i223_94 rfl rfl rfl ?_
      refine X.aload_n 97 i223_96 rfl rfl rfl ?_
      refine X.getF 100 i223_97 rfl rfl (by decide) rfl rfl ?_
      refine X.iconst 101 i223_100 rfl rfl (by decide) ?_
      refine X.lald 102 i223_101 rfl rfl (by decide) rfl (by omega) ?_
      have h532 := r45_0 hJ518 4
      refine X.last' 103 i223_102 rfl rfl (by decide) rfl (by omega) (fun hrm533 m533 hm533 => ?_)
      have hJ534 := w45_788 hJ518 hm533 (by omega) hrm533
      have km533 : ∀ g, m533 g 8 9 = m516 g 8 9 := fun g9 => by rw [hm533]; exact z_upd_o _ _ rfl
      refine X.aload_n 104 i223_103 rfl rfl rfl ?_
      refine X.getF 107 i223_104 rfl rfl (by decide) rfl rfl ?_
      refine X.iload 109 i223_107 rfl rfl rfl ?_
      refine X.iconst 110 i223_109 rfl rfl (by decide) ?_
      refine X.iadd 111 i223_110 rfl rfl (by omega) ?_
      refine X.iload_n 112 i223_111 rfl rfl rfl ?_
      refine X.i2l 113 i223_112 rfl rfl ?_
      refine X.last' 114 i223_113 rfl rfl (by decide) rfl (by omega) (fun hrm535 m535 hm535 => ?_)
      have hJ536 := w45_788 hJ534 hm535 (by omega) hrm535
      have km535 : ∀ g, m535 g 8 9 = m533 g 8 9 := fun g9 => by rw [hm535]; exact z_upd_o _ _ rfl
      refine X.aload_n 115 i223_114 rfl rfl rfl ?_
      refine X.getF 118 i223_115 rfl rfl (by decide) rfl rfl ?_
      refine X.iload 120 i223_118 rfl rfl rfl ?_
      refine X.iconst 121 i223_120 rfl rfl (by decide) ?_
      refine X.iadd 122 i223_121 rfl rfl (by omega) ?_
      refine X.lload_n 123 i223_122 rfl rfl rfl ?_
      refine X.last' 124 i223_123 rfl rfl (by decide) rfl (by omega) (fun hrm537 m537 hm537 => ?_)
      have hJ538 := w45_788 hJ536 hm537 (by omega) hrm537
      have km537 : ∀ g, m537 g 8 9 = m535 g 8 9 := fun g9 => by rw [hm537]; exact z_upd_o _ _ rfl
      refine X.aload_n 125 i223_124 rfl rfl rfl ?_
      refine X.getF 128 i223_125 rfl rfl (by decide) rfl rfl ?_
      refine X.bipush 130 i223_128 rfl rfl (by decide) ?_
      refine X.dup2 131 i223_130 rfl rfl ?_
      refine X.lald 132 i223_131 rfl rfl (by decide) rfl (by omega) ?_
      have h539 := r45_16 hJ538 4
      refine X.lconst (y := 1) 133 i223_132 rfl rfl rfl ?_
      refine X.ladd 134 i223_133 rfl rfl (by omega) ?_
      refine X.last' 135 i223_134 rfl rfl (by decide) rfl (by omega) (fun hrm540 m540 hm540 => ?_)
      have hJ541 := w45_16 (hJ538.up (B' := B517 + 1) (by omega)) hm540 (by omega)
      have km540 : ∀ g, m540 g 8 9 = m537 g 8 9 := fun g9 => by rw [hm540]; exact z_upd_o _ _ rfl
      refine X.retv i223_135 rfl t223 ?_
      exact hQ  m540  (hJ541.up (by omega)) (fun g => by simp only [hkm516, km533, km535, km537, km540]) 
theorem l223_17_3 {s : Nat × (Nat → Int32)} {m0 : zM} {d : Nat} {Q : Option zV → zM → Prop} (g0 : Nat) (y1 y2 : Int) (T9 : Nat → Int) (BE : Int) (hE : BE ≤ 1000000000) (hd : 13 ≤ d) (hy1 : 0 ≤ y1 ∧ y1 ≤ 40)
    (K54 : ∀ (m' : zM) (B' : Int), J m0 B' m' → B' ≤ BE → (∀ g, m' g 8 9 = T9 g) → X (EE s) d 223 54 [(0, zr g0 44), (1, zi y1), (2, zl y2)] [] m' Q) :
    ∀ (n : Nat) (y4 : Int) (m : zM) (B : Int), J m0 B m → B + 0 * (n : Int) ≤ BE → (∀ g, m g 8 9 = T9 g) → (3 ≤ y4 ∧ y4 ≤ 120) → 120 - y4 < (n : Int) → X (EE s) d 223 17 [(0, zr g0 44), (1, zi y1), (2, zl y2), (4, zi y4)] [] m Q := by
  intro n
  induction n with
  | zero =>
    intro y4 m B hJ hB hT hy4 hn
    exfalso
    omega
  | succ n ih =>
    intro y4 m B hJ hB hT hy4 hn
    refine X.iload 19 i223_17 rfl rfl rfl ?_
    refine X.bipush 21 i223_19 rfl rfl (by decide) ?_
    refine X.icmpge 54 24 i223_21 rfl rfl rfl (fun h504 => ?_) (fun h504 => ?_)
    · refine X.cut [(0, zr g0 44), (1, zi y1), (2, zl y2)] i223_54 rfl ?_
      exact K54  m (B) (hJ.up (by omega)) (by omega) (fun g => by simp only [hT]) 
    · refine X.aload_n 25 i223_24 rfl rfl rfl ?_
      refine X.getF 28 i223_25 rfl rfl (by decide) rfl rfl ?_
      refine X.sipush 31 i223_28 rfl rfl (by decide) ?_
      refine X.iload 33 i223_31 rfl rfl rfl ?_
      refine X.iadd 34 i223_33 rfl rfl (by omega) ?_
      refine X.iconst 35 i223_34 rfl rfl (by decide) ?_
      refine X.isub 36 i223_35 rfl rfl (by omega) ?_
      refine X.aload_n 37 i223_36 rfl rfl rfl ?_
      refine X.getF 40 i223_37 rfl rfl (by decide) rfl rfl ?_
      refine X.sipush 43 i223_40 rfl rfl (by decide) ?_
      refine X.iload 45 i223_43 rfl rfl rfl ?_
      refine X.iadd 46 i223_45 rfl rfl (by omega) ?_
      refine X.lald 47 i223_46 rfl rfl (by decide) rfl (by omega) ?_
      refine X.last' 48 i223_47 rfl rfl (by decide) rfl (by omega) (fun hrm505 m505 hm505 => ?_)
      have hJ506 := w45_788 hJ hm505 (by omega) hrm505
      have km505 : ∀ g, m505 g 8 9 = m g 8 9 := fun g9 => by rw [hm505]; exact z_upd_o _ _ rfl
      refine X.iinc 51 [(0, zr g0 44), (1, zi y1), (2, zl y2), (4, zi (y4 + 1))] i223_48 rfl rfl rfl (by omega) rfl ?_
      refine X.goto 17 i223_51 rfl rfl ?_
      exact ih (y4 + 1) m505 (B) (hJ506.up (by omega)) (by omega) (fun g => by simp only [km505, hT]) (by omega) (by omega)
-- WorkMeterModel.logs
theorem c223_3 {s : Nat × (Nat → Int32)} {m0 m : zM} {B : Int} {d : Nat} {Q : Option zV → zM → Prop} (g0 : Nat) (a1 a2 : Int) (hd : 13 ≤ d) (hJ : J m0 B m) (hB : B + 1 ≤ 1000000000) (ha1 : 0 ≤ a1 ∧ a1 ≤ 40) (hQ : ∀ m', J m0 (B + 1) m' → (∀ g, m' g 8 9 = m g 8 9) → Q none m') : X (EE s) d 223 0 [(0, zr g0 44), (1, zi a1), (2, zl a2)] [] m Q := by
  refine X.aload_n 1 i223_0 rfl rfl rfl ?_
  refine X.getF 4 i223_1 rfl rfl (by decide) rfl rfl ?_
  refine X.bipush 6 i223_4 rfl rfl (by decide) ?_
  refine X.lald 7 i223_6 rfl rfl (by decide) rfl (by omega) ?_
  have h501 := r45_16 hJ 4
  refine X.ldc2 10 i223_7 rfl rfl (by decide) ?_
  refine X.lcmp 11 i223_10 rfl rfl (fun z502 hz502 => ?_)
  refine X.iflt 54 14 i223_11 rfl rfl rfl (fun h503 => ?_) (fun h503 => ?_)
  · have h503c : (m 4 45 16) < 40 := by omega
    clear h503 hz502
    refine X.sipush 57 i223_54 rfl rfl (by decide) ?_
    refine X.iconst 58 i223_57 rfl rfl (by decide) ?_
    refine X.aload_n 59 i223_58 rfl rfl rfl ?_
    refine X.getF 62 i223_59 rfl rfl (by decide) rfl rfl ?_
    refine X.bipush 64 i223_62 rfl rfl (by decide) ?_
    refine X.lald 65 i223_64 rfl rfl (by decide) rfl (by omega) ?_
    refine X.ldc2 68 i223_65 rfl rfl (by decide) ?_
    refine X.lcmp 69 i223_68 rfl rfl (fun z504 hz504 => ?_)
    refine X.ifge 82 72 i223_69 rfl rfl rfl (fun h505 => (by exfalso; omega)) (fun h505 => ?_)
    have h505c : (m 4 45 16) < 40 := by omega
    clear h505 hz504
    refine X.aload_n 73 i223_72 rfl rfl rfl ?_
    refine X.getF 76 i223_73 rfl rfl (by decide) rfl rfl ?_
    refine X.bipush 78 i223_76 rfl rfl (by decide) ?_
    refine X.lald 79 i223_78 rfl rfl (by decide) rfl (by omega) ?_
    refine X.goto 85 i223_79 rfl rfl ?_
    refine X.l2i 86 i223_85 rfl rfl (by omega) ?_
    refine X.imul 87 i223_86 rfl rfl (by omega) ?_
    refine X.iadd 88 i223_87 rfl rfl (by omega) ?_
    refine X.istore 90 [(0, zr g0 44), (1, zi a1), (2, zl a2), (4, zi (1487 + (3 * (m 4 45 16))))] i223_88 rfl rfl rfl ?_
    refine X.aload_n 91 i223_90 rfl rfl rfl ?_
    refine X.getF 94 i223_91 rfl rfl (by decide) rfl rfl ?_
    refine X.iload 96 i223_94 rfl rfl rfl ?_
    refine X.aload_n 97 i223_96 rfl rfl rfl ?_
    refine X.getF 100 i223_97 rfl rfl (by decide) rfl rfl ?_
    refine X.iconst 101 i223_100 rfl rfl (by decide) ?_
    refine X.lald 102 i223_101 rfl rfl (by decide) rfl (by omega) ?_
    have h506 := r45_0 hJ 4
    refine X.last' 103 i223_102 rfl rfl (by decide) rfl (by omega) (fun hrm507 m507 hm507 => ?_)
    have hJ508 := w45_788 hJ hm507 (by omega) hrm507
    have km507 : ∀ g, m507 g 8 9 = m g 8 9 := fun g9 => by rw [hm507]; exact z_upd_o _ _ rfl
    refine X.aload_n 104 i223_103 rfl rfl rfl ?_
    refine X.getF 107 i223_104 rfl rfl (by decide) rfl rfl ?_
    refine X.iload 109 i223_107 rfl rfl rfl ?_
    refine X.iconst 110 i223_109 rfl rfl (by decide) ?_
    refine X.iadd 111 i223_110 rfl rfl (by omega) ?_
    refine X.iload_n 112 i223_111 rfl rfl rfl ?_
    refine X.i2l 113 i223_112 rfl rfl ?_
    refine X.last' 114 i223_113 rfl rfl (by decide) rfl (by omega) (fun hrm509 m509 hm509 => ?_)
    have hJ510 := w45_788 hJ508 hm509 (by omega) hrm509
    have km509 : ∀ g, m509 g 8 9 = m507 g 8 9 := fun g9 => by rw [hm509]; exact z_upd_o _ _ rfl
    refine X.aload_n 115 i223_114 rfl rfl rfl ?_
    refine X.getF 118 i223_115 rfl rfl (by decide) rfl rfl ?_
    refine X.iload 120 i223_118 rfl rfl rfl ?_
    refine X.iconst 121 i223_120 rfl rfl (by decide) ?_
    refine X.iadd 122 i223_121 rfl rfl (by omega) ?_
    refine X.lload_n 123 i223_122 rfl rfl rfl ?_
    refine X.last' 124 i223_123 rfl rfl (by decide) rfl (by omega) (fun hrm511 m511 hm511 => ?_)
    have hJ512 := w45_788 hJ510 hm511 (by omega) hrm511
    have km511 : ∀ g, m511 g 8 9 = m509 g 8 9 := fun g9 => by rw [hm511]; exact z_upd_o _ _ rfl
    refine X.aload_n 125 i223_124 rfl rfl rfl ?_
    refine X.getF 128 i223_125 rfl rfl (by decide) rfl rfl ?_
    refine X.bipush 130 i223_128 rfl rfl (by decide) ?_
    refine X.dup2 131 i223_130 rfl rfl ?_
    refine X.lald 132 i223_131 rfl rfl (by decide) rfl (by omega) ?_
    have h513 := r45_16 hJ512 4
    refine X.lconst (y := 1) 133 i223_132 rfl rfl rfl ?_
    refine X.ladd 134 i223_133 rfl rfl (by omega) ?_
    refine X.last' 135 i223_134 rfl rfl (by decide) rfl (by omega) (fun hrm514 m514 hm514 => ?_)
    have hJ515 := w45_16 (hJ512.up (B' := B + 1) (by omega)) hm514 (by omega)
    have km514 : ∀ g, m514 g 8 9 = m511 g 8 9 := fun g9 => by rw [hm514]; exact z_upd_o _ _ rfl
    refine X.retv i223_135 rfl t223 ?_
    exact hQ  m514  (hJ515.up (by omega)) (fun g => by simp only [km507, km509, km511, km514]) 
  · have h503c : (m 4 45 16) ≥ 40 := by omega
    clear h503 hz502
    refine X.iconst 15 i223_14 rfl rfl (by decide) ?_
    refine X.istore 17 [(0, zr g0 44), (1, zi a1), (2, zl a2), (4, zi 3)] i223_15 rfl rfl rfl ?_
    refine l223_17_3 (s := s) (m0 := m0) (d := d) g0 a1 a2 (fun g => m g 8 9) (BE := B + 0) (by omega) (by omega) (by omega) (fun  m516 B517 hJ518 hBB517 hkm516 => ?_) ((120 - 3 : Int).toNat + 1) 3 m (B) (hJ.up (by omega)) (by omega) (fun g => rfl) (by omega) (by omega)
    refine X.sipush 57 i223_54 rfl rfl (by decide) ?_
    refine X.iconst 58 i223_57 rfl rfl (by decide) ?_
    refine X.aload_n 59 i223_58 rfl rfl rfl ?_
    refine X.getF 62 i223_59 rfl rfl (by decide) rfl rfl ?_
    refine X.bipush 64 i223_62 rfl rfl (by decide) ?_
    refine X.lald 65 i223_64 rfl rfl (by decide) rfl (by omega) ?_
    have h519 := r45_16 hJ518 4
    refine X.ldc2 68 i223_65 rfl rfl (by decide) ?_
    refine X.lcmp 69 i223_68 rfl rfl (fun z520 hz520 => ?_)
    refine X.ifge 82 72 i223_69 rfl rfl rfl (fun h521 => ?_) (fun h521 => ?_)
    · have h521c : (m516 4 45 16) ≥ 40 := by omega
      clear h521 hz520
      refine X.ldc2 85 i223_82 rfl rfl (by decide) ?_
      refine X.l2i 86 i223_85 rfl rfl (by omega) ?_
      refine X.imul 87 i223_86 rfl rfl (by omega) ?_
      refine X.iadd 88 i223_87 rfl rfl (by omega) ?_
      refine X.istore 90 [(0, zr g0 44), (1, zi a1), (2, zl a2), (4, zi (1487 + (3 * 39)))] i223_88 rfl rfl rfl ?_
      refine X.aload_n 91 i223_90 rfl rfl rfl ?_
      refine X.getF 94 i223_91 rfl rfl (by decide) rfl rfl ?_
      refine X.iload 96 i223_94 rfl rfl rfl ?_
      refine X.aload_n 97 i223_96 rfl rfl rfl ?_
      refine X.getF 100 i223_97 rfl rfl (by decide) rfl rfl ?_
      refine X.iconst 101 i223_100 rfl rfl (by decide) ?_
      refine X.lald 102 i223_101 rfl rfl (by decide) rfl (by omega) ?_
      have h522 := r45_0 hJ518 4
      refine X.last' 103 i223_102 rfl rfl (by decide) rfl (by omega) (fun hrm523 m523 hm523 => ?_)
      have hJ524 := w45_788 hJ518 hm523 (by omega) hrm523
      have km523 : ∀ g, m523 g 8 9 = m516 g 8 9 := fun g9 => by rw [hm523]; exact z_upd_o _ _ rfl
      refine X.aload_n 104 i223_103 rfl rfl rfl ?_
      refine X.getF 107 i223_104 rfl rfl (by decide) rfl rfl ?_
      refine X.iload 109 i223_107 rfl rfl rfl ?_
      refine X.iconst 110 i223_109 rfl rfl (by decide) ?_
      refine X.iadd 111 i223_110 rfl rfl (by omega) ?_
      refine X.iload_n 112 i223_111 rfl rfl rfl ?_
      refine X.i2l 113 i223_112 rfl rfl ?_
      refine X.last' 114 i223_113 rfl rfl (by decide) rfl (by omega) (fun hrm525 m525 hm525 => ?_)
      have hJ526 := w45_788 hJ524 hm525 (by omega) hrm525
      have km525 : ∀ g, m525 g 8 9 = m523 g 8 9 := fun g9 => by rw [hm525]; exact z_upd_o _ _ rfl
      refine X.aload_n 115 i223_114 rfl rfl rfl ?_
      refine X.getF 118 i223_115 rfl rfl (by decide) rfl rfl ?_
      refine X.iload 120 i223_118 rfl rfl rfl ?_
      refine X.iconst 121 i223_120 rfl rfl (by decide) ?_
      refine X.iadd 122 i223_121 rfl rfl (by omega) ?_
      refine X.lload_n 123 i223_122 rfl rfl rfl ?_
      refine X.last' 124 i223_123 rfl rfl (by decide) rfl (by omega) (fun hrm527 m527 hm527 => ?_)
      have hJ528 := w45_788 hJ526 hm527 (by omega) hrm527
      have km527 : ∀ g, m527 g 8 9 = m525 g 8 9 := fun g9 => by rw [hm527]; exact z_upd_o _ _ rfl
      refine X.aload_n 125 i223_124 rfl rfl rfl ?_
      refine X.getF 128 i223_125 rfl rfl (by decide) rfl rfl ?_
      refine X.bipush 130 i223_128 rfl rfl (by decide) ?_
      refine X.dup2 131 i223_130 rfl rfl ?_
      refine X.lald 132 i223_131 rfl rfl (by decide) rfl (by omega) ?_
      have h529 := r45_16 hJ528 4
      refine X.lconst (y := 1) 133 i223_132 rfl rfl rfl ?_
      refine X.ladd 134 i223_133 rfl rfl (by omega) ?_
      refine X.last' 135 i223_134 rfl rfl (by decide) rfl (by omega) (fun hrm530 m530 hm530 => ?_)
      have hJ531 := w45_16 (hJ528.up (B' := B517 + 1) (by omega)) hm530 (by omega)
      have km530 : ∀ g, m530 g 8 9 = m527 g 8 9 := fun g9 => by rw [hm530]; exact z_upd_o _ _ rfl
      refine X.retv i223_135 rfl t223 ?_
      exact hQ  m530  (hJ531.up (by omega)) (fun g => by simp only [hkm516, km523, km525, km527, km530]) 
    · have h521c : (m516 4 45 16) < 40 := by omega
      clear h521 hz520
      refine X.aload_n 73 i223_72 rfl rfl rfl ?_
      refine X.getF 76 i223_73 rfl rfl (by decide) rfl rfl ?_
      refine X.bipush 78 i223_76 rfl rfl (by decide) ?_
      refine X.lald 79 i223_78 rfl rfl (by decide) rfl (by omega) ?_
      refine X.goto 85 i223_79 rfl rfl ?_
      refine X.l2i 86 i223_85 rfl rfl (by omega) ?_
      refine X.imul 87 i223_86 rfl rfl (by omega) ?_
      refine X.iadd 88 i223_87 rfl rfl (by omega) ?_
      refine X.istore 90 [(0, zr g0 44), (1, zi a1), (2, zl a2), (4, zi (1487 + (3 * (m516 4 45 16))))] i223_88 rfl rfl rfl ?_
      refine X.aload_n 91 i223_90 rfl rfl rfl ?_
      refine X.getF 94 i223_91 rfl rfl (by decide) rfl rfl ?_
      refine X.iload 96 i223_94 rfl rfl rfl ?_
      refine X.aload_n 97 i223_96 rfl rfl rfl ?_
      refine X.getF 100 i223_97 rfl rfl (by decide) rfl rfl ?_
      refine X.iconst 101 i223_100 rfl rfl (by decide) ?_
      refine X.lald 102 i223_101 rfl rfl (by decide) rfl (by omega) ?_
      have h532 := r45_0 hJ518 4
      refine X.last' 103 i223_102 rfl rfl (by decide) rfl (by omega) (fun hrm533 m533 hm533 => ?_)
      have hJ534 := w45_788 hJ518 hm533 (by omega) hrm533
      have km533 : ∀ g, m533 g 8 9 = m516 g 8 9 := fun g9 => by rw [hm533]; exact z_upd_o _ _ rfl
      refine X.aload_n 104 i223_103 rfl rfl rfl ?_
      refine X.getF 107 i223_104 rfl rfl (by decide) rfl rfl ?_
      refine X.iload 109 i223_107 rfl rfl rfl ?_
      refine X.iconst 110 i223_109 rfl rfl (by decide) ?_
      refine X.iadd 111 i223_110 rfl rfl (by omega) ?_
      refine X.iload_n 112 i223_111 rfl rfl rfl ?_
      refine X.i2l 113 i223_112 rfl rfl ?_
      refine X.last' 114 i223_113 rfl rfl (by decide) rfl (by omega) (fun hrm535 m535 hm535 => ?_)
      have hJ536 := w45_788 hJ534 hm535 (by omega) hrm535
      have km535 : ∀ g, m535 g 8 9 = m533 g 8 9 := fun g9 => by rw [hm535]; exact z_upd_o _ _ rfl
      refine X.aload_n 115 i223_114 rfl rfl rfl ?_
      refine X.getF 118 i223_115 rfl rfl (by decide) rfl rfl ?_
      refine X.iload 120 i223_118 rfl rfl rfl ?_
      refine X.iconst 121 i223_120 rfl rfl (by decide) ?_
      refine X.iadd 122 i223_121 rfl rfl (by omega) ?_
      refine X.lload_n 123 i223_122 rfl rfl rfl ?_
      refine X.last' 124 i223_123 rfl rfl (by decide) rfl (by omega) (fun hrm537 m537 hm537 => ?_)
      have hJ538 := w45_788 hJ536 hm537 (by omega) hrm537
      have km537 : ∀ g, m537 g 8 9 = m535 g 8 9 := fun g9 => by rw [hm537]; exact z_upd_o _ _ rfl
      refine X.aload_n 125 i223_124 rfl rfl rfl ?_
      refine X.getF 128 i223_125 rfl rfl (by decide) rfl rfl ?_
      refine X.bipush 130 i223_128 rfl rfl (by decide) ?_
      refine X.dup2 131 i223_130 rfl rfl ?_
      refine X.lald 132 i223_131 rfl rfl (by decide) rfl (by omega) ?_
      have h539 := r45_16 hJ538 4
      refine X.lconst (y := 1) 133 i223_132 rfl rfl rfl ?_
      refine X.ladd 134 i223_133 rfl rfl (by omega) ?_
      refine X.last' 135 i223_134 rfl rfl (by decide) rfl (by omega) (fun hrm540 m540 hm540 => ?_)
      have hJ541 := w45_16 (hJ538.up (B' := B517 + 1) (by omega)) hm540 (by omega)
      have km540 : ∀ g, m540 g 8 9 = m537 g 8 9 := fun g9 => by rw [hm540]; exact z_upd_o _ _ rfl
      refine X.retv i223_135 rfl t223 ?_
      exact hQ  m540  (hJ541.up (by omega)) (fun g => by simp only [hkm516, km533, km535, km537, km540]) 
-- WorkMeterModel.open
theorem c277_1 {s : Nat × (Nat → Int32)} {m0 m : zM} {B : Int} {d : Nat} {Q : Option zV → zM → Prop} (g0 : Nat) (a1 : Int) (hd : 14 ≤ d) (hJ : J m0 B m) (hB : B + 2 ≤ 1000000000) (ha1 : (-2147483648) ≤ a1 ∧ a1 ≤ 2147483647) (hQ : ∀ (v : Int) m', (0 ≤ v ∧ v ≤ 1) → J m0 (B + 2) m' → (∀ g, m' g 8 9 = m g 8 9) → Q (some (zi v)) m') : X (EE s) d 277 0 [(0, zr g0 44), (1, zi a1)] [] m Q := by
  refine X.aload_n 1 i277_0 rfl rfl rfl ?_
  refine X.getF 4 i277_1 rfl rfl (by decide) rfl rfl ?_
  refine X.sipush 7 i277_4 rfl rfl (by decide) ?_
  refine X.lald 8 i277_7 rfl rfl (by decide) rfl (by omega) ?_
  have h501 := r45_1614 hJ 4
  refine X.lconst (y := 0) 9 i277_8 rfl rfl rfl ?_
  refine X.lcmp 10 i277_9 rfl rfl (fun z502 hz502 => ?_)
  refine X.ifeq 22 13 i277_10 rfl rfl rfl (fun h503 => ?_) (fun h503 => ?_)
  · have h503c : (m 4 45 1614) = 0 := by omega
    clear h503 hz502
    refine X.cut [] i277_22 rfl ?_
    refine X.iconst 23 i277_22 rfl rfl (by decide) ?_
    refine X.retz i277_23 rfl t277 (by omega) ?_
    exact hQ 0 m (by first | trivial | omega) (hJ.up (by omega)) (fun g => rfl) 
  · have h503c : (m 4 45 1614) ≠ 0 := by omega
    clear h503 hz502
    refine X.aload_n 14 i277_13 rfl rfl rfl ?_
    refine X.callv 17 [] [] [(0, zr g0 44)] i277_14 rfl (by decide) rfl rfl (by omega) rfl rfl (by decide) rfl t278 (Nat.le_of_ble_eq_true rfl) (Nat.le_of_ble_eq_true rfl) rfl ?_
    refine X.aload_n 1 i278_0 rfl rfl rfl ?_
    refine X.getF 4 i278_1 rfl rfl (by decide) rfl rfl ?_
    refine X.sipush 7 i278_4 rfl rfl (by decide) ?_
    refine X.lald 8 i278_7 rfl rfl (by decide) rfl (by omega) ?_
    refine X.aload_n 9 i278_8 rfl rfl rfl ?_
    refine X.getF 12 i278_9 rfl rfl (by decide) rfl rfl ?_
    refine X.iconst 13 i278_12 rfl rfl (by decide) ?_
    refine X.lald 14 i278_13 rfl rfl (by decide) rfl (by omega) ?_
    have h504 := r45_0 hJ 4
    refine X.lcmp 15 i278_14 rfl rfl (fun z505 hz505 => ?_)
    refine X.ifle 36 18 i278_15 rfl rfl rfl (fun h506 => ?_) (fun h506 => ?_)
    · have h506c : (m 4 45 1617) ≤ (m 4 45 0) := by omega
      clear h506 hz505
      refine X.cut [] i278_36 rfl ?_
      refine X.lconst (y := 0) 37 i278_36 rfl rfl rfl ?_
      refine X.retl i278_37 rfl t278 ?_
      show X (EE s) d 277 17 [(0, zr g0 44), (1, zi a1)] [zl 0] m _
      refine X.lconst (y := 0) 18 i277_17 rfl rfl rfl ?_
      refine X.lcmp 19 i277_18 rfl rfl (fun z507 hz507 => ?_)
      refine X.ifle 24 22 i277_19 rfl rfl rfl (fun h508 => ?_) (fun h508 => (by exfalso; omega))
      have h508c : 0 ≤ 0 := by omega
      clear h508 hz507
      refine X.iload_n 25 i277_24 rfl rfl rfl ?_
      refine X.i2l 26 i277_25 rfl rfl ?_
      refine X.aload_n 27 i277_26 rfl rfl rfl ?_
      refine X.getF 30 i277_27 rfl rfl (by decide) rfl rfl ?_
      refine X.sipush 33 i277_30 rfl rfl (by decide) ?_
      refine X.lald 34 i277_33 rfl rfl (by decide) rfl (by omega) ?_
      refine X.lcmp 35 i277_34 rfl rfl (fun z509 hz509 => ?_)
      refine X.ifne 74 38 i277_35 rfl rfl rfl (fun h510 => ?_) (fun h510 => ?_)
      · have h510c : a1 ≠ (m 4 45 1615) := by omega
        clear h510 hz509
        refine X.cut [(0, zr g0 44)] i277_74 rfl ?_
        refine X.aload_n 75 i277_74 rfl rfl rfl ?_
        refine X.getF 78 i277_75 rfl rfl (by decide) rfl rfl ?_
        refine X.sipush 81 i277_78 rfl rfl (by decide) ?_
        refine X.dup2 82 i277_81 rfl rfl ?_
        refine X.lald 83 i277_82 rfl rfl (by decide) rfl (by omega) ?_
        refine X.lconst (y := 1) 84 i277_83 rfl rfl rfl ?_
        refine X.llF 85 .ladd (fun x y => x + y) i277_84 rfl rfl rfl (fun _ _ => rfl) (fun z511 hz511 => ?_)
        refine X.last' 86 i277_85 rfl rfl (by decide) rfl (by omega) (fun hrm512 m512 hm512 => ?_)
        have hJ513 := w45_1615 hJ hm512 (by omega) hrm512
        have km512 : ∀ g, m512 g 8 9 = m g 8 9 := fun g9 => by rw [hm512]; exact z_upd_o _ _ rfl
        refine X.aload_n 87 i277_86 rfl rfl rfl ?_
        refine X.bipush 89 i277_87 rfl rfl (by decide) ?_
        refine X.aload_n 90 i277_89 rfl rfl rfl ?_
        refine X.getF 93 i277_90 rfl rfl (by decide) rfl rfl ?_
        refine X.sipush 96 i277_93 rfl rfl (by decide) ?_
        refine X.lald 97 i277_96 rfl rfl (by decide) rfl (by omega) ?_
        refine X.callv 100 [zi 32, zl (m512 4 45 1616)] [] [(0, zr g0 44), (1, zi 32), (2, zl (m512 4 45 1616))] i277_97 rfl (by decide) rfl rfl (by omega) rfl rfl (by decide) rfl t223 (Nat.le_of_ble_eq_true rfl) (Nat.le_of_ble_eq_true rfl) rfl ?_
        refine c223_2 (B := B) g0 32 (m512 4 45 1616) (by omega) (hJ513.up (by omega)) (by omega) (by omega) (fun m514 hJ515 km514 => ?_)
        show X (EE s) d 277 100 [(0, zr g0 44)] [] m514 _
        refine X.aload_n 101 i277_100 rfl rfl rfl ?_
        refine X.getF 104 i277_101 rfl rfl (by decide) rfl rfl ?_
        refine X.sipush 107 i277_104 rfl rfl (by decide) ?_
        refine X.lald 108 i277_107 rfl rfl (by decide) rfl (by omega) ?_
        refine X.ldc2 111 i277_108 rfl rfl (by decide) ?_
        refine X.lcmp 112 i277_111 rfl rfl (fun z517 hz517 => ?_)
        refine X.ifge 117 115 i277_112 rfl rfl rfl (fun h518 => ?_) (fun h518 => ?_)
        · have h518c : (m514 4 45 1616) ≥ 3 := by omega
          clear h518 hz517
          refine X.aload_n 118 i277_117 rfl rfl rfl ?_
          refine X.getF 121 i277_118 rfl rfl (by decide) rfl rfl ?_
          refine X.sipush 124 i277_121 rfl rfl (by decide) ?_
          refine X.lconst (y := 0) 125 i277_124 rfl rfl rfl ?_
          refine X.last' 126 i277_125 rfl rfl (by decide) rfl (by omega) (fun hrm519 m519 hm519 => ?_)
          have hJ520 := w45_1615 hJ515 hm519 (by omega) hrm519
          have km519 : ∀ g, m519 g 8 9 = m514 g 8 9 := fun g9 => by rw [hm519]; exact z_upd_o _ _ rfl
          refine X.aload_n 127 i277_126 rfl rfl rfl ?_
          refine X.getF 130 i277_127 rfl rfl (by decide) rfl rfl ?_
          refine X.sipush 133 i277_130 rfl rfl (by decide) ?_
          refine X.aload_n 134 i277_133 rfl rfl rfl ?_
          refine X.getF 137 i277_134 rfl rfl (by decide) rfl rfl ?_
          refine X.iconst 138 i277_137 rfl rfl (by decide) ?_
          refine X.lald 139 i277_138 rfl rfl (by decide) rfl (by omega) ?_
          have h521 := r45_0 hJ520 4
          refine X.ldc2 142 i277_139 rfl rfl (by decide) ?_
          refine X.ladd 143 i277_142 rfl rfl (by omega) ?_
          refine X.last' 144 i277_143 rfl rfl (by decide) rfl (by omega) (fun hrm522 m522 hm522 => ?_)
          have hJ523 := w45_1615 hJ520 hm522 (by omega) hrm522
          have km522 : ∀ g, m522 g 8 9 = m519 g 8 9 := fun g9 => by rw [hm522]; exact z_upd_o _ _ rfl
          refine X.aload_n 145 i277_144 rfl rfl rfl ?_
          refine X.bipush 147 i277_145 rfl rfl (by decide) ?_
          refine X.lconst (y := 0) 148 i277_147 rfl rfl rfl ?_
          refine X.callv 151 [zi 33, zl 0] [] [(0, zr g0 44), (1, zi 33), (2, zl 0)] i277_148 rfl (by decide) rfl rfl (by omega) rfl rfl (by decide) rfl t223 (Nat.le_of_ble_eq_true rfl) (Nat.le_of_ble_eq_true rfl) rfl ?_
          refine c223_1 (B := B + 1) g0 33 0 (by omega) (hJ523.up (by omega)) (by omega) (by omega) (by omega) (fun m524 hJ525 km524 => ?_)
          show X (EE s) d 277 151 [(0, zr g0 44)] [] m524 _
          refine X.iconst 152 i277_151 rfl rfl (by decide) ?_
          refine X.retz i277_152 rfl t277 (by omega) ?_
          exact hQ 0 m524 (by first | trivial | omega) (hJ525.up (by omega)) (fun g => by simp only [km512, km514, km519, km522, km524]) 
        · have h518c : (m514 4 45 1616) < 3 := by omega
          clear h518 hz517
          refine X.iconst 116 i277_115 rfl rfl (by decide) ?_
          refine X.retz i277_116 rfl t277 (by omega) ?_
          exact hQ 0 m514 (by first | trivial | omega) (hJ515.up (by omega)) (fun g => by simp only [km512, km514]) 
      · have h510c : a1 = (m 4 45 1615) := by omega
        clear h510 hz509
        refine X.aload_n 39 i277_38 rfl rfl rfl ?_
        refine X.getF 42 i277_39 rfl rfl (by decide) rfl rfl ?_
        refine X.sipush 45 i277_42 rfl rfl (by decide) ?_
        refine X.lconst (y := 0) 46 i277_45 rfl rfl rfl ?_
        refine X.last' 47 i277_46 rfl rfl (by decide) rfl (by omega) (fun hrm527 m527 hm527 => ?_)
        have hJ528 := w45_1614 hJ hm527 (by omega)
        have km527 : ∀ g, m527 g 8 9 = m g 8 9 := fun g9 => by rw [hm527]; exact z_upd_o _ _ rfl
        refine X.aload_n 48 i277_47 rfl rfl rfl ?_
        refine X.getF 51 i277_48 rfl rfl (by decide) rfl rfl ?_
        refine X.sipush 54 i277_51 rfl rfl (by decide) ?_
        refine X.lconst (y := 0) 55 i277_54 rfl rfl rfl ?_
        refine X.last' 56 i277_55 rfl rfl (by decide) rfl (by omega) (fun hrm529 m529 hm529 => ?_)
        have hJ530 := w45_1615 hJ528 hm529 (by omega) hrm529
        have km529 : ∀ g, m529 g 8 9 = m527 g 8 9 := fun g9 => by rw [hm529]; exact z_upd_o _ _ rfl
        refine X.aload_n 57 i277_56 rfl rfl rfl ?_
        refine X.getF 60 i277_57 rfl rfl (by decide) rfl rfl ?_
        refine X.sipush 63 i277_60 rfl rfl (by decide) ?_
        refine X.lconst (y := 0) 64 i277_63 rfl rfl rfl ?_
        refine X.last' 65 i277_64 rfl rfl (by decide) rfl (by omega) (fun hrm531 m531 hm531 => ?_)
        have hJ532 := w45_1615 hJ530 hm531 (by omega) hrm531
        have km531 : ∀ g, m531 g 8 9 = m529 g 8 9 := fun g9 => by rw [hm531]; exact z_upd_o _ _ rfl
        refine X.aload_n 66 i277_65 rfl rfl rfl ?_
        refine X.bipush 68 i277_66 rfl rfl (by decide) ?_
        refine X.lconst (y := 0) 69 i277_68 rfl rfl rfl ?_
        refine X.callv 72 [zi 31, zl 0] [] [(0, zr g0 44), (1, zi 31), (2, zl 0)] i277_69 rfl (by decide) rfl rfl (by omega) rfl rfl (by decide) rfl t223 (Nat.le_of_ble_eq_true rfl) (Nat.le_of_ble_eq_true rfl) rfl ?_
        refine c223_1 (B := B) g0 31 0 (by omega) (hJ532.up (by omega)) (by omega) (by omega) (by omega) (fun m533 hJ534 km533 => ?_)
        show X (EE s) d 277 72 [(0, zr g0 44), (1, zi a1)] [] m533 _
        refine X.iconst 73 i277_72 rfl rfl (by decide) ?_
        refine X.retz i277_73 rfl t277 (by omega) ?_
        exact hQ 1 m533 (by first | trivial | omega) (hJ534.up (by omega)) (fun g => by simp only [km527, km529, km531, km533]) 
    · have h506c : (m 4 45 1617) > (m 4 45 0) := by omega
      clear h506 hz505
      refine X.aload_n 19 i278_18 rfl rfl rfl ?_
      refine X.getF 22 i278_19 rfl rfl (by decide) rfl rfl ?_
      refine X.sipush 25 i278_22 rfl rfl (by decide) ?_
      refine X.lald 26 i278_25 rfl rfl (by decide) rfl (by omega) ?_
      refine X.aload_n 27 i278_26 rfl rfl rfl ?_
      refine X.getF 30 i278_27 rfl rfl (by decide) rfl rfl ?_
      refine X.iconst 31 i278_30 rfl rfl (by decide) ?_
      refine X.lald 32 i278_31 rfl rfl (by decide) rfl (by omega) ?_
      refine X.llF 33 .lsub (fun x y => x - y) i278_32 rfl rfl rfl (fun _ _ => rfl) (fun z536 hz536 => ?_)
      refine X.goto 37 i278_33 rfl rfl ?_
      refine X.cut [] i278_37 rfl ?_
      refine X.retl i278_37 rfl t278 ?_
      show X (EE s) d 277 17 [(0, zr g0 44), (1, zi a1)] [zl z536] m _
      refine X.lconst (y := 0) 18 i277_17 rfl rfl rfl ?_
      refine X.lcmp 19 i277_18 rfl rfl (fun z537 hz537 => ?_)
      refine X.ifle 24 22 i277_19 rfl rfl rfl (fun h538 => ?_) (fun h538 => ?_)
      · have h538c : z536 ≤ 0 := by omega
        clear h538 hz537
        refine X.iload_n 25 i277_24 rfl rfl rfl ?_
        refine X.i2l 26 i277_25 rfl rfl ?_
        refine X.aload_n 27 i277_26 rfl rfl rfl ?_
        refine X.getF 30 i277_27 rfl rfl (by decide) rfl rfl ?_
        refine X.sipush 33 i277_30 rfl rfl (by decide) ?_
        refine X.lald 34 i277_33 rfl rfl (by decide) rfl (by omega) ?_
        refine X.lcmp 35 i277_34 rfl rfl (fun z539 hz539 => ?_)
        refine X.ifne 74 38 i277_35 rfl rfl rfl (fun h540 => ?_) (fun h540 => ?_)
        · have h540c : a1 ≠ (m 4 45 1615) := by omega
          clear h540 hz539
          refine X.cut [(0, zr g0 44)] i277_74 rfl ?_
          refine X.aload_n 75 i277_74 rfl rfl rfl ?_
          refine X.getF 78 i277_75 rfl rfl (by decide) rfl rfl ?_
          refine X.sipush 81 i277_78 rfl rfl (by decide) ?_
          refine X.dup2 82 i277_81 rfl rfl ?_
          refine X.lald 83 i277_82 rfl rfl (by decide) rfl (by omega) ?_
          refine X.lconst (y := 1) 84 i277_83 rfl rfl rfl ?_
          refine X.llF 85 .ladd (fun x y => x + y) i277_84 rfl rfl rfl (fun _ _ => rfl) (fun z541 hz541 => ?_)
          refine X.last' 86 i277_85 rfl rfl (by decide) rfl (by omega) (fun hrm542 m542 hm542 => ?_)
          have hJ543 := w45_1615 hJ hm542 (by omega) hrm542
          have km542 : ∀ g, m542 g 8 9 = m g 8 9 := fun g9 => by rw [hm542]; exact z_upd_o _ _ rfl
          refine X.aload_n 87 i277_86 rfl rfl rfl ?_
          refine X.bipush 89 i277_87 rfl rfl (by decide) ?_
          refine X.aload_n 90 i277_89 rfl rfl rfl ?_
          refine X.getF 93 i277_90 rfl rfl (by decide) rfl rfl ?_
          refine X.sipush 96 i277_93 rfl rfl (by decide) ?_
          refine X.lald 97 i277_96 rfl rfl (by decide) rfl (by omega) ?_
          refine X.callv 100 [zi 32, zl (m542 4 45 1616)] [] [(0, zr g0 44), (1, zi 32), (2, zl (m542 4 45 1616))] i277_97 rfl (by decide) rfl rfl (by omega) rfl rfl (by decide) rfl t223 (Nat.le_of_ble_eq_true rfl) (Nat.le_of_ble_eq_true rfl) rfl ?_
          refine c223_3 (B := B) g0 32 (m542 4 45 1616) (by omega) (hJ543.up (by omega)) (by omega) (by omega) (fun m544 hJ545 km544 => ?_)
          show X (EE s) d 277 100 [(0, zr g0 44)] [] m544 _
          refine X.aload_n 101 i277_100 rfl rfl rfl ?_
          refine X.getF 104 i277_101 rfl rfl (by decide) rfl rfl ?_
          refine X.sipush 107 i277_104 rfl rfl (by decide) ?_
          refine X.lald 108 i277_107 rfl rfl (by decide) rfl (by omega) ?_
          refine X.ldc2 111 i277_108 rfl rfl (by decide) ?_
          refine X.lcmp 112 i277_111 rfl rfl (fun z547 hz547 => ?_)
          refine X.ifge 117 115 i277_112 rfl rfl rfl (fun h548 => ?_) (fun h548 => ?_)
          · have h548c : (m544 4 45 1616) ≥ 3 := by omega
            clear h548 hz547
            refine X.aload_n 118 i277_117 rfl rfl rfl ?_
            refine X.getF 121 i277_118 rfl rfl (by decide) rfl rfl ?_
            refine X.sipush 124 i277_121 rfl rfl (by decide) ?_
            refine X.lconst (y := 0) 125 i277_124 rfl rfl rfl ?_
            refine X.last' 126 i277_125 rfl rfl (by decide) rfl (by omega) (fun hrm549 m549 hm549 => ?_)
            have hJ550 := w45_1615 hJ545 hm549 (by omega) hrm549
            have km549 : ∀ g, m549 g 8 9 = m544 g 8 9 := fun g9 => by rw [hm549]; exact z_upd_o _ _ rfl
            refine X.aload_n 127 i277_126 rfl rfl rfl ?_
            refine X.getF 130 i277_127 rfl rfl (by decide) rfl rfl ?_
            refine X.sipush 133 i277_130 rfl rfl (by decide) ?_
            refine X.aload_n 134 i277_133 rfl rfl rfl ?_
            refine X.getF 137 i277_134 rfl rfl (by decide) rfl rfl ?_
            refine X.iconst 138 i277_137 rfl rfl (by decide) ?_
            refine X.lald 139 i277_138 rfl rfl (by decide) rfl (by omega) ?_
            have h551 := r45_0 hJ550 4
            refine X.ldc2 142 i277_139 rfl rfl (by decide) ?_
            refine X.ladd 143 i277_142 rfl rfl (by omega) ?_
            refine X.last' 144 i277_143 rfl rfl (by decide) rfl (by omega) (fun hrm552 m552 hm552 => ?_)
            have hJ553 := w45_1615 hJ550 hm552 (by omega) hrm552
            have km552 : ∀ g, m552 g 8 9 = m549 g 8 9 := fun g9 => by rw [hm552]; exact z_upd_o _ _ rfl
            refine X.aload_n 145 i277_144 rfl rfl rfl ?_
            refine X.bipush 147 i277_145 rfl rfl (by decide) ?_
            refine X.lconst (y := 0) 148 i277_147 rfl rfl rfl ?_
            refine X.callv 151 [zi 33, zl 0] [] [(0, zr g0 44), (1, zi 33), (2, zl 0)] i277_148 rfl (by decide) rfl rfl (by omega) rfl rfl (by decide) rfl t223 (Nat.le_of_ble_eq_true rfl) (Nat.le_of_ble_eq_true rfl) rfl ?_
            refine c223_1 (B := B + 1) g0 33 0 (by omega) (hJ553.up (by omega)) (by omega) (by omega) (by omega) (fun m554 hJ555 km554 => ?_)
            show X (EE s) d 277 151 [(0, zr g0 44)] [] m554 _
            refine X.iconst 152 i277_151 rfl rfl (by decide) ?_
            refine X.retz i277_152 rfl t277 (by omega) ?_
            exact hQ 0 m554 (by first | trivial | omega) (hJ555.up (by omega)) (fun g => by simp only [km542, km544, km549, km552, km554]) 
          · have h548c : (m544 4 45 1616) < 3 := by omega
            clear h548 hz547
            refine X.iconst 116 i277_115 rfl rfl (by decide) ?_
            refine X.retz i277_116 rfl t277 (by omega) ?_
            exact hQ 0 m544 (by first | trivial | omega) (hJ545.up (by omega)) (fun g => by simp only [km542, km544]) 
        · have h540c : a1 = (m 4 45 1615) := by omega
          clear h540 hz539
          refine X.aload_n 39 i277_38 rfl rfl rfl ?_
          refine X.getF 42 i277_39 rfl rfl (by decide) rfl rfl ?_
          refine X.sipush 45 i277_42 rfl rfl (by decide) ?_
          refine X.lconst (y := 0) 46 i277_45 rfl rfl rfl ?_
          refine X.last' 47 i277_46 rfl rfl (by decide) rfl (by omega) (fun hrm557 m557 hm557 => ?_)
          have hJ558 := w45_1614 hJ hm557 (by omega)
          have km557 : ∀ g, m557 g 8 9 = m g 8 9 := fun g9 => by rw [hm557]; exact z_upd_o _ _ rfl
          refine X.aload_n 48 i277_47 rfl rfl rfl ?_
          refine X.getF 51 i277_48 rfl rfl (by decide) rfl rfl ?_
          refine X.sipush 54 i277_51 rfl rfl (by decide) ?_
          refine X.lconst (y := 0) 55 i277_54 rfl rfl rfl ?_
          refine X.last' 56 i277_55 rfl rfl (by decide) rfl (by omega) (fun hrm559 m559 hm559 => ?_)
          have hJ560 := w45_1615 hJ558 hm559 (by omega) hrm559
          have km559 : ∀ g, m559 g 8 9 = m557 g 8 9 := fun g9 => by rw [hm559]; exact z_upd_o _ _ rfl
          refine X.aload_n 57 i277_56 rfl rfl rfl ?_
          refine X.getF 60 i277_57 rfl rfl (by decide) rfl rfl ?_
          refine X.sipush 63 i277_60 rfl rfl (by decide) ?_
          refine X.lconst (y := 0) 64 i277_63 rfl rfl rfl ?_
          refine X.last' 65 i277_64 rfl rfl (by decide) rfl (by omega) (fun hrm561 m561 hm561 => ?_)
          have hJ562 := w45_1615 hJ560 hm561 (by omega) hrm561
          have km561 : ∀ g, m561 g 8 9 = m559 g 8 9 := fun g9 => by rw [hm561]; exact z_upd_o _ _ rfl
          refine X.aload_n 66 i277_65 rfl rfl rfl ?_
          refine X.bipush 68 i277_66 rfl rfl (by decide) ?_
          refine X.lconst (y := 0) 69 i277_68 rfl rfl rfl ?_
          refine X.callv 72 [zi 31, zl 0] [] [(0, zr g0 44), (1, zi 31), (2, zl 0)] i277_69 rfl (by decide) rfl rfl (by omega) rfl rfl (by decide) rfl t223 (Nat.le_of_ble_eq_true rfl) (Nat.le_of_ble_eq_true rfl) rfl ?_
          refine c223_1 (B := B) g0 31 0 (by omega) (hJ562.up (by omega)) (by omega) (by omega) (by omega) (fun m563 hJ564 km563 => ?_)
          show X (EE s) d 277 72 [(0, zr g0 44), (1, zi a1)] [] m563 _
          refine X.iconst 73 i277_72 rfl rfl (by decide) ?_
          refine X.retz i277_73 rfl t277 (by omega) ?_
          exact hQ 1 m563 (by first | trivial | omega) (hJ564.up (by omega)) (fun g => by simp only [km557, km559, km561, km563]) 
      · have h538c : z536 > 0 := by omega
        clear h538 hz537
        refine X.cut [] i277_22 rfl ?_
        refine X.iconst 23 i277_22 rfl rfl (by decide) ?_
        refine X.retz i277_23 rfl t277 (by omega) ?_
        exact hQ 0 m (by first | trivial | omega) (hJ.up (by omega)) (fun g => rfl) 
-- WorkMeter.season
theorem c122_1 {s : Nat × (Nat → Int32)} {m0 m : zM} {B : Int} {d : Nat} {Q : Option zV → zM → Prop} (g0 : Nat) (a1 a2 : Int) (hd : 13 ≤ d) (hJ : J m0 B m) (hB : B + 0 ≤ 1000000000) (ha1 : (-2147483648) ≤ a1 ∧ a1 ≤ 2147483647) (ha2 : (-2147483648) ≤ a2 ∧ a2 ≤ 2147483647) (hQ : ∀ (v : Int) m', (0 ≤ v ∧ v ≤ 1) → J m0 (B) m' → (∀ g, m' g 8 9 = m g 8 9) → Q (some (zi v)) m') : X (EE s) d 122 0 [(0, zr g0 40), (1, zi a1), (2, zi a2)] [] m Q := by
  refine X.aload_n 1 i122_0 rfl rfl rfl ?_
  refine X.getF 4 i122_1 rfl rfl (by decide) rfl rfl ?_
  refine X.getR 7 i122_4 rfl rfl (by decide) rfl rfl ?_
  refine X.callv 10 [] [] [(0, zr 0 39)] i122_7 rfl (by decide) rfl rfl (by omega) rfl rfl (by decide) rfl t17 (Nat.le_of_ble_eq_true rfl) (Nat.le_of_ble_eq_true rfl) rfl ?_
  refine X.aload_n 1 i17_0 rfl rfl rfl ?_
  refine X.getZ 4 0 i17_1 rfl rfl (by decide) rfl rfl rfl (fun h501 => ?_)
  refine X.ifeq 17 7 i17_4 rfl rfl rfl (fun h502 => ?_) (fun h502 => ?_)
  · refine X.aload_n 18 i17_17 rfl rfl rfl ?_
    refine X.getZ 21 0 i17_18 rfl rfl (by decide) rfl rfl rfl (fun h503 => ?_)
    refine X.retz i17_21 rfl t17 (by omega) ?_
    show X (EE s) d 122 10 [(0, zr g0 40), (1, zi a1), (2, zi a2)] [zi (m 0 39 0)] m _
    refine X.ifne 32 13 i122_10 rfl rfl rfl (fun h504 => ?_) (fun h504 => ?_)
    · refine X.cut [] i122_32 rfl ?_
      refine X.iconst 33 i122_32 rfl rfl (by decide) ?_
      refine X.retz i122_33 rfl t122 (by omega) ?_
      exact hQ 0 m (by first | trivial | omega) (hJ.up (by omega)) (fun g => rfl) 
    · refine X.iload_n 14 i122_13 rfl rfl rfl ?_
      refine X.calls 17 [zi a1] [] [(0, zi a1)] i122_14 (by decide) rfl rfl (by omega) rfl rfl t123 (Nat.le_of_ble_eq_true rfl) (Nat.le_of_ble_eq_true rfl) rfl ?_
      refine X.iload_n 1 i123_0 rfl rfl rfl ?_
      refine X.iflt 13 4 i123_1 rfl rfl rfl (fun h505 => ?_) (fun h505 => ?_)
      · refine X.cut [] i123_13 rfl ?_
        refine X.iconst 14 i123_13 rfl rfl (by decide) ?_
        refine X.retz i123_14 rfl t123 (by omega) ?_
        show X (EE s) d 122 17 [(0, zr g0 40), (1, zi a1), (2, zi a2)] [zi 0] m _
        refine X.ifeq 32 20 i122_17 rfl rfl rfl (fun h506 => ?_) (fun h506 => (by exfalso; omega))
        refine X.cut [] i122_32 rfl ?_
        refine X.iconst 33 i122_32 rfl rfl (by decide) ?_
        refine X.retz i122_33 rfl t122 (by omega) ?_
        exact hQ 0 m (by first | trivial | omega) (hJ.up (by omega)) (fun g => rfl) 
      · refine X.iload_n 5 i123_4 rfl rfl rfl ?_
        refine X.iconst 6 i123_5 rfl rfl (by decide) ?_
        refine X.icmpge 13 9 i123_6 rfl rfl rfl (fun h507 => ?_) (fun h507 => ?_)
        · refine X.cut [] i123_13 rfl ?_
          refine X.iconst 14 i123_13 rfl rfl (by decide) ?_
          refine X.retz i123_14 rfl t123 (by omega) ?_
          show X (EE s) d 122 17 [(0, zr g0 40), (1, zi a1), (2, zi a2)] [zi 0] m _
          refine X.ifeq 32 20 i122_17 rfl rfl rfl (fun h508 => ?_) (fun h508 => (by exfalso; omega))
          refine X.cut [] i122_32 rfl ?_
          refine X.iconst 33 i122_32 rfl rfl (by decide) ?_
          refine X.retz i122_33 rfl t122 (by omega) ?_
          exact hQ 0 m (by first | trivial | omega) (hJ.up (by omega)) (fun g => rfl) 
        · refine X.iconst 10 i123_9 rfl rfl (by decide) ?_
          refine X.goto 14 i123_10 rfl rfl ?_
          refine X.cut [] i123_14 rfl ?_
          refine X.retz i123_14 rfl t123 (by omega) ?_
          show X (EE s) d 122 17 [(0, zr g0 40), (1, zi a1), (2, zi a2)] [zi 1] m _
          refine X.ifeq 32 20 i122_17 rfl rfl rfl (fun h509 => (by exfalso; omega)) (fun h509 => ?_)
          refine X.iload_n 21 i122_20 rfl rfl rfl ?_
          refine X.iconst 22 i122_21 rfl rfl (by decide) ?_
          refine X.icmplt 32 25 i122_22 rfl rfl rfl (fun h510 => ?_) (fun h510 => ?_)
          · refine X.cut [] i122_32 rfl ?_
            refine X.iconst 33 i122_32 rfl rfl (by decide) ?_
            refine X.retz i122_33 rfl t122 (by omega) ?_
            exact hQ 0 m (by first | trivial | omega) (hJ.up (by omega)) (fun g => rfl) 
          · refine X.iload_n 26 i122_25 rfl rfl rfl ?_
            refine X.sipush 29 i122_26 rfl rfl (by decide) ?_
            refine X.icmplt 34 32 i122_29 rfl rfl rfl (fun h511 => ?_) (fun h511 => ?_)
            · refine X.iload_n 35 i122_34 rfl rfl rfl ?_
              refine X.ifne 45 38 i122_35 rfl rfl rfl (fun h512 => ?_) (fun h512 => ?_)
              · refine X.aload_n 46 i122_45 rfl rfl rfl ?_
                refine X.getF 49 i122_46 rfl rfl (by decide) rfl rfl ?_
                refine X.getR 52 i122_49 rfl rfl (by decide) rfl rfl ?_
                refine X.getR 55 i122_52 rfl rfl (by decide) rfl rfl ?_
                refine X.iload_n 56 i122_55 rfl rfl rfl ?_
                refine X.iload_n 57 i122_56 rfl rfl rfl ?_
                refine X.iast' 58 i122_57 rfl rfl (by decide) rfl (by omega) (fun hrm513 m513 hm513 => ?_)
                have hJ514 := w15_0 hJ hm513 (by omega) (by omega)
                have km513 : ∀ g, m513 g 8 9 = m g 8 9 := fun g9 => by rw [hm513]; exact z_upd_o _ _ rfl
                refine X.iconst 59 i122_58 rfl rfl (by decide) ?_
                refine X.retz i122_59 rfl t122 (by omega) ?_
                exact hQ 1 m513 (by first | trivial | omega) (hJ514.up (by omega)) (fun g => by simp only [km513]) 
              · refine X.iload_n 39 i122_38 rfl rfl rfl ?_
                refine X.iconst 40 i122_39 rfl rfl (by decide) ?_
                refine X.icmpne 45 43 i122_40 rfl rfl rfl (fun h515 => ?_) (fun h515 => ?_)
                · refine X.aload_n 46 i122_45 rfl rfl rfl ?_
                  refine X.getF 49 i122_46 rfl rfl (by decide) rfl rfl ?_
                  refine X.getR 52 i122_49 rfl rfl (by decide) rfl rfl ?_
                  refine X.getR 55 i122_52 rfl rfl (by decide) rfl rfl ?_
                  refine X.iload_n 56 i122_55 rfl rfl rfl ?_
                  refine X.iload_n 57 i122_56 rfl rfl rfl ?_
                  refine X.iast' 58 i122_57 rfl rfl (by decide) rfl (by omega) (fun hrm516 m516 hm516 => ?_)
                  have hJ517 := w15_0 hJ hm516 (by omega) (by omega)
                  have km516 : ∀ g, m516 g 8 9 = m g 8 9 := fun g9 => by rw [hm516]; exact z_upd_o _ _ rfl
                  refine X.iconst 59 i122_58 rfl rfl (by decide) ?_
                  refine X.retz i122_59 rfl t122 (by omega) ?_
                  exact hQ 1 m516 (by first | trivial | omega) (hJ517.up (by omega)) (fun g => by simp only [km516]) 
                · refine X.iconst 44 i122_43 rfl rfl (by decide) ?_
                  refine X.retz i122_44 rfl t122 (by omega) ?_
                  exact hQ 0 m (by first | trivial | omega) (hJ.up (by omega)) (fun g => rfl) 
            · refine X.cut [] i122_32 rfl ?_
              refine X.iconst 33 i122_32 rfl rfl (by decide) ?_
              refine X.retz i122_33 rfl t122 (by omega) ?_
              exact hQ 0 m (by first | trivial | omega) (hJ.up (by omega)) (fun g => rfl) 
  · refine X.aload_n 8 i17_7 rfl rfl rfl ?_
    refine X.dup 9 i17_8 rfl rfl rfl ?_
    refine X.getIr 12 3 i17_9 rfl rfl (by decide) rfl rfl rfl (fun h518 => ?_)
    refine X.iconst 13 i17_12 rfl rfl (by decide) ?_
    refine X.iiF 14 .iadd (fun x y => x + y) i17_13 rfl rfl rfl (fun _ _ => rfl) (fun z519 hz519 => ?_)
    refine X.putI' 17 3 i17_14 rfl rfl (by decide) rfl rfl rfl (fun hrm520 m520 hm520 => ?_)
    have hJ521 := w39_1 hJ hm520 (by omega) hrm520
    have km520 : ∀ g, m520 g 8 9 = m g 8 9 := fun g9 => by rw [hm520]; exact z_upd_o _ _ rfl
    refine X.aload_n 18 i17_17 rfl rfl rfl ?_
    refine X.getZ 21 0 i17_18 rfl rfl (by decide) rfl rfl rfl (fun h522 => ?_)
    refine X.retz i17_21 rfl t17 (by omega) ?_
    show X (EE s) d 122 10 [(0, zr g0 40), (1, zi a1), (2, zi a2)] [zi (m520 0 39 0)] m520 _
    refine X.ifne 32 13 i122_10 rfl rfl rfl (fun h523 => ?_) (fun h523 => ?_)
    · refine X.cut [] i122_32 rfl ?_
      refine X.iconst 33 i122_32 rfl rfl (by decide) ?_
      refine X.retz i122_33 rfl t122 (by omega) ?_
      exact hQ 0 m520 (by first | trivial | omega) (hJ521.up (by omega)) (fun g => by simp only [km520]) 
    · refine X.iload_n 14 i122_13 rfl rfl rfl ?_
      refine X.calls 17 [zi a1] [] [(0, zi a1)] i122_14 (by decide) rfl rfl (by omega) rfl rfl t123 (Nat.le_of_ble_eq_true rfl) (Nat.le_of_ble_eq_true rfl) rfl ?_
      refine X.iload_n 1 i123_0 rfl rfl rfl ?_
      refine X.iflt 13 4 i123_1 rfl rfl rfl (fun h524 => ?_) (fun h524 => ?_)
      · refine X.cut [] i123_13 rfl ?_
        refine X.iconst 14 i123_13 rfl rfl (by decide) ?_
        refine X.retz i123_14 rfl t123 (by omega) ?_
        show X (EE s) d 122 17 [(0, zr g0 40), (1, zi a1), (2, zi a2)] [zi 0] m520 _
        refine X.ifeq 32 20 i122_17 rfl rfl rfl (fun h525 => ?_) (fun h525 => (by exfalso; omega))
        refine X.cut [] i122_32 rfl ?_
        refine X.iconst 33 i122_32 rfl rfl (by decide) ?_
        refine X.retz i122_33 rfl t122 (by omega) ?_
        exact hQ 0 m520 (by first | trivial | omega) (hJ521.up (by omega)) (fun g => by simp only [km520]) 
      · refine X.iload_n 5 i123_4 rfl rfl rfl ?_
        refine X.iconst 6 i123_5 rfl rfl (by decide) ?_
        refine X.icmpge 13 9 i123_6 rfl rfl rfl (fun h526 => ?_) (fun h526 => ?_)
        · refine X.cut [] i123_13 rfl ?_
          refine X.iconst 14 i123_13 rfl rfl (by decide) ?_
          refine X.retz i123_14 rfl t123 (by omega) ?_
          show X (EE s) d 122 17 [(0, zr g0 40), (1, zi a1), (2, zi a2)] [zi 0] m520 _
          refine X.ifeq 32 20 i122_17 rfl rfl rfl (fun h527 => ?_) (fun h527 => (by exfalso; omega))
          refine X.cut [] i122_32 rfl ?_
          refine X.iconst 33 i122_32 rfl rfl (by decide) ?_
          refine X.retz i122_33 rfl t122 (by omega) ?_
          exact hQ 0 m520 (by first | trivial | omega) (hJ521.up (by omega)) (fun g => by simp only [km520]) 
        · refine X.iconst 10 i123_9 rfl rfl (by decide) ?_
          refine X.goto 14 i123_10 rfl rfl ?_
          refine X.cut [] i123_14 rfl ?_
          refine X.retz i123_14 rfl t123 (by omega) ?_
          show X (EE s) d 122 17 [(0, zr g0 40), (1, zi a1), (2, zi a2)] [zi 1] m520 _
          refine X.ifeq 32 20 i122_17 rfl rfl rfl (fun h528 => (by exfalso; omega)) (fun h528 => ?_)
          refine X.iload_n 21 i122_20 rfl rfl rfl ?_
          refine X.iconst 22 i122_21 rfl rfl (by decide) ?_
          refine X.icmplt 32 25 i122_22 rfl rfl rfl (fun h529 => ?_) (fun h529 => ?_)
          · refine X.cut [] i122_32 rfl ?_
            refine X.iconst 33 i122_32 rfl rfl (by decide) ?_
            refine X.retz i122_33 rfl t122 (by omega) ?_
            exact hQ 0 m520 (by first | trivial | omega) (hJ521.up (by omega)) (fun g => by simp only [km520]) 
          · refine X.iload_n 26 i122_25 rfl rfl rfl ?_
            refine X.sipush 29 i122_26 rfl rfl (by decide) ?_
            refine X.icmplt 34 32 i122_29 rfl rfl rfl (fun h530 => ?_) (fun h530 => ?_)
            · refine X.iload_n 35 i122_34 rfl rfl rfl ?_
              refine X.ifne 45 38 i122_35 rfl rfl rfl (fun h531 => ?_) (fun h531 => ?_)
              · refine X.aload_n 46 i122_45 rfl rfl rfl ?_
                refine X.getF 49 i122_46 rfl rfl (by decide) rfl rfl ?_
                refine X.getR 52 i122_49 rfl rfl (by decide) rfl rfl ?_
                refine X.getR 55 i122_52 rfl rfl (by decide) rfl rfl ?_
                refine X.iload_n 56 i122_55 rfl rfl rfl ?_
                refine X.iload_n 57 i122_56 rfl rfl rfl ?_
                refine X.iast' 58 i122_57 rfl rfl (by decide) rfl (by omega) (fun hrm532 m532 hm532 => ?_)
                have hJ533 := w15_0 hJ521 hm532 (by omega) (by omega)
                have km532 : ∀ g, m532 g 8 9 = m520 g 8 9 := fun g9 => by rw [hm532]; exact z_upd_o _ _ rfl
                refine X.iconst 59 i122_58 rfl rfl (by decide) ?_
                refine X.retz i122_59 rfl t122 (by omega) ?_
                exact hQ 1 m532 (by first | trivial | omega) (hJ533.up (by omega)) (fun g => by simp only [km520, km532]) 
              · refine X.iload_n 39 i122_38 rfl rfl rfl ?_
                refine X.iconst 40 i122_39 rfl rfl (by decide) ?_
                refine X.icmpne 45 43 i122_40 rfl rfl rfl (fun h534 => ?_) (fun h534 => ?_)
                · refine X.aload_n 46 i122_45 rfl rfl rfl ?_
                  refine X.getF 49 i122_46 rfl rfl (by decide) rfl rfl ?_
                  refine X.getR 52 i122_49 rfl rfl (by decide) rfl rfl ?_
                  refine X.getR 55 i122_52 rfl rfl (by decide) rfl rfl ?_
                  refine X.iload_n 56 i122_55 rfl rfl rfl ?_
                  refine X.iload_n 57 i122_56 rfl rfl rfl ?_
                  refine X.iast' 58 i122_57 rfl rfl (by decide) rfl (by omega) (fun hrm535 m535 hm535 => ?_)
                  have hJ536 := w15_0 hJ521 hm535 (by omega) (by omega)
                  have km535 : ∀ g, m535 g 8 9 = m520 g 8 9 := fun g9 => by rw [hm535]; exact z_upd_o _ _ rfl
                  refine X.iconst 59 i122_58 rfl rfl (by decide) ?_
                  refine X.retz i122_59 rfl t122 (by omega) ?_
                  exact hQ 1 m535 (by first | trivial | omega) (hJ536.up (by omega)) (fun g => by simp only [km520, km535]) 
                · refine X.iconst 44 i122_43 rfl rfl (by decide) ?_
                  refine X.retz i122_44 rfl t122 (by omega) ?_
                  exact hQ 0 m520 (by first | trivial | omega) (hJ521.up (by omega)) (fun g => by simp only [km520]) 
            · refine X.cut [] i122_32 rfl ?_
              refine X.iconst 33 i122_32 rfl rfl (by decide) ?_
              refine X.retz i122_33 rfl t122 (by omega) ?_
              exact hQ 0 m520 (by first | trivial | omega) (hJ521.up (by omega)) (fun g => by simp only [km520]) 
-- WorkMeterModel.season
theorem c245_1 {s : Nat × (Nat → Int32)} {m0 m : zM} {B : Int} {d : Nat} {Q : Option zV → zM → Prop} (g0 : Nat) (a1 a2 : Int) (hd : 13 ≤ d) (hJ : J m0 B m) (hB : B + 0 ≤ 1000000000) (ha1 : (-2147483648) ≤ a1 ∧ a1 ≤ 2147483647) (ha2 : (-2147483648) ≤ a2 ∧ a2 ≤ 2147483647) (hQ : ∀ (v : Int) m', (0 ≤ v ∧ v ≤ 1) → J m0 (B) m' → (∀ g, m' g 8 9 = m g 8 9) → Q (some (zi v)) m') : X (EE s) d 245 0 [(0, zr g0 44), (1, zi a1), (2, zi a2)] [] m Q := by
  refine X.aload_n 1 i245_0 rfl rfl rfl ?_
  refine X.callv 4 [] [] [(0, zr g0 44)] i245_1 rfl (by decide) rfl rfl (by omega) rfl rfl (by decide) rfl t203 (Nat.le_of_ble_eq_true rfl) (Nat.le_of_ble_eq_true rfl) rfl ?_
  refine X.aload_n 1 i203_0 rfl rfl rfl ?_
  refine X.getF 4 i203_1 rfl rfl (by decide) rfl rfl ?_
  refine X.sipush 7 i203_4 rfl rfl (by decide) ?_
  refine X.dup2 8 i203_7 rfl rfl ?_
  refine X.lald 9 i203_8 rfl rfl (by decide) rfl (by omega) ?_
  refine X.aload_n 10 i203_9 rfl rfl rfl ?_
  refine X.getF 13 i203_10 rfl rfl (by decide) rfl rfl ?_
  refine X.sipush 16 i203_13 rfl rfl (by decide) ?_
  refine X.lald 17 i203_16 rfl rfl (by decide) rfl (by omega) ?_
  have h501 := r45_1614 hJ 4
  refine X.llF 18 .ladd (fun x y => x + y) i203_17 rfl rfl rfl (fun _ _ => rfl) (fun z502 hz502 => ?_)
  refine X.last' 19 i203_18 rfl rfl (by decide) rfl (by omega) (fun hrm503 m503 hm503 => ?_)
  have hJ504 := w45_1615 hJ hm503 (by omega) hrm503
  have km503 : ∀ g, m503 g 8 9 = m g 8 9 := fun g9 => by rw [hm503]; exact z_upd_o _ _ rfl
  refine X.aload_n 20 i203_19 rfl rfl rfl ?_
  refine X.getF 23 i203_20 rfl rfl (by decide) rfl rfl ?_
  refine X.sipush 26 i203_23 rfl rfl (by decide) ?_
  refine X.lald 27 i203_26 rfl rfl (by decide) rfl (by omega) ?_
  have h505 := r45_1614 hJ504 4
  refine X.lconst (y := 1) 28 i203_27 rfl rfl rfl ?_
  refine X.lcmp 29 i203_28 rfl rfl (fun z506 hz506 => ?_)
  refine X.ifne 36 32 i203_29 rfl rfl rfl (fun h507 => ?_) (fun h507 => ?_)
  · have h507c : (m503 4 45 1614) ≠ 1 := by omega
    clear h507 hz506
    refine X.cut [] i203_36 rfl ?_
    refine X.iconst 37 i203_36 rfl rfl (by decide) ?_
    refine X.retz i203_37 rfl t203 (by omega) ?_
    show X (EE s) d 245 4 [(0, zr g0 44), (1, zi a1), (2, zi a2)] [zi 0] m503 _
    refine X.ifne 36 7 i245_4 rfl rfl rfl (fun h508 => (by exfalso; omega)) (fun h508 => ?_)
    refine X.iload_n 8 i245_7 rfl rfl rfl ?_
    refine X.calls 11 [zi a1] [] [(0, zi a1)] i245_8 (by decide) rfl rfl (by omega) rfl rfl t246 (Nat.le_of_ble_eq_true rfl) (Nat.le_of_ble_eq_true rfl) rfl ?_
    refine X.iload_n 1 i246_0 rfl rfl rfl ?_
    refine X.i2l 2 i246_1 rfl rfl ?_
    refine X.lconst (y := 0) 3 i246_2 rfl rfl rfl ?_
    refine X.ldc2 6 i246_3 rfl rfl (by decide) ?_
    refine X.calls 9 [zl a1, zl 0, zl 3] [] [(0, zl a1), (2, zl 0), (4, zl 3)] i246_6 (by decide) rfl rfl (by omega) rfl rfl t204 (Nat.le_of_ble_eq_true rfl) (Nat.le_of_ble_eq_true rfl) rfl ?_
    refine X.lload_n 1 i204_0 rfl rfl rfl ?_
    refine X.lload_n 2 i204_1 rfl rfl rfl ?_
    refine X.lcmp 3 i204_2 rfl rfl (fun z509 hz509 => ?_)
    refine X.iflt 17 6 i204_3 rfl rfl rfl (fun h510 => ?_) (fun h510 => ?_)
    · have h510c : a1 < 0 := by omega
      clear h510 hz509
      refine X.cut [] i204_17 rfl ?_
      refine X.iconst 18 i204_17 rfl rfl (by decide) ?_
      refine X.retz i204_18 rfl t204 (by omega) ?_
      show X (EE s) (d - 1) 246 9 [(0, zi a1)] [zi 0] m503 _
      refine X.retz i246_9 rfl t246 (by omega) ?_
      show X (EE s) d 245 11 [(0, zr g0 44), (1, zi a1), (2, zi a2)] [zi 0] m503 _
      refine X.ifeq 36 14 i245_11 rfl rfl rfl (fun h511 => ?_) (fun h511 => (by exfalso; omega))
      refine X.cut [] i245_36 rfl ?_
      refine X.iconst 37 i245_36 rfl rfl (by decide) ?_
      refine X.retz i245_37 rfl t245 (by omega) ?_
      exact hQ 0 m503 (by first | trivial | omega) (hJ504.up (by omega)) (fun g => by simp only [km503]) 
    · have h510c : a1 ≥ 0 := by omega
      clear h510 hz509
      refine X.lload_n 7 i204_6 rfl rfl rfl ?_
      refine X.lload 9 i204_7 rfl rfl rfl ?_
      refine X.lcmp 10 i204_9 rfl rfl (fun z512 hz512 => ?_)
      refine X.ifgt 17 13 i204_10 rfl rfl rfl (fun h513 => ?_) (fun h513 => ?_)
      · have h513c : a1 > 3 := by omega
        clear h513 hz512
        refine X.cut [] i204_17 rfl ?_
        refine X.iconst 18 i204_17 rfl rfl (by decide) ?_
        refine X.retz i204_18 rfl t204 (by omega) ?_
        show X (EE s) (d - 1) 246 9 [(0, zi a1)] [zi 0] m503 _
        refine X.retz i246_9 rfl t246 (by omega) ?_
        show X (EE s) d 245 11 [(0, zr g0 44), (1, zi a1), (2, zi a2)] [zi 0] m503 _
        refine X.ifeq 36 14 i245_11 rfl rfl rfl (fun h514 => ?_) (fun h514 => (by exfalso; omega))
        refine X.cut [] i245_36 rfl ?_
        refine X.iconst 37 i245_36 rfl rfl (by decide) ?_
        refine X.retz i245_37 rfl t245 (by omega) ?_
        exact hQ 0 m503 (by first | trivial | omega) (hJ504.up (by omega)) (fun g => by simp only [km503]) 
      · have h513c : a1 ≤ 3 := by omega
        clear h513 hz512
        refine X.iconst 14 i204_13 rfl rfl (by decide) ?_
        refine X.goto 18 i204_14 rfl rfl ?_
        refine X.cut [] i204_18 rfl ?_
        refine X.retz i204_18 rfl t204 (by omega) ?_
        show X (EE s) (d - 1) 246 9 [(0, zi a1)] [zi 1] m503 _
        refine X.retz i246_9 rfl t246 (by omega) ?_
        show X (EE s) d 245 11 [(0, zr g0 44), (1, zi a1), (2, zi a2)] [zi 1] m503 _
        refine X.ifeq 36 14 i245_11 rfl rfl rfl (fun h515 => (by exfalso; omega)) (fun h515 => ?_)
        refine X.iload_n 15 i245_14 rfl rfl rfl ?_
        refine X.i2l 16 i245_15 rfl rfl ?_
        refine X.iload_n 17 i245_16 rfl rfl rfl ?_
        refine X.ifne 24 20 i245_17 rfl rfl rfl (fun h516 => ?_) (fun h516 => ?_)
        · refine X.ldc2 27 i245_24 rfl rfl (by decide) ?_
          refine X.ldc2 30 i245_27 rfl rfl (by decide) ?_
          refine X.calls 33 [zl a2, zl (-1), zl 364] [] [(0, zl a2), (2, zl (-1)), (4, zl 364)] i245_30 (by decide) rfl rfl (by omega) rfl rfl t204 (Nat.le_of_ble_eq_true rfl) (Nat.le_of_ble_eq_true rfl) rfl ?_
          refine X.lload_n 1 i204_0 rfl rfl rfl ?_
          refine X.lload_n 2 i204_1 rfl rfl rfl ?_
          refine X.lcmp 3 i204_2 rfl rfl (fun z517 hz517 => ?_)
          refine X.iflt 17 6 i204_3 rfl rfl rfl (fun h518 => ?_) (fun h518 => ?_)
          · have h518c : a2 < (-1) := by omega
            clear h518 hz517
            refine X.cut [] i204_17 rfl ?_
            refine X.iconst 18 i204_17 rfl rfl (by decide) ?_
            refine X.retz i204_18 rfl t204 (by omega) ?_
            show X (EE s) d 245 33 [(0, zr g0 44), (1, zi a1), (2, zi a2)] [zi 0] m503 _
            refine X.ifne 38 36 i245_33 rfl rfl rfl (fun h519 => (by exfalso; omega)) (fun h519 => ?_)
            refine X.cut [] i245_36 rfl ?_
            refine X.iconst 37 i245_36 rfl rfl (by decide) ?_
            refine X.retz i245_37 rfl t245 (by omega) ?_
            exact hQ 0 m503 (by first | trivial | omega) (hJ504.up (by omega)) (fun g => by simp only [km503]) 
          · have h518c : a2 ≥ (-1) := by omega
            clear h518 hz517
            refine X.lload_n 7 i204_6 rfl rfl rfl ?_
            refine X.lload 9 i204_7 rfl rfl rfl ?_
            refine X.lcmp 10 i204_9 rfl rfl (fun z520 hz520 => ?_)
            refine X.ifgt 17 13 i204_10 rfl rfl rfl (fun h521 => ?_) (fun h521 => ?_)
            · have h521c : a2 > 364 := by omega
              clear h521 hz520
              refine X.cut [] i204_17 rfl ?_
              refine X.iconst 18 i204_17 rfl rfl (by decide) ?_
              refine X.retz i204_18 rfl t204 (by omega) ?_
              show X (EE s) d 245 33 [(0, zr g0 44), (1, zi a1), (2, zi a2)] [zi 0] m503 _
              refine X.ifne 38 36 i245_33 rfl rfl rfl (fun h522 => (by exfalso; omega)) (fun h522 => ?_)
              refine X.cut [] i245_36 rfl ?_
              refine X.iconst 37 i245_36 rfl rfl (by decide) ?_
              refine X.retz i245_37 rfl t245 (by omega) ?_
              exact hQ 0 m503 (by first | trivial | omega) (hJ504.up (by omega)) (fun g => by simp only [km503]) 
            · have h521c : a2 ≤ 364 := by omega
              clear h521 hz520
              refine X.iconst 14 i204_13 rfl rfl (by decide) ?_
              refine X.goto 18 i204_14 rfl rfl ?_
              refine X.cut [] i204_18 rfl ?_
              refine X.retz i204_18 rfl t204 (by omega) ?_
              show X (EE s) d 245 33 [(0, zr g0 44), (1, zi a1), (2, zi a2)] [zi 1] m503 _
              refine X.ifne 38 36 i245_33 rfl rfl rfl (fun h523 => ?_) (fun h523 => (by exfalso; omega))
              refine X.aload_n 39 i245_38 rfl rfl rfl ?_
              refine X.getF 42 i245_39 rfl rfl (by decide) rfl rfl ?_
              refine X.sipush 45 i245_42 rfl rfl (by decide) ?_
              refine X.iload_n 46 i245_45 rfl rfl rfl ?_
              refine X.iadd 47 i245_46 rfl rfl (by omega) ?_
              refine X.iload_n 48 i245_47 rfl rfl rfl ?_
              refine X.i2l 49 i245_48 rfl rfl ?_
              refine X.last' 50 i245_49 rfl rfl (by decide) rfl (by omega) (fun hrm524 m524 hm524 => ?_)
              have hJ525 := w45_391 hJ504 hm524 (by omega) (by omega)
              have km524 : ∀ g, m524 g 8 9 = m503 g 8 9 := fun g9 => by rw [hm524]; exact z_upd_o _ _ rfl
              refine X.iconst 51 i245_50 rfl rfl (by decide) ?_
              refine X.retz i245_51 rfl t245 (by omega) ?_
              exact hQ 1 m524 (by first | trivial | omega) (hJ525.up (by omega)) (fun g => by simp only [km503, km524]) 
        · refine X.lconst (y := 0) 21 i245_20 rfl rfl rfl ?_
          refine X.goto 27 i245_21 rfl rfl ?_
          refine X.ldc2 30 i245_27 rfl rfl (by decide) ?_
          refine X.calls 33 [zl a2, zl 0, zl 364] [] [(0, zl a2), (2, zl 0), (4, zl 364)] i245_30 (by decide) rfl rfl (by omega) rfl rfl t204 (Nat.le_of_ble_eq_true rfl) (Nat.le_of_ble_eq_true rfl) rfl ?_
          refine X.lload_n 1 i204_0 rfl rfl rfl ?_
          refine X.lload_n 2 i204_1 rfl rfl rfl ?_
          refine X.lcmp 3 i204_2 rfl rfl (fun z526 hz526 => ?_)
          refine X.iflt 17 6 i204_3 rfl rfl rfl (fun h527 => ?_) (fun h527 => ?_)
          · have h527c : a2 < 0 := by omega
            clear h527 hz526
            refine X.cut [] i204_17 rfl ?_
            refine X.iconst 18 i204_17 rfl rfl (by decide) ?_
            refine X.retz i204_18 rfl t204 (by omega) ?_
            show X (EE s) d 245 33 [(0, zr g0 44), (1, zi a1), (2, zi a2)] [zi 0] m503 _
            refine X.ifne 38 36 i245_33 rfl rfl rfl (fun h528 => (by exfalso; omega)) (fun h528 => ?_)
            refine X.cut [] i245_36 rfl ?_
            refine X.iconst 37 i245_36 rfl rfl (by decide) ?_
            refine X.retz i245_37 rfl t245 (by omega) ?_
            exact hQ 0 m503 (by first | trivial | omega) (hJ504.up (by omega)) (fun g => by simp only [km503]) 
          · have h527c : a2 ≥ 0 := by omega
            clear h527 hz526
            refine X.lload_n 7 i204_6 rfl rfl rfl ?_
            refine X.lload 9 i204_7 rfl rfl rfl ?_
            refine X.lcmp 10 i204_9 rfl rfl (fun z529 hz529 => ?_)
            refine X.ifgt 17 13 i204_10 rfl rfl rfl (fun h530 => ?_) (fun h530 => ?_)
            · have h530c : a2 > 364 := by omega
              clear h530 hz529
              refine X.cut [] i204_17 rfl ?_
              refine X.iconst 18 i204_17 rfl rfl (by decide) ?_
              refine X.retz i204_18 rfl t204 (by omega) ?_
              show X (EE s) d 245 33 [(0, zr g0 44), (1, zi a1), (2, zi a2)] [zi 0] m503 _
              refine X.ifne 38 36 i245_33 rfl rfl rfl (fun h531 => (by exfalso; omega)) (fun h531 => ?_)
              refine X.cut [] i245_36 rfl ?_
              refine X.iconst 37 i245_36 rfl rfl (by decide) ?_
              refine X.retz i245_37 rfl t245 (by omega) ?_
              exact hQ 0 m503 (by first | trivial | omega) (hJ504.up (by omega)) (fun g => by simp only [km503]) 
            · have h530c : a2 ≤ 364 := by omega
              clear h530 hz529
              refine X.iconst 14 i204_13 rfl rfl (by decide) ?_
              refine X.goto 18 i204_14 rfl rfl ?_
              refine X.cut [] i204_18 rfl ?_
              refine X.retz i204_18 rfl t204 (by omega) ?_
              show X (EE s) d 245 33 [(0, zr g0 44), (1, zi a1), (2, zi a2)] [zi 1] m503 _
              refine X.ifne 38 36 i245_33 rfl rfl rfl (fun h532 => ?_) (fun h532 => (by exfalso; omega))
              refine X.aload_n 39 i245_38 rfl rfl rfl ?_
              refine X.getF 42 i245_39 rfl rfl (by decide) rfl rfl ?_
              refine X.sipush 45 i245_42 rfl rfl (by decide) ?_
              refine X.iload_n 46 i245_45 rfl rfl rfl ?_
              refine X.iadd 47 i245_46 rfl rfl (by omega) ?_
              refine X.iload_n 48 i245_47 rfl rfl rfl ?_
              refine X.i2l 49 i245_48 rfl rfl ?_
              refine X.last' 50 i245_49 rfl rfl (by decide) rfl (by omega) (fun hrm533 m533 hm533 => ?_)
              have hJ534 := w45_391 hJ504 hm533 (by omega) (by omega)
              have km533 : ∀ g, m533 g 8 9 = m503 g 8 9 := fun g9 => by rw [hm533]; exact z_upd_o _ _ rfl
              refine X.iconst 51 i245_50 rfl rfl (by decide) ?_
              refine X.retz i245_51 rfl t245 (by omega) ?_
              exact hQ 1 m533 (by first | trivial | omega) (hJ534.up (by omega)) (fun g => by simp only [km503, km533]) 
  · have h507c : (m503 4 45 1614) = 1 := by omega
    clear h507 hz506
    refine X.iconst 33 i203_32 rfl rfl (by decide) ?_
    refine X.goto 37 i203_33 rfl rfl ?_
    refine X.cut [] i203_37 rfl ?_
    refine X.retz i203_37 rfl t203 (by omega) ?_
    show X (EE s) d 245 4 [(0, zr g0 44), (1, zi a1), (2, zi a2)] [zi 1] m503 _
    refine X.ifne 36 7 i245_4 rfl rfl rfl (fun h535 => ?_) (fun h535 => (by exfalso; omega))
    refine X.cut [] i245_36 rfl ?_
    refine X.iconst 37 i245_36 rfl rfl (by decide) ?_
    refine X.retz i245_37 rfl t245 (by omega) ?_
    exact hQ 0 m503 (by first | trivial | omega) (hJ504.up (by omega)) (fun g => by simp only [km503]) 
-- WorkMeter.week
theorem c124_1 {s : Nat × (Nat → Int32)} {m0 m : zM} {B : Int} {d : Nat} {Q : Option zV → zM → Prop} (g0 : Nat) (a1 a2 a3 : Int) (hd : 13 ≤ d) (hJ : J m0 B m) (hB : B + 0 ≤ 1000000000) (ha1 : (-2147483648) ≤ a1 ∧ a1 ≤ 2147483647) (ha2 : (-2147483648) ≤ a2 ∧ a2 ≤ 2147483647) (ha3 : (-2147483648) ≤ a3 ∧ a3 ≤ 2147483647) (hQ : ∀ (v : Int) m', (0 ≤ v ∧ v ≤ 1) → J m0 (B) m' → (∀ g, m' g 8 9 = m g 8 9) → Q (some (zi v)) m') : X (EE s) d 124 0 [(0, zr g0 40), (1, zi a1), (2, zi a2), (3, zi a3)] [] m Q := by
  refine X.aload_n 1 i124_0 rfl rfl rfl ?_
  refine X.getF 4 i124_1 rfl rfl (by decide) rfl rfl ?_
  refine X.getR 7 i124_4 rfl rfl (by decide) rfl rfl ?_
  refine X.callv 10 [] [] [(0, zr 0 39)] i124_7 rfl (by decide) rfl rfl (by omega) rfl rfl (by decide) rfl t17 (Nat.le_of_ble_eq_true rfl) (Nat.le_of_ble_eq_true rfl) rfl ?_
  refine X.aload_n 1 i17_0 rfl rfl rfl ?_
  refine X.getZ 4 0 i17_1 rfl rfl (by decide) rfl rfl rfl (fun h501 => ?_)
  refine X.ifeq 17 7 i17_4 rfl rfl rfl (fun h502 => ?_) (fun h502 => ?_)
  · refine X.aload_n 18 i17_17 rfl rfl rfl ?_
    refine X.getZ 21 0 i17_18 rfl rfl (by decide) rfl rfl rfl (fun h503 => ?_)
    refine X.retz i17_21 rfl t17 (by omega) ?_
    show X (EE s) d 124 10 [(0, zr g0 40), (1, zi a1), (2, zi a2), (3, zi a3)] [zi (m 0 39 0)] m _
    refine X.ifne 27 13 i124_10 rfl rfl rfl (fun h504 => ?_) (fun h504 => ?_)
    · refine X.cut [] i124_27 rfl ?_
      refine X.iconst 28 i124_27 rfl rfl (by decide) ?_
      refine X.retz i124_28 rfl t124 (by omega) ?_
      exact hQ 0 m (by first | trivial | omega) (hJ.up (by omega)) (fun g => rfl) 
    · refine X.iload_n 14 i124_13 rfl rfl rfl ?_
      refine X.calls 17 [zi a1] [] [(0, zi a1)] i124_14 (by decide) rfl rfl (by omega) rfl rfl t123 (Nat.le_of_ble_eq_true rfl) (Nat.le_of_ble_eq_true rfl) rfl ?_
      refine X.iload_n 1 i123_0 rfl rfl rfl ?_
      refine X.iflt 13 4 i123_1 rfl rfl rfl (fun h505 => ?_) (fun h505 => ?_)
      · refine X.cut [] i123_13 rfl ?_
        refine X.iconst 14 i123_13 rfl rfl (by decide) ?_
        refine X.retz i123_14 rfl t123 (by omega) ?_
        show X (EE s) d 124 17 [(0, zr g0 40), (1, zi a1), (2, zi a2), (3, zi a3)] [zi 0] m _
        refine X.ifeq 27 20 i124_17 rfl rfl rfl (fun h506 => ?_) (fun h506 => (by exfalso; omega))
        refine X.cut [] i124_27 rfl ?_
        refine X.iconst 28 i124_27 rfl rfl (by decide) ?_
        refine X.retz i124_28 rfl t124 (by omega) ?_
        exact hQ 0 m (by first | trivial | omega) (hJ.up (by omega)) (fun g => rfl) 
      · refine X.iload_n 5 i123_4 rfl rfl rfl ?_
        refine X.iconst 6 i123_5 rfl rfl (by decide) ?_
        refine X.icmpge 13 9 i123_6 rfl rfl rfl (fun h507 => ?_) (fun h507 => ?_)
        · refine X.cut [] i123_13 rfl ?_
          refine X.iconst 14 i123_13 rfl rfl (by decide) ?_
          refine X.retz i123_14 rfl t123 (by omega) ?_
          show X (EE s) d 124 17 [(0, zr g0 40), (1, zi a1), (2, zi a2), (3, zi a3)] [zi 0] m _
          refine X.ifeq 27 20 i124_17 rfl rfl rfl (fun h508 => ?_) (fun h508 => (by exfalso; omega))
          refine X.cut [] i124_27 rfl ?_
          refine X.iconst 28 i124_27 rfl rfl (by decide) ?_
          refine X.retz i124_28 rfl t124 (by omega) ?_
          exact hQ 0 m (by first | trivial | omega) (hJ.up (by omega)) (fun g => rfl) 
        · refine X.iconst 10 i123_9 rfl rfl (by decide) ?_
          refine X.goto 14 i123_10 rfl rfl ?_
          refine X.cut [] i123_14 rfl ?_
          refine X.retz i123_14 rfl t123 (by omega) ?_
          show X (EE s) d 124 17 [(0, zr g0 40), (1, zi a1), (2, zi a2), (3, zi a3)] [zi 1] m _
          refine X.ifeq 27 20 i124_17 rfl rfl rfl (fun h509 => (by exfalso; omega)) (fun h509 => ?_)
          refine X.iload_n 21 i124_20 rfl rfl rfl ?_
          refine X.calls 24 [zi a3] [] [(0, zi a3)] i124_21 (by decide) rfl rfl (by omega) rfl rfl t79 (Nat.le_of_ble_eq_true rfl) (Nat.le_of_ble_eq_true rfl) rfl ?_
          refine X.iload_n 1 i79_0 rfl rfl rfl ?_
          refine X.iflt 14 4 i79_1 rfl rfl rfl (fun h510 => ?_) (fun h510 => ?_)
          · refine X.cut [] i79_14 rfl ?_
            refine X.iconst 15 i79_14 rfl rfl (by decide) ?_
            refine X.retz i79_15 rfl t79 (by omega) ?_
            show X (EE s) d 124 24 [(0, zr g0 40), (1, zi a1), (2, zi a2), (3, zi a3)] [zi 0] m _
            refine X.ifne 29 27 i124_24 rfl rfl rfl (fun h511 => (by exfalso; omega)) (fun h511 => ?_)
            refine X.cut [] i124_27 rfl ?_
            refine X.iconst 28 i124_27 rfl rfl (by decide) ?_
            refine X.retz i124_28 rfl t124 (by omega) ?_
            exact hQ 0 m (by first | trivial | omega) (hJ.up (by omega)) (fun g => rfl) 
          · refine X.iload_n 5 i79_4 rfl rfl rfl ?_
            refine X.bipush 7 i79_5 rfl rfl (by decide) ?_
            refine X.icmpge 14 10 i79_7 rfl rfl rfl (fun h512 => ?_) (fun h512 => ?_)
            · refine X.cut [] i79_14 rfl ?_
              refine X.iconst 15 i79_14 rfl rfl (by decide) ?_
              refine X.retz i79_15 rfl t79 (by omega) ?_
              show X (EE s) d 124 24 [(0, zr g0 40), (1, zi a1), (2, zi a2), (3, zi a3)] [zi 0] m _
              refine X.ifne 29 27 i124_24 rfl rfl rfl (fun h513 => (by exfalso; omega)) (fun h513 => ?_)
              refine X.cut [] i124_27 rfl ?_
              refine X.iconst 28 i124_27 rfl rfl (by decide) ?_
              refine X.retz i124_28 rfl t124 (by omega) ?_
              exact hQ 0 m (by first | trivial | omega) (hJ.up (by omega)) (fun g => rfl) 
            · refine X.iconst 11 i79_10 rfl rfl (by decide) ?_
              refine X.goto 15 i79_11 rfl rfl ?_
              refine X.cut [] i79_15 rfl ?_
              refine X.retz i79_15 rfl t79 (by omega) ?_
              show X (EE s) d 124 24 [(0, zr g0 40), (1, zi a1), (2, zi a2), (3, zi a3)] [zi 1] m _
              refine X.ifne 29 27 i124_24 rfl rfl rfl (fun h514 => ?_) (fun h514 => (by exfalso; omega))
              refine X.iload_n 30 i124_29 rfl rfl rfl ?_
              refine X.iflt 39 33 i124_30 rfl rfl rfl (fun h515 => ?_) (fun h515 => ?_)
              · refine X.cut [] i124_39 rfl ?_
                refine X.iconst 40 i124_39 rfl rfl (by decide) ?_
                refine X.retz i124_40 rfl t124 (by omega) ?_
                exact hQ 0 m (by first | trivial | omega) (hJ.up (by omega)) (fun g => rfl) 
              · refine X.iload_n 34 i124_33 rfl rfl rfl ?_
                refine X.bipush 36 i124_34 rfl rfl (by decide) ?_
                refine X.icmplt 41 39 i124_36 rfl rfl rfl (fun h516 => ?_) (fun h516 => ?_)
                · refine X.aload_n 42 i124_41 rfl rfl rfl ?_
                  refine X.getF 45 i124_42 rfl rfl (by decide) rfl rfl ?_
                  refine X.getR 48 i124_45 rfl rfl (by decide) rfl rfl ?_
                  refine X.getR 51 i124_48 rfl rfl (by decide) rfl rfl ?_
                  refine X.iload_n 52 i124_51 rfl rfl rfl ?_
                  refine X.bipush 54 i124_52 rfl rfl (by decide) ?_
                  refine X.imul 55 i124_54 rfl rfl (by omega) ?_
                  refine X.iload_n 56 i124_55 rfl rfl rfl ?_
                  refine X.iadd 57 i124_56 rfl rfl (by omega) ?_
                  refine X.iload_n 58 i124_57 rfl rfl rfl ?_
                  refine X.iast' 59 i124_58 rfl rfl (by decide) rfl (by omega) (fun hrm517 m517 hm517 => ?_)
                  have hJ518 := w16_0 hJ hm517 (by omega) (by omega)
                  have km517 : ∀ g, m517 g 8 9 = m g 8 9 := fun g9 => by rw [hm517]; exact z_upd_o _ _ rfl
                  refine X.iconst 60 i124_59 rfl rfl (by decide) ?_
                  refine X.retz i124_60 rfl t124 (by omega) ?_
                  exact hQ 1 m517 (by first | trivial | omega) (hJ518.up (by omega)) (fun g => by simp only [km517]) 
                · refine X.cut [] i124_39 rfl ?_
                  refine X.iconst 40 i124_39 rfl rfl (by decide) ?_
                  refine X.retz i124_40 rfl t124 (by omega) ?_
                  exact hQ 0 m (by first | trivial | omega) (hJ.up (by omega)) (fun g => rfl) 
  · refine X.aload_n 8 i17_7 rfl rfl rfl ?_
    refine X.dup 9 i17_8 rfl rfl rfl ?_
    refine X.getIr 12 3 i17_9 rfl rfl (by decide) rfl rfl rfl (fun h519 => ?_)
    refine X.iconst 13 i17_12 rfl rfl (by decide) ?_
    refine X.iiF 14 .iadd (fun x y => x + y) i17_13 rfl rfl rfl (fun _ _ => rfl) (fun z520 hz520 => ?_)
    refine X.putI' 17 3 i17_14 rfl rfl (by decide) rfl rfl rfl (fun hrm521 m521 hm521 => ?_)
    have hJ522 := w39_1 hJ hm521 (by omega) hrm521
    have km521 : ∀ g, m521 g 8 9 = m g 8 9 := fun g9 => by rw [hm521]; exact z_upd_o _ _ rfl
    refine X.aload_n 18 i17_17 rfl rfl rfl ?_
    refine X.getZ 21 0 i17_18 rfl rfl (by decide) rfl rfl rfl (fun h523 => ?_)
    refine X.retz i17_21 rfl t17 (by omega) ?_
    show X (EE s) d 124 10 [(0, zr g0 40), (1, zi a1), (2, zi a2), (3, zi a3)] [zi (m521 0 39 0)] m521 _
    refine X.ifne 27 13 i124_10 rfl rfl rfl (fun h524 => ?_) (fun h524 => ?_)
    · refine X.cut [] i124_27 rfl ?_
      refine X.iconst 28 i124_27 rfl rfl (by decide) ?_
      refine X.retz i124_28 rfl t124 (by omega) ?_
      exact hQ 0 m521 (by first | trivial | omega) (hJ522.up (by omega)) (fun g => by simp only [km521]) 
    · refine X.iload_n 14 i124_13 rfl rfl rfl ?_
      refine X.calls 17 [zi a1] [] [(0, zi a1)] i124_14 (by decide) rfl rfl (by omega) rfl rfl t123 (Nat.le_of_ble_eq_true rfl) (Nat.le_of_ble_eq_true rfl) rfl ?_
      refine X.iload_n 1 i123_0 rfl rfl rfl ?_
      refine X.iflt 13 4 i123_1 rfl rfl rfl (fun h525 => ?_) (fun h525 => ?_)
      · refine X.cut [] i123_13 rfl ?_
        refine X.iconst 14 i123_13 rfl rfl (by decide) ?_
        refine X.retz i123_14 rfl t123 (by omega) ?_
        show X (EE s) d 124 17 [(0, zr g0 40), (1, zi a1), (2, zi a2), (3, zi a3)] [zi 0] m521 _
        refine X.ifeq 27 20 i124_17 rfl rfl rfl (fun h526 => ?_) (fun h526 => (by exfalso; omega))
        refine X.cut [] i124_27 rfl ?_
        refine X.iconst 28 i124_27 rfl rfl (by decide) ?_
        refine X.retz i124_28 rfl t124 (by omega) ?_
        exact hQ 0 m521 (by first | trivial | omega) (hJ522.up (by omega)) (fun g => by simp only [km521]) 
      · refine X.iload_n 5 i123_4 rfl rfl rfl ?_
        refine X.iconst 6 i123_5 rfl rfl (by decide) ?_
        refine X.icmpge 13 9 i123_6 rfl rfl rfl (fun h527 => ?_) (fun h527 => ?_)
        · refine X.cut [] i123_13 rfl ?_
          refine X.iconst 14 i123_13 rfl rfl (by decide) ?_
          refine X.retz i123_14 rfl t123 (by omega) ?_
          show X (EE s) d 124 17 [(0, zr g0 40), (1, zi a1), (2, zi a2), (3, zi a3)] [zi 0] m521 _
          refine X.ifeq 27 20 i124_17 rfl rfl rfl (fun h528 => ?_) (fun h528 => (by exfalso; omega))
          refine X.cut [] i124_27 rfl ?_
          refine X.iconst 28 i124_27 rfl rfl (by decide) ?_
          refine X.retz i124_28 rfl t124 (by omega) ?_
          exact hQ 0 m521 (by first | trivial | omega) (hJ522.up (by omega)) (fun g => by simp only [km521]) 
        · refine X.iconst 10 i123_9 rfl rfl (by decide) ?_
          refine X.goto 14 i123_10 rfl rfl ?_
          refine X.cut [] i123_14 rfl ?_
          refine X.retz i123_14 rfl t123 (by omega) ?_
          show X (EE s) d 124 17 [(0, zr g0 40), (1, zi a1), (2, zi a2), (3, zi a3)] [zi 1] m521 _
          refine X.ifeq 27 20 i124_17 rfl rfl rfl (fun h529 => (by exfalso; omega)) (fun h529 => ?_)
          refine X.iload_n 21 i124_20 rfl rfl rfl ?_
          refine X.calls 24 [zi a3] [] [(0, zi a3)] i124_21 (by decide) rfl rfl (by omega) rfl rfl t79 (Nat.le_of_ble_eq_true rfl) (Nat.le_of_ble_eq_true rfl) rfl ?_
          refine X.iload_n 1 i79_0 rfl rfl rfl ?_
          refine X.iflt 14 4 i79_1 rfl rfl rfl (fun h530 => ?_) (fun h530 => ?_)
          · refine X.cut [] i79_14 rfl ?_
            refine X.iconst 15 i79_14 rfl rfl (by decide) ?_
            refine X.retz i79_15 rfl t79 (by omega) ?_
            show X (EE s) d 124 24 [(0, zr g0 40), (1, zi a1), (2, zi a2), (3, zi a3)] [zi 0] m521 _
            refine X.ifne 29 27 i124_24 rfl rfl rfl (fun h531 => (by exfalso; omega)) (fun h531 => ?_)
            refine X.cut [] i124_27 rfl ?_
            refine X.iconst 28 i124_27 rfl rfl (by decide) ?_
            refine X.retz i124_28 rfl t124 (by omega) ?_
            exact hQ 0 m521 (by first | trivial | omega) (hJ522.up (by omega)) (fun g => by simp only [km521]) 
          · refine X.iload_n 5 i79_4 rfl rfl rfl ?_
            refine X.bipush 7 i79_5 rfl rfl (by decide) ?_
            refine X.icmpge 14 10 i79_7 rfl rfl rfl (fun h532 => ?_) (fun h532 => ?_)
            · refine X.cut [] i79_14 rfl ?_
              refine X.iconst 15 i79_14 rfl rfl (by decide) ?_
              refine X.retz i79_15 rfl t79 (by omega) ?_
              show X (EE s) d 124 24 [(0, zr g0 40), (1, zi a1), (2, zi a2), (3, zi a3)] [zi 0] m521 _
              refine X.ifne 29 27 i124_24 rfl rfl rfl (fun h533 => (by exfalso; omega)) (fun h533 => ?_)
              refine X.cut [] i124_27 rfl ?_
              refine X.iconst 28 i124_27 rfl rfl (by decide) ?_
              refine X.retz i124_28 rfl t124 (by omega) ?_
              exact hQ 0 m521 (by first | trivial | omega) (hJ522.up (by omega)) (fun g => by simp only [km521]) 
            · refine X.iconst 11 i79_10 rfl rfl (by decide) ?_
              refine X.goto 15 i79_11 rfl rfl ?_
              refine X.cut [] i79_15 rfl ?_
              refine X.retz i79_15 rfl t79 (by omega) ?_
              show X (EE s) d 124 24 [(0, zr g0 40), (1, zi a1), (2, zi a2), (3, zi a3)] [zi 1] m521 _
              refine X.ifne 29 27 i124_24 rfl rfl rfl (fun h534 => ?_) (fun h534 => (by exfalso; omega))
              refine X.iload_n 30 i124_29 rfl rfl rfl ?_
              refine X.iflt 39 33 i124_30 rfl rfl rfl (fun h535 => ?_) (fun h535 => ?_)
              · refine X.cut [] i124_39 rfl ?_
                refine X.iconst 40 i124_39 rfl rfl (by decide) ?_
                refine X.retz i124_40 rfl t124 (by omega) ?_
                exact hQ 0 m521 (by first | trivial | omega) (hJ522.up (by omega)) (fun g => by simp only [km521]) 
              · refine X.iload_n 34 i124_33 rfl rfl rfl ?_
                refine X.bipush 36 i124_34 rfl rfl (by decide) ?_
                refine X.icmplt 41 39 i124_36 rfl rfl rfl (fun h536 => ?_) (fun h536 => ?_)
                · refine X.aload_n 42 i124_41 rfl rfl rfl ?_
                  refine X.getF 45 i124_42 rfl rfl (by decide) rfl rfl ?_
                  refine X.getR 48 i124_45 rfl rfl (by decide) rfl rfl ?_
                  refine X.getR 51 i124_48 rfl rfl (by decide) rfl rfl ?_
                  refine X.iload_n 52 i124_51 rfl rfl rfl ?_
                  refine X.bipush 54 i124_52 rfl rfl (by decide) ?_
                  refine X.imul 55 i124_54 rfl rfl (by omega) ?_
                  refine X.iload_n 56 i124_55 rfl rfl rfl ?_
                  refine X.iadd 57 i124_56 rfl rfl (by omega) ?_
                  refine X.iload_n 58 i124_57 rfl rfl rfl ?_
                  refine X.iast' 59 i124_58 rfl rfl (by decide) rfl (by omega) (fun hrm537 m537 hm537 => ?_)
                  have hJ538 := w16_0 hJ522 hm537 (by omega) (by omega)
                  have km537 : ∀ g, m537 g 8 9 = m521 g 8 9 := fun g9 => by rw [hm537]; exact z_upd_o _ _ rfl
                  refine X.iconst 60 i124_59 rfl rfl (by decide) ?_
                  refine X.retz i124_60 rfl t124 (by omega) ?_
                  exact hQ 1 m537 (by first | trivial | omega) (hJ538.up (by omega)) (fun g => by simp only [km521, km537]) 
                · refine X.cut [] i124_39 rfl ?_
                  refine X.iconst 40 i124_39 rfl rfl (by decide) ?_
                  refine X.retz i124_40 rfl t124 (by omega) ?_
                  exact hQ 0 m521 (by first | trivial | omega) (hJ522.up (by omega)) (fun g => by simp only [km521]) 
-- WorkMeterModel.week
theorem c247_1 {s : Nat × (Nat → Int32)} {m0 m : zM} {B : Int} {d : Nat} {Q : Option zV → zM → Prop} (g0 : Nat) (a1 a2 a3 : Int) (hd : 13 ≤ d) (hJ : J m0 B m) (hB : B + 0 ≤ 1000000000) (ha1 : (-2147483648) ≤ a1 ∧ a1 ≤ 2147483647) (ha2 : (-2147483648) ≤ a2 ∧ a2 ≤ 2147483647) (ha3 : (-2147483648) ≤ a3 ∧ a3 ≤ 2147483647) (hQ : ∀ (v : Int) m', (0 ≤ v ∧ v ≤ 1) → J m0 (B) m' → (∀ g, m' g 8 9 = m g 8 9) → Q (some (zi v)) m') : X (EE s) d 247 0 [(0, zr g0 44), (1, zi a1), (2, zi a2), (3, zi a3)] [] m Q := by
  refine X.aload_n 1 i247_0 rfl rfl rfl ?_
  refine X.callv 4 [] [] [(0, zr g0 44)] i247_1 rfl (by decide) rfl rfl (by omega) rfl rfl (by decide) rfl t203 (Nat.le_of_ble_eq_true rfl) (Nat.le_of_ble_eq_true rfl) rfl ?_
  refine X.aload_n 1 i203_0 rfl rfl rfl ?_
  refine X.getF 4 i203_1 rfl rfl (by decide) rfl rfl ?_
  refine X.sipush 7 i203_4 rfl rfl (by decide) ?_
  refine X.dup2 8 i203_7 rfl rfl ?_
  refine X.lald 9 i203_8 rfl rfl (by decide) rfl (by omega) ?_
  refine X.aload_n 10 i203_9 rfl rfl rfl ?_
  refine X.getF 13 i203_10 rfl rfl (by decide) rfl rfl ?_
  refine X.sipush 16 i203_13 rfl rfl (by decide) ?_
  refine X.lald 17 i203_16 rfl rfl (by decide) rfl (by omega) ?_
  have h501 := r45_1614 hJ 4
  refine X.llF 18 .ladd (fun x y => x + y) i203_17 rfl rfl rfl (fun _ _ => rfl) (fun z502 hz502 => ?_)
  refine X.last' 19 i203_18 rfl rfl (by decide) rfl (by omega) (fun hrm503 m503 hm503 => ?_)
  have hJ504 := w45_1615 hJ hm503 (by omega) hrm503
  have km503 : ∀ g, m503 g 8 9 = m g 8 9 := fun g9 => by rw [hm503]; exact z_upd_o _ _ rfl
  refine X.aload_n 20 i203_19 rfl rfl rfl ?_
  refine X.getF 23 i203_20 rfl rfl (by decide) rfl rfl ?_
  refine X.sipush 26 i203_23 rfl rfl (by decide) ?_
  refine X.lald 27 i203_26 rfl rfl (by decide) rfl (by omega) ?_
  have h505 := r45_1614 hJ504 4
  refine X.lconst (y := 1) 28 i203_27 rfl rfl rfl ?_
  refine X.lcmp 29 i203_28 rfl rfl (fun z506 hz506 => ?_)
  refine X.ifne 36 32 i203_29 rfl rfl rfl (fun h507 => ?_) (fun h507 => ?_)
  · have h507c : (m503 4 45 1614) ≠ 1 := by omega
    clear h507 hz506
    refine X.cut [] i203_36 rfl ?_
    refine X.iconst 37 i203_36 rfl rfl (by decide) ?_
    refine X.retz i203_37 rfl t203 (by omega) ?_
    show X (EE s) d 247 4 [(0, zr g0 44), (1, zi a1), (2, zi a2), (3, zi a3)] [zi 0] m503 _
    refine X.ifne 33 7 i247_4 rfl rfl rfl (fun h508 => (by exfalso; omega)) (fun h508 => ?_)
    refine X.iload_n 8 i247_7 rfl rfl rfl ?_
    refine X.calls 11 [zi a1] [] [(0, zi a1)] i247_8 (by decide) rfl rfl (by omega) rfl rfl t246 (Nat.le_of_ble_eq_true rfl) (Nat.le_of_ble_eq_true rfl) rfl ?_
    refine X.iload_n 1 i246_0 rfl rfl rfl ?_
    refine X.i2l 2 i246_1 rfl rfl ?_
    refine X.lconst (y := 0) 3 i246_2 rfl rfl rfl ?_
    refine X.ldc2 6 i246_3 rfl rfl (by decide) ?_
    refine X.calls 9 [zl a1, zl 0, zl 3] [] [(0, zl a1), (2, zl 0), (4, zl 3)] i246_6 (by decide) rfl rfl (by omega) rfl rfl t204 (Nat.le_of_ble_eq_true rfl) (Nat.le_of_ble_eq_true rfl) rfl ?_
    refine X.lload_n 1 i204_0 rfl rfl rfl ?_
    refine X.lload_n 2 i204_1 rfl rfl rfl ?_
    refine X.lcmp 3 i204_2 rfl rfl (fun z509 hz509 => ?_)
    refine X.iflt 17 6 i204_3 rfl rfl rfl (fun h510 => ?_) (fun h510 => ?_)
    · have h510c : a1 < 0 := by omega
      clear h510 hz509
      refine X.cut [] i204_17 rfl ?_
      refine X.iconst 18 i204_17 rfl rfl (by decide) ?_
      refine X.retz i204_18 rfl t204 (by omega) ?_
      show X (EE s) (d - 1) 246 9 [(0, zi a1)] [zi 0] m503 _
      refine X.retz i246_9 rfl t246 (by omega) ?_
      show X (EE s) d 247 11 [(0, zr g0 44), (1, zi a1), (2, zi a2), (3, zi a3)] [zi 0] m503 _
      refine X.ifeq 33 14 i247_11 rfl rfl rfl (fun h511 => ?_) (fun h511 => (by exfalso; omega))
      refine X.cut [] i247_33 rfl ?_
      refine X.iconst 34 i247_33 rfl rfl (by decide) ?_
      refine X.retz i247_34 rfl t247 (by omega) ?_
      exact hQ 0 m503 (by first | trivial | omega) (hJ504.up (by omega)) (fun g => by simp only [km503]) 
    · have h510c : a1 ≥ 0 := by omega
      clear h510 hz509
      refine X.lload_n 7 i204_6 rfl rfl rfl ?_
      refine X.lload 9 i204_7 rfl rfl rfl ?_
      refine X.lcmp 10 i204_9 rfl rfl (fun z512 hz512 => ?_)
      refine X.ifgt 17 13 i204_10 rfl rfl rfl (fun h513 => ?_) (fun h513 => ?_)
      · have h513c : a1 > 3 := by omega
        clear h513 hz512
        refine X.cut [] i204_17 rfl ?_
        refine X.iconst 18 i204_17 rfl rfl (by decide) ?_
        refine X.retz i204_18 rfl t204 (by omega) ?_
        show X (EE s) (d - 1) 246 9 [(0, zi a1)] [zi 0] m503 _
        refine X.retz i246_9 rfl t246 (by omega) ?_
        show X (EE s) d 247 11 [(0, zr g0 44), (1, zi a1), (2, zi a2), (3, zi a3)] [zi 0] m503 _
        refine X.ifeq 33 14 i247_11 rfl rfl rfl (fun h514 => ?_) (fun h514 => (by exfalso; omega))
        refine X.cut [] i247_33 rfl ?_
        refine X.iconst 34 i247_33 rfl rfl (by decide) ?_
        refine X.retz i247_34 rfl t247 (by omega) ?_
        exact hQ 0 m503 (by first | trivial | omega) (hJ504.up (by omega)) (fun g => by simp only [km503]) 
      · have h513c : a1 ≤ 3 := by omega
        clear h513 hz512
        refine X.iconst 14 i204_13 rfl rfl (by decide) ?_
        refine X.goto 18 i204_14 rfl rfl ?_
        refine X.cut [] i204_18 rfl ?_
        refine X.retz i204_18 rfl t204 (by omega) ?_
        show X (EE s) (d - 1) 246 9 [(0, zi a1)] [zi 1] m503 _
        refine X.retz i246_9 rfl t246 (by omega) ?_
        show X (EE s) d 247 11 [(0, zr g0 44), (1, zi a1), (2, zi a2), (3, zi a3)] [zi 1] m503 _
        refine X.ifeq 33 14 i247_11 rfl rfl rfl (fun h515 => (by exfalso; omega)) (fun h515 => ?_)
        refine X.iload_n 15 i247_14 rfl rfl rfl ?_
        refine X.i2l 16 i247_15 rfl rfl ?_
        refine X.lconst (y := 0) 17 i247_16 rfl rfl rfl ?_
        refine X.ldc2 20 i247_17 rfl rfl (by decide) ?_
        refine X.calls 23 [zl a2, zl 0, zl 6] [] [(0, zl a2), (2, zl 0), (4, zl 6)] i247_20 (by decide) rfl rfl (by omega) rfl rfl t204 (Nat.le_of_ble_eq_true rfl) (Nat.le_of_ble_eq_true rfl) rfl ?_
        refine X.lload_n 1 i204_0 rfl rfl rfl ?_
        refine X.lload_n 2 i204_1 rfl rfl rfl ?_
        refine X.lcmp 3 i204_2 rfl rfl (fun z516 hz516 => ?_)
        refine X.iflt 17 6 i204_3 rfl rfl rfl (fun h517 => ?_) (fun h517 => ?_)
        · have h517c : a2 < 0 := by omega
          clear h517 hz516
          refine X.cut [] i204_17 rfl ?_
          refine X.iconst 18 i204_17 rfl rfl (by decide) ?_
          refine X.retz i204_18 rfl t204 (by omega) ?_
          show X (EE s) d 247 23 [(0, zr g0 44), (1, zi a1), (2, zi a2), (3, zi a3)] [zi 0] m503 _
          refine X.ifeq 33 26 i247_23 rfl rfl rfl (fun h518 => ?_) (fun h518 => (by exfalso; omega))
          refine X.cut [] i247_33 rfl ?_
          refine X.iconst 34 i247_33 rfl rfl (by decide) ?_
          refine X.retz i247_34 rfl t247 (by omega) ?_
          exact hQ 0 m503 (by first | trivial | omega) (hJ504.up (by omega)) (fun g => by simp only [km503]) 
        · have h517c : a2 ≥ 0 := by omega
          clear h517 hz516
          refine X.lload_n 7 i204_6 rfl rfl rfl ?_
          refine X.lload 9 i204_7 rfl rfl rfl ?_
          refine X.lcmp 10 i204_9 rfl rfl (fun z519 hz519 => ?_)
          refine X.ifgt 17 13 i204_10 rfl rfl rfl (fun h520 => ?_) (fun h520 => ?_)
          · have h520c : a2 > 6 := by omega
            clear h520 hz519
            refine X.cut [] i204_17 rfl ?_
            refine X.iconst 18 i204_17 rfl rfl (by decide) ?_
            refine X.retz i204_18 rfl t204 (by omega) ?_
            show X (EE s) d 247 23 [(0, zr g0 44), (1, zi a1), (2, zi a2), (3, zi a3)] [zi 0] m503 _
            refine X.ifeq 33 26 i247_23 rfl rfl rfl (fun h521 => ?_) (fun h521 => (by exfalso; omega))
            refine X.cut [] i247_33 rfl ?_
            refine X.iconst 34 i247_33 rfl rfl (by decide) ?_
            refine X.retz i247_34 rfl t247 (by omega) ?_
            exact hQ 0 m503 (by first | trivial | omega) (hJ504.up (by omega)) (fun g => by simp only [km503]) 
          · have h520c : a2 ≤ 6 := by omega
            clear h520 hz519
            refine X.iconst 14 i204_13 rfl rfl (by decide) ?_
            refine X.goto 18 i204_14 rfl rfl ?_
            refine X.cut [] i204_18 rfl ?_
            refine X.retz i204_18 rfl t204 (by omega) ?_
            show X (EE s) d 247 23 [(0, zr g0 44), (1, zi a1), (2, zi a2), (3, zi a3)] [zi 1] m503 _
            refine X.ifeq 33 26 i247_23 rfl rfl rfl (fun h522 => (by exfalso; omega)) (fun h522 => ?_)
            refine X.iload_n 27 i247_26 rfl rfl rfl ?_
            refine X.calls 30 [zi a3] [] [(0, zi a3)] i247_27 (by decide) rfl rfl (by omega) rfl rfl t241 (Nat.le_of_ble_eq_true rfl) (Nat.le_of_ble_eq_true rfl) rfl ?_
            refine X.iload_n 1 i241_0 rfl rfl rfl ?_
            refine X.i2l 2 i241_1 rfl rfl ?_
            refine X.lconst (y := 0) 3 i241_2 rfl rfl rfl ?_
            refine X.ldc2 6 i241_3 rfl rfl (by decide) ?_
            refine X.calls 9 [zl a3, zl 0, zl 7] [] [(0, zl a3), (2, zl 0), (4, zl 7)] i241_6 (by decide) rfl rfl (by omega) rfl rfl t204 (Nat.le_of_ble_eq_true rfl) (Nat.le_of_ble_eq_true rfl) rfl ?_
            refine X.lload_n 1 i204_0 rfl rfl rfl ?_
            refine X.lload_n 2 i204_1 rfl rfl rfl ?_
            refine X.lcmp 3 i204_2 rfl rfl (fun z523 hz523 => ?_)
            refine X.iflt 17 6 i204_3 rfl rfl rfl (fun h524 => ?_) (fun h524 => ?_)
            · have h524c : a3 < 0 := by omega
              clear h524 hz523
              refine X.cut [] i204_17 rfl ?_
              refine X.iconst 18 i204_17 rfl rfl (by decide) ?_
              refine X.retz i204_18 rfl t204 (by omega) ?_
              show X (EE s) (d - 1) 241 9 [(0, zi a3)] [zi 0] m503 _
              refine X.retz i241_9 rfl t241 (by omega) ?_
              show X (EE s) d 247 30 [(0, zr g0 44), (1, zi a1), (2, zi a2), (3, zi a3)] [zi 0] m503 _
              refine X.ifne 35 33 i247_30 rfl rfl rfl (fun h525 => (by exfalso; omega)) (fun h525 => ?_)
              refine X.cut [] i247_33 rfl ?_
              refine X.iconst 34 i247_33 rfl rfl (by decide) ?_
              refine X.retz i247_34 rfl t247 (by omega) ?_
              exact hQ 0 m503 (by first | trivial | omega) (hJ504.up (by omega)) (fun g => by simp only [km503]) 
            · have h524c : a3 ≥ 0 := by omega
              clear h524 hz523
              refine X.lload_n 7 i204_6 rfl rfl rfl ?_
              refine X.lload 9 i204_7 rfl rfl rfl ?_
              refine X.lcmp 10 i204_9 rfl rfl (fun z526 hz526 => ?_)
              refine X.ifgt 17 13 i204_10 rfl rfl rfl (fun h527 => ?_) (fun h527 => ?_)
              · have h527c : a3 > 7 := by omega
                clear h527 hz526
                refine X.cut [] i204_17 rfl ?_
                refine X.iconst 18 i204_17 rfl rfl (by decide) ?_
                refine X.retz i204_18 rfl t204 (by omega) ?_
                show X (EE s) (d - 1) 241 9 [(0, zi a3)] [zi 0] m503 _
                refine X.retz i241_9 rfl t241 (by omega) ?_
                show X (EE s) d 247 30 [(0, zr g0 44), (1, zi a1), (2, zi a2), (3, zi a3)] [zi 0] m503 _
                refine X.ifne 35 33 i247_30 rfl rfl rfl (fun h528 => (by exfalso; omega)) (fun h528 => ?_)
                refine X.cut [] i247_33 rfl ?_
                refine X.iconst 34 i247_33 rfl rfl (by decide) ?_
                refine X.retz i247_34 rfl t247 (by omega) ?_
                exact hQ 0 m503 (by first | trivial | omega) (hJ504.up (by omega)) (fun g => by simp only [km503]) 
              · have h527c : a3 ≤ 7 := by omega
                clear h527 hz526
                refine X.iconst 14 i204_13 rfl rfl (by decide) ?_
                refine X.goto 18 i204_14 rfl rfl ?_
                refine X.cut [] i204_18 rfl ?_
                refine X.retz i204_18 rfl t204 (by omega) ?_
                show X (EE s) (d - 1) 241 9 [(0, zi a3)] [zi 1] m503 _
                refine X.retz i241_9 rfl t241 (by omega) ?_
                show X (EE s) d 247 30 [(0, zr g0 44), (1, zi a1), (2, zi a2), (3, zi a3)] [zi 1] m503 _
                refine X.ifne 35 33 i247_30 rfl rfl rfl (fun h529 => ?_) (fun h529 => (by exfalso; omega))
                refine X.aload_n 36 i247_35 rfl rfl rfl ?_
                refine X.getF 39 i247_36 rfl rfl (by decide) rfl rfl ?_
                refine X.sipush 42 i247_39 rfl rfl (by decide) ?_
                refine X.bipush 44 i247_42 rfl rfl (by decide) ?_
                refine X.iload_n 45 i247_44 rfl rfl rfl ?_
                refine X.imul 46 i247_45 rfl rfl (by omega) ?_
                refine X.iadd 47 i247_46 rfl rfl (by omega) ?_
                refine X.iload_n 48 i247_47 rfl rfl rfl ?_
                refine X.iadd 49 i247_48 rfl rfl (by omega) ?_
                refine X.iload_n 50 i247_49 rfl rfl rfl ?_
                refine X.i2l 51 i247_50 rfl rfl ?_
                refine X.last' 52 i247_51 rfl rfl (by decide) rfl (by omega) (fun hrm530 m530 hm530 => ?_)
                have hJ531 := w45_395 hJ504 hm530 (by omega) (by omega)
                have km530 : ∀ g, m530 g 8 9 = m503 g 8 9 := fun g9 => by rw [hm530]; exact z_upd_o _ _ rfl
                refine X.iconst 53 i247_52 rfl rfl (by decide) ?_
                refine X.retz i247_53 rfl t247 (by omega) ?_
                exact hQ 1 m530 (by first | trivial | omega) (hJ531.up (by omega)) (fun g => by simp only [km503, km530]) 
  · have h507c : (m503 4 45 1614) = 1 := by omega
    clear h507 hz506
    refine X.iconst 33 i203_32 rfl rfl (by decide) ?_
    refine X.goto 37 i203_33 rfl rfl ?_
    refine X.cut [] i203_37 rfl ?_
    refine X.retz i203_37 rfl t203 (by omega) ?_
    show X (EE s) d 247 4 [(0, zr g0 44), (1, zi a1), (2, zi a2), (3, zi a3)] [zi 1] m503 _
    refine X.ifne 33 7 i247_4 rfl rfl rfl (fun h532 => ?_) (fun h532 => (by exfalso; omega))
    refine X.cut [] i247_33 rfl ?_
    refine X.iconst 34 i247_33 rfl rfl (by decide) ?_
    refine X.retz i247_34 rfl t247 (by omega) ?_
    exact hQ 0 m503 (by first | trivial | omega) (hJ504.up (by omega)) (fun g => by simp only [km503]) 
-- WorkMeter$Calendar.dropSpecial
theorem c126_1 {s : Nat × (Nat → Int32)} {m0 m : zM} {B : Int} {d : Nat} {Q : Option zV → zM → Prop} (g0 : Nat) (a1 : Int) (hd : 14 ≤ d) (hJ : J m0 B m) (hB : B + 0 ≤ 1000000000) (ha1 : 0 ≤ a1 ∧ a1 ≤ 364) (hQ : ∀ (v : Int) m', (0 ≤ v ∧ v ≤ 1) → J m0 (B) m' → (∀ g, m' g 8 9 = m g 8 9) → Q (some (zi v)) m') : X (EE s) d 126 0 [(0, zr g0 11), (1, zi a1)] [] m Q := by
  refine X.aload_n 1 i126_0 rfl rfl rfl ?_
  refine X.iload_n 2 i126_1 rfl rfl rfl ?_
  refine X.callv 5 [zi a1] [] [(0, zr g0 11), (1, zi a1)] i126_2 rfl (by decide) rfl rfl (by omega) rfl rfl (by decide) rfl t29 (Nat.le_of_ble_eq_true rfl) (Nat.le_of_ble_eq_true rfl) rfl ?_
  refine c29_1 (B := B) g0 a1 (by omega) (hJ.up (by omega)) (by omega) (by omega) (fun v503 hv503 hqv5030 => ?_)
  show X (EE s) d 126 5 [(0, zr g0 11), (1, zi a1)] [zi v503] m _
  refine X.istore_n 6 [(0, zr g0 11), (1, zi a1), (2, zi v503)] i126_5 rfl rfl rfl ?_
  refine X.iload_n 7 i126_6 rfl rfl rfl ?_
  refine X.iconst 8 i126_7 rfl rfl (by decide) ?_
  refine X.icmpne 13 11 i126_8 rfl rfl rfl (fun h504 => ?_) (fun h504 => ?_)
  · refine X.cut [(0, zr g0 11), (2, zi v503)] i126_13 rfl ?_
    refine X.aload_n 14 i126_13 rfl rfl rfl ?_
    refine X.dup 15 i126_14 rfl rfl rfl ?_
    refine X.getI 18 7 i126_15 rfl rfl (by decide) rfl rfl rfl ?_
    have h505 := r11_7 hJ g0
    refine X.iconst 19 i126_18 rfl rfl (by decide) ?_
    refine X.isub 20 i126_19 rfl rfl (by omega) ?_
    refine X.putI' 23 7 i126_20 rfl rfl (by decide) rfl rfl rfl (fun hrm506 m506 hm506 => ?_)
    have hJ507 := w11_7 hJ hm506 (by omega)
    have em506 : m506 g0 11 7 = ((m g0 11 7) - 1) := by rw [hm506]; exact z_upd_same _ _ _ _ _
    have km506 : ∀ g, m506 g 8 9 = m g 8 9 := fun g9 => by rw [hm506]; exact z_upd_o _ _ rfl
    refine X.aload_n 24 i126_23 rfl rfl rfl ?_
    refine X.getR 27 i126_24 rfl rfl (by decide) rfl rfl ?_
    refine X.iload_n 28 i126_27 rfl rfl rfl ?_
    refine X.aload_n 29 i126_28 rfl rfl rfl ?_
    refine X.getR 32 i126_29 rfl rfl (by decide) rfl rfl ?_
    refine X.aload_n 33 i126_32 rfl rfl rfl ?_
    refine X.getI 36 7 i126_33 rfl rfl (by decide) rfl rfl rfl ?_
    refine X.iald 37 i126_36 rfl rfl (by decide) rfl (by omega) ?_
    have h508 := r17_0 hJ507 g0 (i := (m506 g0 11 7)) (by omega)
    refine X.iast' 38 i126_37 rfl rfl (by decide) rfl (by omega) (fun hrm509 m509 hm509 => ?_)
    have hJ510 := w17_0 hJ507 hm509 (by omega) (by omega)
    have km509 : ∀ g, m509 g 8 9 = m506 g 8 9 := fun g9 => by rw [hm509]; exact z_upd_o _ _ rfl
    have wtm509_0 : m509 g0 11 7 = m506 g0 11 7 := by rw [hm509]; exact z_upd_o _ _ rfl
    refine X.aload_n 39 i126_38 rfl rfl rfl ?_
    refine X.getR 42 i126_39 rfl rfl (by decide) rfl rfl ?_
    refine X.iload_n 43 i126_42 rfl rfl rfl ?_
    refine X.aload_n 44 i126_43 rfl rfl rfl ?_
    refine X.getR 47 i126_44 rfl rfl (by decide) rfl rfl ?_
    refine X.aload_n 48 i126_47 rfl rfl rfl ?_
    refine X.getI 51 7 i126_48 rfl rfl (by decide) rfl rfl rfl ?_
    have h511 := r11_7 hJ510 g0
    refine X.iald 52 i126_51 rfl rfl (by decide) rfl (by omega) ?_
    have h512 := r18_0 hJ510 g0 (i := (m509 g0 11 7)) (by omega)
    refine X.iast' 53 i126_52 rfl rfl (by decide) rfl (by omega) (fun hrm513 m513 hm513 => ?_)
    have hJ514 := w18_0 hJ510 hm513 (by omega) (by omega)
    have km513 : ∀ g, m513 g 8 9 = m509 g 8 9 := fun g9 => by rw [hm513]; exact z_upd_o _ _ rfl
    have wtm513_0 : m513 g0 11 7 = m509 g0 11 7 := by rw [hm513]; exact z_upd_o _ _ rfl
    refine X.iconst 54 i126_53 rfl rfl (by decide) ?_
    refine X.retz i126_54 rfl t126 (by omega) ?_
    exact hQ 1 m513 (by first | trivial | omega) (hJ514.up (by omega)) (fun g => by simp only [km506, km509, km513]) 
  · refine X.iconst 12 i126_11 rfl rfl (by decide) ?_
    refine X.retz i126_12 rfl t126 (by omega) ?_
    exact hQ 0 m (by first | trivial | omega) (hJ.up (by omega)) (fun g => rfl) 
-- WorkMeter.special
theorem c125_1 {s : Nat × (Nat → Int32)} {m0 m : zM} {B : Int} {d : Nat} {Q : Option zV → zM → Prop} (g0 : Nat) (a1 a2 : Int) (hd : 15 ≤ d) (hJ : J m0 B m) (hB : B + 0 ≤ 1000000000) (ha1 : (-2147483648) ≤ a1 ∧ a1 ≤ 2147483647) (ha2 : (-2147483648) ≤ a2 ∧ a2 ≤ 2147483647) (hQ : ∀ (v : Int) m', (0 ≤ v ∧ v ≤ 1) → J m0 (B) m' → (∀ g, m' g 8 9 = m g 8 9) → Q (some (zi v)) m') : X (EE s) d 125 0 [(0, zr g0 40), (1, zi a1), (2, zi a2)] [] m Q := by
  refine X.aload_n 1 i125_0 rfl rfl rfl ?_
  refine X.getF 4 i125_1 rfl rfl (by decide) rfl rfl ?_
  refine X.getR 7 i125_4 rfl rfl (by decide) rfl rfl ?_
  refine X.callv 10 [] [] [(0, zr 0 39)] i125_7 rfl (by decide) rfl rfl (by omega) rfl rfl (by decide) rfl t17 (Nat.le_of_ble_eq_true rfl) (Nat.le_of_ble_eq_true rfl) rfl ?_
  refine X.aload_n 1 i17_0 rfl rfl rfl ?_
  refine X.getZ 4 0 i17_1 rfl rfl (by decide) rfl rfl rfl (fun h501 => ?_)
  refine X.ifeq 17 7 i17_4 rfl rfl rfl (fun h502 => ?_) (fun h502 => ?_)
  · refine X.aload_n 18 i17_17 rfl rfl rfl ?_
    refine X.getZ 21 0 i17_18 rfl rfl (by decide) rfl rfl rfl (fun h503 => ?_)
    refine X.retz i17_21 rfl t17 (by omega) ?_
    show X (EE s) d 125 10 [(0, zr g0 40), (1, zi a1), (2, zi a2)] [zi (m 0 39 0)] m _
    refine X.ifne 24 13 i125_10 rfl rfl rfl (fun h504 => ?_) (fun h504 => ?_)
    · refine X.cut [] i125_24 rfl ?_
      refine X.iconst 25 i125_24 rfl rfl (by decide) ?_
      refine X.retz i125_25 rfl t125 (by omega) ?_
      exact hQ 0 m (by first | trivial | omega) (hJ.up (by omega)) (fun g => rfl) 
    · refine X.iload_n 14 i125_13 rfl rfl rfl ?_
      refine X.iflt 24 17 i125_14 rfl rfl rfl (fun h505 => ?_) (fun h505 => ?_)
      · refine X.cut [] i125_24 rfl ?_
        refine X.iconst 25 i125_24 rfl rfl (by decide) ?_
        refine X.retz i125_25 rfl t125 (by omega) ?_
        exact hQ 0 m (by first | trivial | omega) (hJ.up (by omega)) (fun g => rfl) 
      · refine X.iload_n 18 i125_17 rfl rfl rfl ?_
        refine X.sipush 21 i125_18 rfl rfl (by decide) ?_
        refine X.icmplt 26 24 i125_21 rfl rfl rfl (fun h506 => ?_) (fun h506 => ?_)
        · refine X.iload_n 27 i125_26 rfl rfl rfl ?_
          refine X.iconst 28 i125_27 rfl rfl (by decide) ?_
          refine X.icmpne 43 31 i125_28 rfl rfl rfl (fun h507 => ?_) (fun h507 => ?_)
          · refine X.iload_n 44 i125_43 rfl rfl rfl ?_
            refine X.calls 47 [zi a2] [] [(0, zi a2)] i125_44 (by decide) rfl rfl (by omega) rfl rfl t79 (Nat.le_of_ble_eq_true rfl) (Nat.le_of_ble_eq_true rfl) rfl ?_
            refine X.iload_n 1 i79_0 rfl rfl rfl ?_
            refine X.iflt 14 4 i79_1 rfl rfl rfl (fun h508 => ?_) (fun h508 => ?_)
            · refine X.cut [] i79_14 rfl ?_
              refine X.iconst 15 i79_14 rfl rfl (by decide) ?_
              refine X.retz i79_15 rfl t79 (by omega) ?_
              show X (EE s) d 125 47 [(0, zr g0 40), (1, zi a1), (2, zi a2)] [zi 0] m _
              refine X.ifeq 69 50 i125_47 rfl rfl rfl (fun h509 => ?_) (fun h509 => (by exfalso; omega))
              refine X.cut [] i125_69 rfl ?_
              refine X.iconst 70 i125_69 rfl rfl (by decide) ?_
              refine X.retz i125_70 rfl t125 (by omega) ?_
              exact hQ 0 m (by first | trivial | omega) (hJ.up (by omega)) (fun g => rfl) 
            · refine X.iload_n 5 i79_4 rfl rfl rfl ?_
              refine X.bipush 7 i79_5 rfl rfl (by decide) ?_
              refine X.icmpge 14 10 i79_7 rfl rfl rfl (fun h510 => ?_) (fun h510 => ?_)
              · refine X.cut [] i79_14 rfl ?_
                refine X.iconst 15 i79_14 rfl rfl (by decide) ?_
                refine X.retz i79_15 rfl t79 (by omega) ?_
                show X (EE s) d 125 47 [(0, zr g0 40), (1, zi a1), (2, zi a2)] [zi 0] m _
                refine X.ifeq 69 50 i125_47 rfl rfl rfl (fun h511 => ?_) (fun h511 => (by exfalso; omega))
                refine X.cut [] i125_69 rfl ?_
                refine X.iconst 70 i125_69 rfl rfl (by decide) ?_
                refine X.retz i125_70 rfl t125 (by omega) ?_
                exact hQ 0 m (by first | trivial | omega) (hJ.up (by omega)) (fun g => rfl) 
              · refine X.iconst 11 i79_10 rfl rfl (by decide) ?_
                refine X.goto 15 i79_11 rfl rfl ?_
                refine X.cut [] i79_15 rfl ?_
                refine X.retz i79_15 rfl t79 (by omega) ?_
                show X (EE s) d 125 47 [(0, zr g0 40), (1, zi a1), (2, zi a2)] [zi 1] m _
                refine X.ifeq 69 50 i125_47 rfl rfl rfl (fun h512 => (by exfalso; omega)) (fun h512 => ?_)
                refine X.aload_n 51 i125_50 rfl rfl rfl ?_
                refine X.getF 54 i125_51 rfl rfl (by decide) rfl rfl ?_
                refine X.getR 57 i125_54 rfl rfl (by decide) rfl rfl ?_
                refine X.iload_n 58 i125_57 rfl rfl rfl ?_
                refine X.iload_n 59 i125_58 rfl rfl rfl ?_
                refine X.callv 62 [zi a1, zi a2] [] [(0, zr 0 11), (1, zi a1), (2, zi a2)] i125_59 rfl (by decide) rfl rfl (by omega) rfl rfl (by decide) rfl t109 (Nat.le_of_ble_eq_true rfl) (Nat.le_of_ble_eq_true rfl) rfl ?_
                refine c109_1 (B := B) 0 a1 a2 (by omega) (hJ.up (by omega)) (by omega) (by omega) (by omega) (fun v515 m513 hv515 hJ514 km513 => ?_)
                show X (EE s) d 125 62 [(0, zr g0 40), (1, zi a1), (2, zi a2)] [zi v515] m513 _
                refine X.ifeq 69 65 i125_62 rfl rfl rfl (fun h516 => ?_) (fun h516 => ?_)
                · refine X.cut [] i125_69 rfl ?_
                  refine X.iconst 70 i125_69 rfl rfl (by decide) ?_
                  refine X.retz i125_70 rfl t125 (by omega) ?_
                  exact hQ 0 m513 (by first | trivial | omega) (hJ514.up (by omega)) (fun g => by simp only [km513]) 
                · refine X.iconst 66 i125_65 rfl rfl (by decide) ?_
                  refine X.goto 70 i125_66 rfl rfl ?_
                  refine X.cut [] i125_70 rfl ?_
                  refine X.retz i125_70 rfl t125 (by omega) ?_
                  exact hQ 1 m513 (by first | trivial | omega) (hJ514.up (by omega)) (fun g => by simp only [km513]) 
          · refine X.aload_n 32 i125_31 rfl rfl rfl ?_
            refine X.getF 35 i125_32 rfl rfl (by decide) rfl rfl ?_
            refine X.getR 38 i125_35 rfl rfl (by decide) rfl rfl ?_
            refine X.iload_n 39 i125_38 rfl rfl rfl ?_
            refine X.callv 42 [zi a1] [] [(0, zr 0 11), (1, zi a1)] i125_39 rfl (by decide) rfl rfl (by omega) rfl rfl (by decide) rfl t126 (Nat.le_of_ble_eq_true rfl) (Nat.le_of_ble_eq_true rfl) rfl ?_
            refine c126_1 (B := B) 0 a1 (by omega) (hJ.up (by omega)) (by omega) (by omega) (fun v519 m517 hv519 hJ518 km517 => ?_)
            show X (EE s) d 125 42 [(0, zr g0 40), (1, zi a1), (2, zi a2)] [zi v519] m517 _
            refine X.retz i125_42 rfl t125 (by omega) ?_
            exact hQ v519 m517 (by first | trivial | omega) (hJ518.up (by omega)) (fun g => by simp only [km517]) 
        · refine X.cut [] i125_24 rfl ?_
          refine X.iconst 25 i125_24 rfl rfl (by decide) ?_
          refine X.retz i125_25 rfl t125 (by omega) ?_
          exact hQ 0 m (by first | trivial | omega) (hJ.up (by omega)) (fun g => rfl) 
  · refine X.aload_n 8 i17_7 rfl rfl rfl ?_
    refine X.dup 9 i17_8 rfl rfl rfl ?_
    refine X.getIr 12 3 i17_9 rfl rfl (by decide) rfl rfl rfl (fun h520 => ?_)
    refine X.iconst 13 i17_12 rfl rfl (by decide) ?_
    refine X.iiF 14 .iadd (fun x y => x + y) i17_13 rfl rfl rfl (fun _ _ => rfl) (fun z521 hz521 => ?_)
    refine X.putI' 17 3 i17_14 rfl rfl (by decide) rfl rfl rfl (fun hrm522 m522 hm522 => ?_)
    have hJ523 := w39_1 hJ hm522 (by omega) hrm522
    have km522 : ∀ g, m522 g 8 9 = m g 8 9 := fun g9 => by rw [hm522]; exact z_upd_o _ _ rfl
    refine X.aload_n 18 i17_17 rfl rfl rfl ?_
    refine X.getZ 21 0 i17_18 rfl rfl (by decide) rfl rfl rfl (fun h524 => ?_)
    refine X.retz i17_21 rfl t17 (by omega) ?_
    show X (EE s) d 125 10 [(0, zr g0 40), (1, zi a1), (2, zi a2)] [zi (m522 0 39 0)] m522 _
    refine X.ifne 24 13 i125_10 rfl rfl rfl (fun h525 => ?_) (fun h525 => ?_)
    · refine X.cut [] i125_24 rfl ?_
      refine X.iconst 25 i125_24 rfl rfl (by decide) ?_
      refine X.retz i125_25 rfl t125 (by omega) ?_
      exact hQ 0 m522 (by first | trivial | omega) (hJ523.up (by omega)) (fun g => by simp only [km522]) 
    · refine X.iload_n 14 i125_13 rfl rfl rfl ?_
      refine X.iflt 24 17 i125_14 rfl rfl rfl (fun h526 => ?_) (fun h526 => ?_)
      · refine X.cut [] i125_24 rfl ?_
        refine X.iconst 25 i125_24 rfl rfl (by decide) ?_
        refine X.retz i125_25 rfl t125 (by omega) ?_
        exact hQ 0 m522 (by first | trivial | omega) (hJ523.up (by omega)) (fun g => by simp only [km522]) 
      · refine X.iload_n 18 i125_17 rfl rfl rfl ?_
        refine X.sipush 21 i125_18 rfl rfl (by decide) ?_
        refine X.icmplt 26 24 i125_21 rfl rfl rfl (fun h527 => ?_) (fun h527 => ?_)
        · refine X.iload_n 27 i125_26 rfl rfl rfl ?_
          refine X.iconst 28 i125_27 rfl rfl (by decide) ?_
          refine X.icmpne 43 31 i125_28 rfl rfl rfl (fun h528 => ?_) (fun h528 => ?_)
          · refine X.iload_n 44 i125_43 rfl rfl rfl ?_
            refine X.calls 47 [zi a2] [] [(0, zi a2)] i125_44 (by decide) rfl rfl (by omega) rfl rfl t79 (Nat.le_of_ble_eq_true rfl) (Nat.le_of_ble_eq_true rfl) rfl ?_
            refine X.iload_n 1 i79_0 rfl rfl rfl ?_
            refine X.iflt 14 4 i79_1 rfl rfl rfl (fun h529 => ?_) (fun h529 => ?_)
            · refine X.cut [] i79_14 rfl ?_
              refine X.iconst 15 i79_14 rfl rfl (by decide) ?_
              refine X.retz i79_15 rfl t79 (by omega) ?_
              show X (EE s) d 125 47 [(0, zr g0 40), (1, zi a1), (2, zi a2)] [zi 0] m522 _
              refine X.ifeq 69 50 i125_47 rfl rfl rfl (fun h530 => ?_) (fun h530 => (by exfalso; omega))
              refine X.cut [] i125_69 rfl ?_
              refine X.iconst 70 i125_69 rfl rfl (by decide) ?_
              refine X.retz i125_70 rfl t125 (by omega) ?_
              exact hQ 0 m522 (by first | trivial | omega) (hJ523.up (by omega)) (fun g => by simp only [km522]) 
            · refine X.iload_n 5 i79_4 rfl rfl rfl ?_
              refine X.bipush 7 i79_5 rfl rfl (by decide) ?_
              refine X.icmpge 14 10 i79_7 rfl rfl rfl (fun h531 => ?_) (fun h531 => ?_)
              · refine X.cut [] i79_14 rfl ?_
                refine X.iconst 15 i79_14 rfl rfl (by decide) ?_
                refine X.retz i79_15 rfl t79 (by omega) ?_
                show X (EE s) d 125 47 [(0, zr g0 40), (1, zi a1), (2, zi a2)] [zi 0] m522 _
                refine X.ifeq 69 50 i125_47 rfl rfl rfl (fun h532 => ?_) (fun h532 => (by exfalso; omega))
                refine X.cut [] i125_69 rfl ?_
                refine X.iconst 70 i125_69 rfl rfl (by decide) ?_
                refine X.retz i125_70 rfl t125 (by omega) ?_
                exact hQ 0 m522 (by first | trivial | omega) (hJ523.up (by omega)) (fun g => by simp only [km522]) 
              · refine X.iconst 11 i79_10 rfl rfl (by decide) ?_
                refine X.goto 15 i79_11 rfl rfl ?_
                refine X.cut [] i79_15 rfl ?_
                refine X.retz i79_15 rfl t79 (by omega) ?_
                show X (EE s) d 125 47 [(0, zr g0 40), (1, zi a1), (2, zi a2)] [zi 1] m522 _
                refine X.ifeq 69 50 i125_47 rfl rfl rfl (fun h533 => (by exfalso; omega)) (fun h533 => ?_)
                refine X.aload_n 51 i125_50 rfl rfl rfl ?_
                refine X.getF 54 i125_51 rfl rfl (by decide) rfl rfl ?_
                refine X.getR 57 i125_54 rfl rfl (by decide) rfl rfl ?_
                refine X.iload_n 58 i125_57 rfl rfl rfl ?_
                refine X.iload_n 59 i125_58 rfl rfl rfl ?_
                refine X.callv 62 [zi a1, zi a2] [] [(0, zr 0 11), (1, zi a1), (2, zi a2)] i125_59 rfl (by decide) rfl rfl (by omega) rfl rfl (by decide) rfl t109 (Nat.le_of_ble_eq_true rfl) (Nat.le_of_ble_eq_true rfl) rfl ?_
                refine c109_1 (B := B) 0 a1 a2 (by omega) (hJ523.up (by omega)) (by omega) (by omega) (by omega) (fun v536 m534 hv536 hJ535 km534 => ?_)
                show X (EE s) d 125 62 [(0, zr g0 40), (1, zi a1), (2, zi a2)] [zi v536] m534 _
                refine X.ifeq 69 65 i125_62 rfl rfl rfl (fun h537 => ?_) (fun h537 => ?_)
                · refine X.cut [] i125_69 rfl ?_
                  refine X.iconst 70 i125_69 rfl rfl (by decide) ?_
                  refine X.retz i125_70 rfl t125 (by omega) ?_
                  exact hQ 0 m534 (by first | trivial | omega) (hJ535.up (by omega)) (fun g => by simp only [km522, km534]) 
                · refine X.iconst 66 i125_65 rfl rfl (by decide) ?_
                  refine X.goto 70 i125_66 rfl rfl ?_
                  refine X.cut [] i125_70 rfl ?_
                  refine X.retz i125_70 rfl t125 (by omega) ?_
                  exact hQ 1 m534 (by first | trivial | omega) (hJ535.up (by omega)) (fun g => by simp only [km522, km534]) 
          · refine X.aload_n 32 i125_31 rfl rfl rfl ?_
            refine X.getF 35 i125_32 rfl rfl (by decide) rfl rfl ?_
            refine X.getR 38 i125_35 rfl rfl (by decide) rfl rfl ?_
            refine X.iload_n 39 i125_38 rfl rfl rfl ?_
            refine X.callv 42 [zi a1] [] [(0, zr 0 11), (1, zi a1)] i125_39 rfl (by decide) rfl rfl (by omega) rfl rfl (by decide) rfl t126 (Nat.le_of_ble_eq_true rfl) (Nat.le_of_ble_eq_true rfl) rfl ?_
            refine c126_1 (B := B) 0 a1 (by omega) (hJ523.up (by omega)) (by omega) (by omega) (fun v540 m538 hv540 hJ539 km538 => ?_)
            show X (EE s) d 125 42 [(0, zr g0 40), (1, zi a1), (2, zi a2)] [zi v540] m538 _
            refine X.retz i125_42 rfl t125 (by omega) ?_
            exact hQ v540 m538 (by first | trivial | omega) (hJ539.up (by omega)) (fun g => by simp only [km522, km538]) 
        · refine X.cut [] i125_24 rfl ?_
          refine X.iconst 25 i125_24 rfl rfl (by decide) ?_
          refine X.retz i125_25 rfl t125 (by omega) ?_
          exact hQ 0 m522 (by first | trivial | omega) (hJ523.up (by omega)) (fun g => by simp only [km522]) 
theorem l249_4_1 {s : Nat × (Nat → Int32)} {m0 m : zM} {B : Int} {d : Nat} {Q : Option zV → zM → Prop} (g0 : Nat) (hd : 13 ≤ d) (hJ : J m0 B m) (hB9 : B ≤ 1000000000)
    (K42 : ∀ (x1 : Int) , ((-2147483648) ≤ x1 ∧ x1 ≤ 2147483647) → X (EE s) d 249 42 [(1, zi x1)] [] m Q) :
    ∀ (n : Nat) (y1 y2 : Int) , ((-2147483648) ≤ y1 ∧ y1 ≤ 2147483647) → (0 ≤ y2 ∧ y2 ≤ 365) → 365 - y2 < (n : Int) → X (EE s) d 249 4 [(0, zr g0 44), (1, zi y1), (2, zi y2)] [] m Q := by
  intro n
  induction n with
  | zero =>
    intro y1 y2 hy1 hy2 hn
    exfalso
    omega
  | succ n ih =>
    intro y1 y2 hy1 hy2 hn
    refine X.iload_n 5 i249_4 rfl rfl rfl ?_
    refine X.sipush 8 i249_5 rfl rfl (by decide) ?_
    refine X.icmpge 42 11 i249_8 rfl rfl rfl (fun h522 => ?_) (fun h522 => ?_)
    · refine X.cut [(1, zi y1)] i249_42 rfl ?_
      exact K42 y1 (by first | trivial | omega)
    · refine X.iload_n 12 i249_11 rfl rfl rfl ?_
      refine X.aload_n 13 i249_12 rfl rfl rfl ?_
      refine X.getF 16 i249_13 rfl rfl (by decide) rfl rfl ?_
      refine X.sipush 19 i249_16 rfl rfl (by decide) ?_
      refine X.iload_n 20 i249_19 rfl rfl rfl ?_
      refine X.iadd 21 i249_20 rfl rfl (by omega) ?_
      refine X.lald 22 i249_21 rfl rfl (by decide) rfl (by omega) ?_
      have h523 := r45_423 hJ 4 (i := (423 + y2)) (by omega)
      refine X.ldc2 25 i249_22 rfl rfl (by decide) ?_
      refine X.lcmp 26 i249_25 rfl rfl (fun z524 hz524 => ?_)
      refine X.ifne 33 29 i249_26 rfl rfl rfl (fun h525 => ?_) (fun h525 => ?_)
      · have h525c : (m 4 45 (423 + y2)) ≠ (-1) := by omega
        clear h525 hz524
        refine X.cut [(0, zr g0 44), (2, zi y2)] i249_33 rfl ?_
        refine X.iconst 34 i249_33 rfl rfl (by decide) ?_
        refine X.iiF 35 .iadd (fun x y => x + y) i249_34 rfl rfl rfl (fun _ _ => rfl) (fun z526 hz526 => ?_)
        refine X.istore_n 36 [(0, zr g0 44), (1, zi z526), (2, zi y2)] i249_35 rfl rfl rfl ?_
        refine X.iinc 39 [(0, zr g0 44), (1, zi z526), (2, zi (y2 + 1))] i249_36 rfl rfl rfl (by omega) rfl ?_
        refine X.goto 4 i249_39 rfl rfl ?_
        exact ih z526 (y2 + 1) (by omega) (by omega) (by omega)
      · have h525c : (m 4 45 (423 + y2)) = (-1) := by omega
        clear h525 hz524
        refine X.iconst 30 i249_29 rfl rfl (by decide) ?_
        refine X.goto 34 i249_30 rfl rfl ?_
        refine X.cut [(0, zr g0 44), (2, zi y2)] i249_34 rfl ?_
        refine X.iadd 35 i249_34 rfl rfl (by omega) ?_
        refine X.istore_n 36 [(0, zr g0 44), (1, zi (y1 + 0)), (2, zi y2)] i249_35 rfl rfl rfl ?_
        refine X.iinc 39 [(0, zr g0 44), (1, zi (y1 + 0)), (2, zi (y2 + 1))] i249_36 rfl rfl rfl (by omega) rfl ?_
        refine X.goto 4 i249_39 rfl rfl ?_
        exact ih (y1 + 0) (y2 + 1) (by omega) (by omega) (by omega)
-- WorkMeterModel.specials
theorem c249_1 {s : Nat × (Nat → Int32)} {m0 m : zM} {B : Int} {d : Nat} {Q : Option zV → zM → Prop} (g0 : Nat) (hd : 13 ≤ d) (hJ : J m0 B m) (hB : B + 0 ≤ 1000000000) (hQ : ∀ (v : Int), ((-2147483648) ≤ v ∧ v ≤ 2147483647) → Q (some (zi v)) m) : X (EE s) d 249 0 [(0, zr g0 44)] [] m Q := by
  refine X.iconst 1 i249_0 rfl rfl (by decide) ?_
  refine X.istore_n 2 [(0, zr g0 44), (1, zi 0)] i249_1 rfl rfl rfl ?_
  refine X.iconst 3 i249_2 rfl rfl (by decide) ?_
  refine X.istore_n 4 [(0, zr g0 44), (1, zi 0), (2, zi 0)] i249_3 rfl rfl rfl ?_
  refine l249_4_1 (s := s) (m0 := m0) (m := m) (B := B) (d := d) g0  (by omega) (hJ.up (by omega)) (by omega) (fun y501 hby501 => ?_) ((365 - 0 : Int).toNat + 1) 0 0 (by omega) (by omega) (by omega)
  refine X.iload_n 43 i249_42 rfl rfl rfl ?_
  refine X.reti i249_43 rfl t249 ?_
  exact hQ y501 (by first | trivial | omega) 
-- WorkMeterModel.special
theorem c248_1 {s : Nat × (Nat → Int32)} {m0 m : zM} {B : Int} {d : Nat} {Q : Option zV → zM → Prop} (g0 : Nat) (a1 a2 : Int) (hd : 14 ≤ d) (hJ : J m0 B m) (hB : B + 0 ≤ 1000000000) (ha1 : (-2147483648) ≤ a1 ∧ a1 ≤ 2147483647) (ha2 : (-2147483648) ≤ a2 ∧ a2 ≤ 2147483647) (hQ : ∀ (v : Int) m', (0 ≤ v ∧ v ≤ 1) → J m0 (B) m' → (∀ g, m' g 8 9 = m g 8 9) → Q (some (zi v)) m') : X (EE s) d 248 0 [(0, zr g0 44), (1, zi a1), (2, zi a2)] [] m Q := by
  refine X.aload_n 1 i248_0 rfl rfl rfl ?_
  refine X.callv 4 [] [] [(0, zr g0 44)] i248_1 rfl (by decide) rfl rfl (by omega) rfl rfl (by decide) rfl t203 (Nat.le_of_ble_eq_true rfl) (Nat.le_of_ble_eq_true rfl) rfl ?_
  refine X.aload_n 1 i203_0 rfl rfl rfl ?_
  refine X.getF 4 i203_1 rfl rfl (by decide) rfl rfl ?_
  refine X.sipush 7 i203_4 rfl rfl (by decide) ?_
  refine X.dup2 8 i203_7 rfl rfl ?_
  refine X.lald 9 i203_8 rfl rfl (by decide) rfl (by omega) ?_
  refine X.aload_n 10 i203_9 rfl rfl rfl ?_
  refine X.getF 13 i203_10 rfl rfl (by decide) rfl rfl ?_
  refine X.sipush 16 i203_13 rfl rfl (by decide) ?_
  refine X.lald 17 i203_16 rfl rfl (by decide) rfl (by omega) ?_
  have h501 := r45_1614 hJ 4
  refine X.llF 18 .ladd (fun x y => x + y) i203_17 rfl rfl rfl (fun _ _ => rfl) (fun z502 hz502 => ?_)
  refine X.last' 19 i203_18 rfl rfl (by decide) rfl (by omega) (fun hrm503 m503 hm503 => ?_)
  have hJ504 := w45_1615 hJ hm503 (by omega) hrm503
  have km503 : ∀ g, m503 g 8 9 = m g 8 9 := fun g9 => by rw [hm503]; exact z_upd_o _ _ rfl
  refine X.aload_n 20 i203_19 rfl rfl rfl ?_
  refine X.getF 23 i203_20 rfl rfl (by decide) rfl rfl ?_
  refine X.sipush 26 i203_23 rfl rfl (by decide) ?_
  refine X.lald 27 i203_26 rfl rfl (by decide) rfl (by omega) ?_
  have h505 := r45_1614 hJ504 4
  refine X.lconst (y := 1) 28 i203_27 rfl rfl rfl ?_
  refine X.lcmp 29 i203_28 rfl rfl (fun z506 hz506 => ?_)
  refine X.ifne 36 32 i203_29 rfl rfl rfl (fun h507 => ?_) (fun h507 => ?_)
  · have h507c : (m503 4 45 1614) ≠ 1 := by omega
    clear h507 hz506
    refine X.cut [] i203_36 rfl ?_
    refine X.iconst 37 i203_36 rfl rfl (by decide) ?_
    refine X.retz i203_37 rfl t203 (by omega) ?_
    show X (EE s) d 248 4 [(0, zr g0 44), (1, zi a1), (2, zi a2)] [zi 0] m503 _
    refine X.ifne 31 7 i248_4 rfl rfl rfl (fun h508 => (by exfalso; omega)) (fun h508 => ?_)
    refine X.iload_n 8 i248_7 rfl rfl rfl ?_
    refine X.i2l 9 i248_8 rfl rfl ?_
    refine X.lconst (y := 0) 10 i248_9 rfl rfl rfl ?_
    refine X.ldc2 13 i248_10 rfl rfl (by decide) ?_
    refine X.calls 16 [zl a1, zl 0, zl 364] [] [(0, zl a1), (2, zl 0), (4, zl 364)] i248_13 (by decide) rfl rfl (by omega) rfl rfl t204 (Nat.le_of_ble_eq_true rfl) (Nat.le_of_ble_eq_true rfl) rfl ?_
    refine X.lload_n 1 i204_0 rfl rfl rfl ?_
    refine X.lload_n 2 i204_1 rfl rfl rfl ?_
    refine X.lcmp 3 i204_2 rfl rfl (fun z509 hz509 => ?_)
    refine X.iflt 17 6 i204_3 rfl rfl rfl (fun h510 => ?_) (fun h510 => ?_)
    · have h510c : a1 < 0 := by omega
      clear h510 hz509
      refine X.cut [] i204_17 rfl ?_
      refine X.iconst 18 i204_17 rfl rfl (by decide) ?_
      refine X.retz i204_18 rfl t204 (by omega) ?_
      show X (EE s) d 248 16 [(0, zr g0 44), (1, zi a1), (2, zi a2)] [zi 0] m503 _
      refine X.ifeq 31 19 i248_16 rfl rfl rfl (fun h511 => ?_) (fun h511 => (by exfalso; omega))
      refine X.cut [] i248_31 rfl ?_
      refine X.iconst 32 i248_31 rfl rfl (by decide) ?_
      refine X.retz i248_32 rfl t248 (by omega) ?_
      exact hQ 0 m503 (by first | trivial | omega) (hJ504.up (by omega)) (fun g => by simp only [km503]) 
    · have h510c : a1 ≥ 0 := by omega
      clear h510 hz509
      refine X.lload_n 7 i204_6 rfl rfl rfl ?_
      refine X.lload 9 i204_7 rfl rfl rfl ?_
      refine X.lcmp 10 i204_9 rfl rfl (fun z512 hz512 => ?_)
      refine X.ifgt 17 13 i204_10 rfl rfl rfl (fun h513 => ?_) (fun h513 => ?_)
      · have h513c : a1 > 364 := by omega
        clear h513 hz512
        refine X.cut [] i204_17 rfl ?_
        refine X.iconst 18 i204_17 rfl rfl (by decide) ?_
        refine X.retz i204_18 rfl t204 (by omega) ?_
        show X (EE s) d 248 16 [(0, zr g0 44), (1, zi a1), (2, zi a2)] [zi 0] m503 _
        refine X.ifeq 31 19 i248_16 rfl rfl rfl (fun h514 => ?_) (fun h514 => (by exfalso; omega))
        refine X.cut [] i248_31 rfl ?_
        refine X.iconst 32 i248_31 rfl rfl (by decide) ?_
        refine X.retz i248_32 rfl t248 (by omega) ?_
        exact hQ 0 m503 (by first | trivial | omega) (hJ504.up (by omega)) (fun g => by simp only [km503]) 
      · have h513c : a1 ≤ 364 := by omega
        clear h513 hz512
        refine X.iconst 14 i204_13 rfl rfl (by decide) ?_
        refine X.goto 18 i204_14 rfl rfl ?_
        refine X.cut [] i204_18 rfl ?_
        refine X.retz i204_18 rfl t204 (by omega) ?_
        show X (EE s) d 248 16 [(0, zr g0 44), (1, zi a1), (2, zi a2)] [zi 1] m503 _
        refine X.ifeq 31 19 i248_16 rfl rfl rfl (fun h515 => (by exfalso; omega)) (fun h515 => ?_)
        refine X.iload_n 20 i248_19 rfl rfl rfl ?_
        refine X.iconst 21 i248_20 rfl rfl (by decide) ?_
        refine X.icmpeq 33 24 i248_21 rfl rfl rfl (fun h516 => ?_) (fun h516 => ?_)
        · refine X.aload_n 34 i248_33 rfl rfl rfl ?_
          refine X.getF 37 i248_34 rfl rfl (by decide) rfl rfl ?_
          refine X.sipush 40 i248_37 rfl rfl (by decide) ?_
          refine X.iload_n 41 i248_40 rfl rfl rfl ?_
          refine X.iadd 42 i248_41 rfl rfl (by omega) ?_
          refine X.lald 43 i248_42 rfl rfl (by decide) rfl (by omega) ?_
          have h517 := r45_423 hJ504 4 (i := (423 + a1)) (by omega)
          refine X.ldc2 46 i248_43 rfl rfl (by decide) ?_
          refine X.lcmp 47 i248_46 rfl rfl (fun z518 hz518 => ?_)
          refine X.ifeq 54 50 i248_47 rfl rfl rfl (fun h519 => ?_) (fun h519 => ?_)
          · have h519c : (m503 4 45 (423 + a1)) = (-1) := by omega
            clear h519 hz518
            refine X.iconst 55 i248_54 rfl rfl (by decide) ?_
            refine X.istore_n 56 [(0, zr g0 44), (1, zi a1), (2, zi a2), (3, zi 0)] i248_55 rfl rfl rfl ?_
            refine X.iload_n 57 i248_56 rfl rfl rfl ?_
            refine X.iconst 58 i248_57 rfl rfl (by decide) ?_
            refine X.icmpne 68 61 i248_58 rfl rfl rfl (fun h520 => (by exfalso; omega)) (fun h520 => ?_)
            refine X.iload_n 62 i248_61 rfl rfl rfl ?_
            refine X.ifne 83 65 i248_62 rfl rfl rfl (fun h521 => (by exfalso; omega)) (fun h521 => ?_)
            refine X.goto 81 i248_65 rfl rfl ?_
            refine X.cut [] i248_81 rfl ?_
            refine X.iconst 82 i248_81 rfl rfl (by decide) ?_
            refine X.retz i248_82 rfl t248 (by omega) ?_
            exact hQ 0 m503 (by first | trivial | omega) (hJ504.up (by omega)) (fun g => by simp only [km503]) 
          · have h519c : (m503 4 45 (423 + a1)) ≠ (-1) := by omega
            clear h519 hz518
            refine X.iconst 51 i248_50 rfl rfl (by decide) ?_
            refine X.goto 55 i248_51 rfl rfl ?_
            refine X.istore_n 56 [(0, zr g0 44), (1, zi a1), (2, zi a2), (3, zi 1)] i248_55 rfl rfl rfl ?_
            refine X.iload_n 57 i248_56 rfl rfl rfl ?_
            refine X.iconst 58 i248_57 rfl rfl (by decide) ?_
            refine X.icmpne 68 61 i248_58 rfl rfl rfl (fun h522 => (by exfalso; omega)) (fun h522 => ?_)
            refine X.iload_n 62 i248_61 rfl rfl rfl ?_
            refine X.ifne 83 65 i248_62 rfl rfl rfl (fun h523 => ?_) (fun h523 => (by exfalso; omega))
            refine X.cut [(0, zr g0 44), (1, zi a1), (2, zi a2)] i248_83 rfl ?_
            refine X.aload_n 84 i248_83 rfl rfl rfl ?_
            refine X.getF 87 i248_84 rfl rfl (by decide) rfl rfl ?_
            refine X.sipush 90 i248_87 rfl rfl (by decide) ?_
            refine X.iload_n 91 i248_90 rfl rfl rfl ?_
            refine X.iadd 92 i248_91 rfl rfl (by omega) ?_
            refine X.iload_n 93 i248_92 rfl rfl rfl ?_
            refine X.i2l 94 i248_93 rfl rfl ?_
            refine X.last' 95 i248_94 rfl rfl (by decide) rfl (by omega) (fun hrm524 m524 hm524 => ?_)
            have hJ525 := w45_423 hJ504 hm524 (by omega) (by omega)
            have km524 : ∀ g, m524 g 8 9 = m503 g 8 9 := fun g9 => by rw [hm524]; exact z_upd_o _ _ rfl
            refine X.iconst 96 i248_95 rfl rfl (by decide) ?_
            refine X.retz i248_96 rfl t248 (by omega) ?_
            exact hQ 1 m524 (by first | trivial | omega) (hJ525.up (by omega)) (fun g => by simp only [km503, km524]) 
        · refine X.iload_n 25 i248_24 rfl rfl rfl ?_
          refine X.calls 28 [zi a2] [] [(0, zi a2)] i248_25 (by decide) rfl rfl (by omega) rfl rfl t241 (Nat.le_of_ble_eq_true rfl) (Nat.le_of_ble_eq_true rfl) rfl ?_
          refine X.iload_n 1 i241_0 rfl rfl rfl ?_
          refine X.i2l 2 i241_1 rfl rfl ?_
          refine X.lconst (y := 0) 3 i241_2 rfl rfl rfl ?_
          refine X.ldc2 6 i241_3 rfl rfl (by decide) ?_
          refine X.calls 9 [zl a2, zl 0, zl 7] [] [(0, zl a2), (2, zl 0), (4, zl 7)] i241_6 (by decide) rfl rfl (by omega) rfl rfl t204 (Nat.le_of_ble_eq_true rfl) (Nat.le_of_ble_eq_true rfl) rfl ?_
          refine X.lload_n 1 i204_0 rfl rfl rfl ?_
          refine X.lload_n 2 i204_1 rfl rfl rfl ?_
          refine X.lcmp 3 i204_2 rfl rfl (fun z526 hz526 => ?_)
          refine X.iflt 17 6 i204_3 rfl rfl rfl (fun h527 => ?_) (fun h527 => ?_)
          · have h527c : a2 < 0 := by omega
            clear h527 hz526
            refine X.cut [] i204_17 rfl ?_
            refine X.iconst 18 i204_17 rfl rfl (by decide) ?_
            refine X.retz i204_18 rfl t204 (by omega) ?_
            show X (EE s) (d - 1) 241 9 [(0, zi a2)] [zi 0] m503 _
            refine X.retz i241_9 rfl t241 (by omega) ?_
            show X (EE s) d 248 28 [(0, zr g0 44), (1, zi a1), (2, zi a2)] [zi 0] m503 _
            refine X.ifne 33 31 i248_28 rfl rfl rfl (fun h528 => (by exfalso; omega)) (fun h528 => ?_)
            refine X.cut [] i248_31 rfl ?_
            refine X.iconst 32 i248_31 rfl rfl (by decide) ?_
            refine X.retz i248_32 rfl t248 (by omega) ?_
            exact hQ 0 m503 (by first | trivial | omega) (hJ504.up (by omega)) (fun g => by simp only [km503]) 
          · have h527c : a2 ≥ 0 := by omega
            clear h527 hz526
            refine X.lload_n 7 i204_6 rfl rfl rfl ?_
            refine X.lload 9 i204_7 rfl rfl rfl ?_
            refine X.lcmp 10 i204_9 rfl rfl (fun z529 hz529 => ?_)
            refine X.ifgt 17 13 i204_10 rfl rfl rfl (fun h530 => ?_) (fun h530 => ?_)
            · have h530c : a2 > 7 := by omega
              clear h530 hz529
              refine X.cut [] i204_17 rfl ?_
              refine X.iconst 18 i204_17 rfl rfl (by decide) ?_
              refine X.retz i204_18 rfl t204 (by omega) ?_
              show X (EE s) (d - 1) 241 9 [(0, zi a2)] [zi 0] m503 _
              refine X.retz i241_9 rfl t241 (by omega) ?_
              show X (EE s) d 248 28 [(0, zr g0 44), (1, zi a1), (2, zi a2)] [zi 0] m503 _
              refine X.ifne 33 31 i248_28 rfl rfl rfl (fun h531 => (by exfalso; omega)) (fun h531 => ?_)
              refine X.cut [] i248_31 rfl ?_
              refine X.iconst 32 i248_31 rfl rfl (by decide) ?_
              refine X.retz i248_32 rfl t248 (by omega) ?_
              exact hQ 0 m503 (by first | trivial | omega) (hJ504.up (by omega)) (fun g => by simp only [km503]) 
            · have h530c : a2 ≤ 7 := by omega
              clear h530 hz529
              refine X.iconst 14 i204_13 rfl rfl (by decide) ?_
              refine X.goto 18 i204_14 rfl rfl ?_
              refine X.cut [] i204_18 rfl ?_
              refine X.retz i204_18 rfl t204 (by omega) ?_
              show X (EE s) (d - 1) 241 9 [(0, zi a2)] [zi 1] m503 _
              refine X.retz i241_9 rfl t241 (by omega) ?_
              show X (EE s) d 248 28 [(0, zr g0 44), (1, zi a1), (2, zi a2)] [zi 1] m503 _
              refine X.ifne 33 31 i248_28 rfl rfl rfl (fun h532 => ?_) (fun h532 => (by exfalso; omega))
              refine X.aload_n 34 i248_33 rfl rfl rfl ?_
              refine X.getF 37 i248_34 rfl rfl (by decide) rfl rfl ?_
              refine X.sipush 40 i248_37 rfl rfl (by decide) ?_
              refine X.iload_n 41 i248_40 rfl rfl rfl ?_
              refine X.iadd 42 i248_41 rfl rfl (by omega) ?_
              refine X.lald 43 i248_42 rfl rfl (by decide) rfl (by omega) ?_
              have h533 := r45_423 hJ504 4 (i := (423 + a1)) (by omega)
              refine X.ldc2 46 i248_43 rfl rfl (by decide) ?_
              refine X.lcmp 47 i248_46 rfl rfl (fun z534 hz534 => ?_)
              refine X.ifeq 54 50 i248_47 rfl rfl rfl (fun h535 => ?_) (fun h535 => ?_)
              · have h535c : (m503 4 45 (423 + a1)) = (-1) := by omega
                clear h535 hz534
                refine X.iconst 55 i248_54 rfl rfl (by decide) ?_
                refine X.istore_n 56 [(0, zr g0 44), (1, zi a1), (2, zi a2), (3, zi 0)] i248_55 rfl rfl rfl ?_
                refine X.iload_n 57 i248_56 rfl rfl rfl ?_
                refine X.iconst 58 i248_57 rfl rfl (by decide) ?_
                refine X.icmpne 68 61 i248_58 rfl rfl rfl (fun h536 => ?_) (fun h536 => (by exfalso; omega))
                refine X.iload_n 69 i248_68 rfl rfl rfl ?_
                refine X.ifne 83 72 i248_69 rfl rfl rfl (fun h537 => (by exfalso; omega)) (fun h537 => ?_)
                refine X.aload_n 73 i248_72 rfl rfl rfl ?_
                refine X.callv 76 [] [] [(0, zr g0 44)] i248_73 rfl (by decide) rfl rfl (by omega) rfl rfl (by decide) rfl t249 (Nat.le_of_ble_eq_true rfl) (Nat.le_of_ble_eq_true rfl) rfl ?_
                refine c249_1 (B := B) g0  (by omega) (hJ504.up (by omega)) (by omega)  (fun v540 hv540 => ?_)
                show X (EE s) d 248 76 [(0, zr g0 44), (1, zi a1), (2, zi a2), (3, zi 0)] [zi v540] m503 _
                refine X.bipush 78 i248_76 rfl rfl (by decide) ?_
                refine X.icmpne 83 81 i248_78 rfl rfl rfl (fun h541 => ?_) (fun h541 => ?_)
                · refine X.cut [(0, zr g0 44), (1, zi a1), (2, zi a2)] i248_83 rfl ?_
                  refine X.aload_n 84 i248_83 rfl rfl rfl ?_
                  refine X.getF 87 i248_84 rfl rfl (by decide) rfl rfl ?_
                  refine X.sipush 90 i248_87 rfl rfl (by decide) ?_
                  refine X.iload_n 91 i248_90 rfl rfl rfl ?_
                  refine X.iadd 92 i248_91 rfl rfl (by omega) ?_
                  refine X.iload_n 93 i248_92 rfl rfl rfl ?_
                  refine X.i2l 94 i248_93 rfl rfl ?_
                  refine X.last' 95 i248_94 rfl rfl (by decide) rfl (by omega) (fun hrm542 m542 hm542 => ?_)
                  have hJ543 := w45_423 hJ504 hm542 (by omega) (by omega)
                  have km542 : ∀ g, m542 g 8 9 = m503 g 8 9 := fun g9 => by rw [hm542]; exact z_upd_o _ _ rfl
                  refine X.iconst 96 i248_95 rfl rfl (by decide) ?_
                  refine X.retz i248_96 rfl t248 (by omega) ?_
                  exact hQ 1 m542 (by first | trivial | omega) (hJ543.up (by omega)) (fun g => by simp only [km503, km542]) 
                · refine X.cut [] i248_81 rfl ?_
                  refine X.iconst 82 i248_81 rfl rfl (by decide) ?_
                  refine X.retz i248_82 rfl t248 (by omega) ?_
                  exact hQ 0 m503 (by first | trivial | omega) (hJ504.up (by omega)) (fun g => by simp only [km503]) 
              · have h535c : (m503 4 45 (423 + a1)) ≠ (-1) := by omega
                clear h535 hz534
                refine X.iconst 51 i248_50 rfl rfl (by decide) ?_
                refine X.goto 55 i248_51 rfl rfl ?_
                refine X.istore_n 56 [(0, zr g0 44), (1, zi a1), (2, zi a2), (3, zi 1)] i248_55 rfl rfl rfl ?_
                refine X.iload_n 57 i248_56 rfl rfl rfl ?_
                refine X.iconst 58 i248_57 rfl rfl (by decide) ?_
                refine X.icmpne 68 61 i248_58 rfl rfl rfl (fun h544 => ?_) (fun h544 => (by exfalso; omega))
                refine X.iload_n 69 i248_68 rfl rfl rfl ?_
                refine X.ifne 83 72 i248_69 rfl rfl rfl (fun h545 => ?_) (fun h545 => (by exfalso; omega))
                refine X.cut [(0, zr g0 44), (1, zi a1), (2, zi a2)] i248_83 rfl ?_
                refine X.aload_n 84 i248_83 rfl rfl rfl ?_
                refine X.getF 87 i248_84 rfl rfl (by decide) rfl rfl ?_
                refine X.sipush 90 i248_87 rfl rfl (by decide) ?_
                refine X.iload_n 91 i248_90 rfl rfl rfl ?_
                refine X.iadd 92 i248_91 rfl rfl (by omega) ?_
                refine X.iload_n 93 i248_92 rfl rfl rfl ?_
                refine X.i2l 94 i248_93 rfl rfl ?_
                refine X.last' 95 i248_94 rfl rfl (by decide) rfl (by omega) (fun hrm546 m546 hm546 => ?_)
                have hJ547 := w45_423 hJ504 hm546 (by omega) (by omega)
                have km546 : ∀ g, m546 g 8 9 = m503 g 8 9 := fun g9 => by rw [hm546]; exact z_upd_o _ _ rfl
                refine X.iconst 96 i248_95 rfl rfl (by decide) ?_
                refine X.retz i248_96 rfl t248 (by omega) ?_
                exact hQ 1 m546 (by first | trivial | omega) (hJ547.up (by omega)) (fun g => by simp only [km503, km546]) 
  · have h507c : (m503 4 45 1614) = 1 := by omega
    clear h507 hz506
    refine X.iconst 33 i203_32 rfl rfl (by decide) ?_
    refine X.goto 37 i203_33 rfl rfl ?_
    refine X.cut [] i203_37 rfl ?_
    refine X.retz i203_37 rfl t203 (by omega) ?_
    show X (EE s) d 248 4 [(0, zr g0 44), (1, zi a1), (2, zi a2)] [zi 1] m503 _
    refine X.ifne 31 7 i248_4 rfl rfl rfl (fun h548 => ?_) (fun h548 => (by exfalso; omega))
    refine X.cut [] i248_31 rfl ?_
    refine X.iconst 32 i248_31 rfl rfl (by decide) ?_
    refine X.retz i248_32 rfl t248 (by omega) ?_
    exact hQ 0 m503 (by first | trivial | omega) (hJ504.up (by omega)) (fun g => by simp only [km503]) 
-- WorkMeter$Meter.moveClock
theorem c129_1 {s : Nat × (Nat → Int32)} {m0 m : zM} {B : Int} {d : Nat} {Q : Option zV → zM → Prop} (g0 : Nat) (a1 : Int) (hd : 15 ≤ d) (hJ : J m0 B m) (hB : B + 2 ≤ 1000000000) (ha1 : 0 ≤ a1 ∧ a1 ≤ 2000000000) (hQ : ∀ (v : Int) m', (0 ≤ v ∧ v ≤ 2000000000) → J m0 (B + 2) m' → Q (some (zi v)) m') : X (EE s) d 129 0 [(0, zr g0 8), (1, zi a1)] [] m Q := by
  refine X.aload_n 1 i129_0 rfl rfl rfl ?_
  refine X.getI 4 9 i129_1 rfl rfl (by decide) rfl rfl rfl ?_
  have h501 := r8_9 hJ g0
  refine X.istore_n 5 [(0, zr g0 8), (1, zi a1), (2, zi (m g0 8 9))] i129_4 rfl rfl rfl ?_
  refine X.aload_n 6 i129_5 rfl rfl rfl ?_
  refine X.getR 9 i129_6 rfl rfl (by decide) rfl rfl ?_
  refine X.aload_n 10 i129_9 rfl rfl rfl ?_
  refine X.getI 13 9 i129_10 rfl rfl (by decide) rfl rfl rfl ?_
  refine X.aload_n 14 i129_13 rfl rfl rfl ?_
  refine X.getR 17 i129_14 rfl rfl (by decide) rfl rfl ?_
  refine X.callv 20 [] [zi (m g0 8 9), zr g0 27] [(0, zr g0 9)] i129_17 rfl (by decide) rfl rfl (by omega) rfl rfl (by decide) rfl t36 (Nat.le_of_ble_eq_true rfl) (Nat.le_of_ble_eq_true rfl) rfl ?_
  refine X.iconst 1 i36_0 rfl rfl (by decide) ?_
  refine X.aload_n 2 i36_1 rfl rfl rfl ?_
  refine X.getR 5 i36_2 rfl rfl (by decide) rfl rfl ?_
  refine X.iconst 6 i36_5 rfl rfl (by decide) ?_
  refine X.iald 7 i36_6 rfl rfl (by decide) rfl (by omega) ?_
  have h502 := r10_0 hJ g0 (i := 4) (by omega)
  refine X.maxI 10 i36_7 rfl rfl (by omega) (Nat.le_of_ble_eq_true rfl) ?_
  refine X.reti i36_10 rfl t36 ?_
  show X (EE s) d 129 20 [(0, zr g0 8), (1, zi a1), (2, zi (m g0 8 9))] [zi (max 1 (m g0 10 4)), zi (m g0 8 9), zr g0 27] m _
  refine X.bipush 22 i129_20 rfl rfl (by decide) ?_
  refine X.callv 25 [zi (m g0 8 9), zi (max 1 (m g0 10 4)), zi 64] [] [(0, zr g0 27), (1, zi (m g0 8 9)), (2, zi (max 1 (m g0 10 4))), (3, zi 64)] i129_22 rfl (by decide) rfl rfl (by omega) rfl rfl (by decide) rfl t60 (Nat.le_of_ble_eq_true rfl) (Nat.le_of_ble_eq_true rfl) rfl ?_
  refine c60_1 (B := B) g0 (m g0 8 9) (max 1 (m g0 10 4)) 64 (by omega) (hJ.up (by omega)) (by omega) (by omega) (by omega) (by omega) (fun m503 hJ504 km503 => ?_)
  show X (EE s) d 129 25 [(0, zr g0 8), (1, zi a1), (2, zi (m g0 8 9))] [] m503 _
  refine X.aload_n 26 i129_25 rfl rfl rfl ?_
  refine X.iload_n 27 i129_26 rfl rfl rfl ?_
  refine X.putI' 30 9 i129_27 rfl rfl (by decide) rfl rfl rfl (fun hrm506 m506 hm506 => ?_)
  have hJ507 := w8_9 hJ504 hm506 (by omega)
  have em506 : m506 g0 8 9 = a1 := by rw [hm506]; exact z_upd_same _ _ _ _ _
  refine X.aload_n 31 i129_30 rfl rfl rfl ?_
  refine X.getR 34 i129_31 rfl rfl (by decide) rfl rfl ?_
  refine X.iload_n 35 i129_34 rfl rfl rfl ?_
  refine X.putI' 38 9 i129_35 rfl rfl (by decide) rfl rfl rfl (fun hrm508 m508 hm508 => ?_)
  have hJ509 := w27_9 hJ507 hm508 (by omega)
  refine X.aload_n 39 i129_38 rfl rfl rfl ?_
  refine X.bipush 41 i129_39 rfl rfl (by decide) ?_
  refine X.iload_n 42 i129_41 rfl rfl rfl ?_
  refine X.callv 45 [zi 20, zi (m g0 8 9)] [] [(0, zr g0 8), (1, zi 20), (2, zi (m g0 8 9))] i129_42 rfl (by decide) rfl rfl (by omega) rfl rfl (by decide) rfl t54 (Nat.le_of_ble_eq_true rfl) (Nat.le_of_ble_eq_true rfl) rfl ?_
  refine X.aload_n 1 i54_0 rfl rfl rfl ?_
  refine X.getR 4 i54_1 rfl rfl (by decide) rfl rfl ?_
  refine X.aload_n 5 i54_4 rfl rfl rfl ?_
  refine X.getI 8 9 i54_5 rfl rfl (by decide) rfl rfl rfl ?_
  have h510 := r8_9 hJ509 g0
  refine X.iload_n 9 i54_8 rfl rfl rfl ?_
  refine X.iload_n 10 i54_9 rfl rfl rfl ?_
  refine X.callv 13 [zi (m508 g0 8 9), zi 20, zi (m g0 8 9)] [] [(0, zr g0 37), (1, zi (m508 g0 8 9)), (2, zi 20), (3, zi (m g0 8 9))] i54_10 rfl (by decide) rfl rfl (by omega) rfl rfl (by decide) rfl t55 (Nat.le_of_ble_eq_true rfl) (Nat.le_of_ble_eq_true rfl) rfl ?_
  refine X.aload_n 1 i55_0 rfl rfl rfl ?_
  refine X.getI 4 1 i55_1 rfl rfl (by decide) rfl rfl rfl ?_
  have h511 := r37_1 hJ509 g0
  refine X.bipush 6 i55_4 rfl rfl (by decide) ?_
  refine X.irem 7 i55_6 rfl rfl (by omega) ?_
  refine X.iconst 8 i55_7 rfl rfl (by decide) ?_
  refine X.imul 9 i55_8 rfl rfl (by omega) ?_
  refine X.istore 11 [(0, zr g0 37), (1, zi (m508 g0 8 9)), (2, zi 20), (3, zi (m g0 8 9)), (4, zi (((m508 g0 37 1) % 40) * 3))] i55_9 rfl rfl rfl ?_
  refine X.aload_n 12 i55_11 rfl rfl rfl ?_
  refine X.getR 15 i55_12 rfl rfl (by decide) rfl rfl ?_
  refine X.iload 17 i55_15 rfl rfl rfl ?_
  refine X.iload_n 18 i55_17 rfl rfl rfl ?_
  refine X.iast' 19 i55_18 rfl rfl (by decide) rfl (by omega) (fun hrm512 m512 hm512 => ?_)
  have hJ513 := w38_0 hJ509 hm512 (by omega) hrm512
  refine X.aload_n 20 i55_19 rfl rfl rfl ?_
  refine X.getR 23 i55_20 rfl rfl (by decide) rfl rfl ?_
  refine X.iload 25 i55_23 rfl rfl rfl ?_
  refine X.iconst 26 i55_25 rfl rfl (by decide) ?_
  refine X.iadd 27 i55_26 rfl rfl (by omega) ?_
  refine X.iload_n 28 i55_27 rfl rfl rfl ?_
  refine X.iast' 29 i55_28 rfl rfl (by decide) rfl (by omega) (fun hrm514 m514 hm514 => ?_)
  have hJ515 := w38_0 hJ513 hm514 (by omega) hrm514
  refine X.aload_n 30 i55_29 rfl rfl rfl ?_
  refine X.getR 33 i55_30 rfl rfl (by decide) rfl rfl ?_
  refine X.iload 35 i55_33 rfl rfl rfl ?_
  refine X.iconst 36 i55_35 rfl rfl (by decide) ?_
  refine X.iadd 37 i55_36 rfl rfl (by omega) ?_
  refine X.iload_n 38 i55_37 rfl rfl rfl ?_
  refine X.iast' 39 i55_38 rfl rfl (by decide) rfl (by omega) (fun hrm516 m516 hm516 => ?_)
  have hJ517 := w38_0 hJ515 hm516 (by omega) hrm516
  refine X.aload_n 40 i55_39 rfl rfl rfl ?_
  refine X.dup 41 i55_40 rfl rfl rfl ?_
  refine X.getI 44 1 i55_41 rfl rfl (by decide) rfl rfl rfl ?_
  have h518 := r37_1 hJ517 g0
  refine X.iconst 45 i55_44 rfl rfl (by decide) ?_
  refine X.iadd 46 i55_45 rfl rfl (by omega) ?_
  refine X.putI' 49 1 i55_46 rfl rfl (by decide) rfl rfl rfl (fun hrm519 m519 hm519 => ?_)
  have hJ520 := w37_1 (hJ517.up (B' := B + 2) (by omega)) hm519 (by omega)
  refine X.retv i55_49 rfl t55 ?_
  show X (EE s) (d - 1) 54 13 [(0, zr g0 8), (1, zi 20), (2, zi (m g0 8 9))] [] m519 _
  refine X.retv i54_13 rfl t54 ?_
  show X (EE s) d 129 45 [(0, zr g0 8), (1, zi a1), (2, zi (m g0 8 9))] [] m519 _
  refine X.iload_n 46 i129_45 rfl rfl rfl ?_
  refine X.reti i129_46 rfl t129 ?_
  exact hQ (m g0 8 9) m519 (by first | trivial | omega) (hJ520.up (by omega))  
-- WorkMeter.move
theorem c127_1 {s : Nat × (Nat → Int32)} {m0 m : zM} {B : Int} {d : Nat} {Q : Option zV → zM → Prop} (g0 : Nat) (a1 : Int) (hd : 16 ≤ d) (hJ : J m0 B m) (hB : B + 2 ≤ 1000000000) (ha1 : (-2147483648) ≤ a1 ∧ a1 ≤ 2147483647) (hQ : ∀ (v : Int) m', ((-1) ≤ v ∧ v ≤ 2000000000) → J m0 (B + 2) m' → Q (some (zi v)) m') : X (EE s) d 127 0 [(0, zr g0 40), (1, zi a1)] [] m Q := by
  refine X.aload_n 1 i127_0 rfl rfl rfl ?_
  refine X.getF 4 i127_1 rfl rfl (by decide) rfl rfl ?_
  refine X.getR 7 i127_4 rfl rfl (by decide) rfl rfl ?_
  refine X.callv 10 [] [] [(0, zr 0 39)] i127_7 rfl (by decide) rfl rfl (by omega) rfl rfl (by decide) rfl t17 (Nat.le_of_ble_eq_true rfl) (Nat.le_of_ble_eq_true rfl) rfl ?_
  refine X.aload_n 1 i17_0 rfl rfl rfl ?_
  refine X.getZ 4 0 i17_1 rfl rfl (by decide) rfl rfl rfl (fun h501 => ?_)
  refine X.ifeq 17 7 i17_4 rfl rfl rfl (fun h502 => ?_) (fun h502 => ?_)
  · refine X.aload_n 18 i17_17 rfl rfl rfl ?_
    refine X.getZ 21 0 i17_18 rfl rfl (by decide) rfl rfl rfl (fun h503 => ?_)
    refine X.retz i17_21 rfl t17 (by omega) ?_
    show X (EE s) d 127 10 [(0, zr g0 40), (1, zi a1)] [zi (m 0 39 0)] m _
    refine X.ifne 20 13 i127_10 rfl rfl rfl (fun h504 => ?_) (fun h504 => ?_)
    · refine X.cut [] i127_20 rfl ?_
      refine X.iconst 21 i127_20 rfl rfl (by decide) ?_
      refine X.reti i127_21 rfl t127 ?_
      exact hQ (-1) m (by first | trivial | omega) (hJ.up (by omega))  
    · refine X.iload_n 14 i127_13 rfl rfl rfl ?_
      refine X.calls 17 [zi a1] [] [(0, zi a1)] i127_14 (by decide) rfl rfl (by omega) rfl rfl t128 (Nat.le_of_ble_eq_true rfl) (Nat.le_of_ble_eq_true rfl) rfl ?_
      refine X.iload_n 1 i128_0 rfl rfl rfl ?_
      refine X.iflt 14 4 i128_1 rfl rfl rfl (fun h505 => ?_) (fun h505 => ?_)
      · refine X.cut [] i128_14 rfl ?_
        refine X.iconst 15 i128_14 rfl rfl (by decide) ?_
        refine X.retz i128_15 rfl t128 (by omega) ?_
        show X (EE s) d 127 17 [(0, zr g0 40), (1, zi a1)] [zi 0] m _
        refine X.ifne 22 20 i127_17 rfl rfl rfl (fun h506 => (by exfalso; omega)) (fun h506 => ?_)
        refine X.cut [] i127_20 rfl ?_
        refine X.iconst 21 i127_20 rfl rfl (by decide) ?_
        refine X.reti i127_21 rfl t127 ?_
        exact hQ (-1) m (by first | trivial | omega) (hJ.up (by omega))  
      · refine X.iload_n 5 i128_4 rfl rfl rfl ?_
        refine X.ldc 7 i128_5 rfl rfl (by decide) ?_
        refine X.icmpgt 14 10 i128_7 rfl rfl rfl (fun h507 => ?_) (fun h507 => ?_)
        · refine X.cut [] i128_14 rfl ?_
          refine X.iconst 15 i128_14 rfl rfl (by decide) ?_
          refine X.retz i128_15 rfl t128 (by omega) ?_
          show X (EE s) d 127 17 [(0, zr g0 40), (1, zi a1)] [zi 0] m _
          refine X.ifne 22 20 i127_17 rfl rfl rfl (fun h508 => (by exfalso; omega)) (fun h508 => ?_)
          refine X.cut [] i127_20 rfl ?_
          refine X.iconst 21 i127_20 rfl rfl (by decide) ?_
          refine X.reti i127_21 rfl t127 ?_
          exact hQ (-1) m (by first | trivial | omega) (hJ.up (by omega))  
        · refine X.iconst 11 i128_10 rfl rfl (by decide) ?_
          refine X.goto 15 i128_11 rfl rfl ?_
          refine X.cut [] i128_15 rfl ?_
          refine X.retz i128_15 rfl t128 (by omega) ?_
          show X (EE s) d 127 17 [(0, zr g0 40), (1, zi a1)] [zi 1] m _
          refine X.ifne 22 20 i127_17 rfl rfl rfl (fun h509 => ?_) (fun h509 => (by exfalso; omega))
          refine X.aload_n 23 i127_22 rfl rfl rfl ?_
          refine X.getF 26 i127_23 rfl rfl (by decide) rfl rfl ?_
          refine X.iload_n 27 i127_26 rfl rfl rfl ?_
          refine X.callv 30 [zi a1] [] [(0, zr 0 8), (1, zi a1)] i127_27 rfl (by decide) rfl rfl (by omega) rfl rfl (by decide) rfl t129 (Nat.le_of_ble_eq_true rfl) (Nat.le_of_ble_eq_true rfl) rfl ?_
          refine c129_1 (B := B) 0 a1 (by omega) (hJ.up (by omega)) (by omega) (by omega) (fun v512 m510 hv512 hJ511 => ?_)
          show X (EE s) d 127 30 [(0, zr g0 40), (1, zi a1)] [zi v512] m510 _
          refine X.reti i127_30 rfl t127 ?_
          exact hQ v512 m510 (by first | trivial | omega) (hJ511.up (by omega))  
  · refine X.aload_n 8 i17_7 rfl rfl rfl ?_
    refine X.dup 9 i17_8 rfl rfl rfl ?_
    refine X.getIr 12 3 i17_9 rfl rfl (by decide) rfl rfl rfl (fun h513 => ?_)
    refine X.iconst 13 i17_12 rfl rfl (by decide) ?_
    refine X.iiF 14 .iadd (fun x y => x + y) i17_13 rfl rfl rfl (fun _ _ => rfl) (fun z514 hz514 => ?_)
    refine X.putI' 17 3 i17_14 rfl rfl (by decide) rfl rfl rfl (fun hrm515 m515 hm515 => ?_)
    have hJ516 := w39_1 hJ hm515 (by omega) hrm515
    refine X.aload_n 18 i17_17 rfl rfl rfl ?_
    refine X.getZ 21 0 i17_18 rfl rfl (by decide) rfl rfl rfl (fun h517 => ?_)
    refine X.retz i17_21 rfl t17 (by omega) ?_
    show X (EE s) d 127 10 [(0, zr g0 40), (1, zi a1)] [zi (m515 0 39 0)] m515 _
    refine X.ifne 20 13 i127_10 rfl rfl rfl (fun h518 => ?_) (fun h518 => ?_)
    · refine X.cut [] i127_20 rfl ?_
      refine X.iconst 21 i127_20 rfl rfl (by decide) ?_
      refine X.reti i127_21 rfl t127 ?_
      exact hQ (-1) m515 (by first | trivial | omega) (hJ516.up (by omega))  
    · refine X.iload_n 14 i127_13 rfl rfl rfl ?_
      refine X.calls 17 [zi a1] [] [(0, zi a1)] i127_14 (by decide) rfl rfl (by omega) rfl rfl t128 (Nat.le_of_ble_eq_true rfl) (Nat.le_of_ble_eq_true rfl) rfl ?_
      refine X.iload_n 1 i128_0 rfl rfl rfl ?_
      refine X.iflt 14 4 i128_1 rfl rfl rfl (fun h519 => ?_) (fun h519 => ?_)
      · refine X.cut [] i128_14 rfl ?_
        refine X.iconst 15 i128_14 rfl rfl (by decide) ?_
        refine X.retz i128_15 rfl t128 (by omega) ?_
        show X (EE s) d 127 17 [(0, zr g0 40), (1, zi a1)] [zi 0] m515 _
        refine X.ifne 22 20 i127_17 rfl rfl rfl (fun h520 => (by exfalso; omega)) (fun h520 => ?_)
        refine X.cut [] i127_20 rfl ?_
        refine X.iconst 21 i127_20 rfl rfl (by decide) ?_
        refine X.reti i127_21 rfl t127 ?_
        exact hQ (-1) m515 (by first | trivial | omega) (hJ516.up (by omega))  
      · refine X.iload_n 5 i128_4 rfl rfl rfl ?_
        refine X.ldc 7 i128_5 rfl rfl (by decide) ?_
        refine X.icmpgt 14 10 i128_7 rfl rfl rfl (fun h521 => ?_) (fun h521 => ?_)
        · refine X.cut [] i128_14 rfl ?_
          refine X.iconst 15 i128_14 rfl rfl (by decide) ?_
          refine X.retz i128_15 rfl t128 (by omega) ?_
          show X (EE s) d 127 17 [(0, zr g0 40), (1, zi a1)] [zi 0] m515 _
          refine X.ifne 22 20 i127_17 rfl rfl rfl (fun h522 => (by exfalso; omega)) (fun h522 => ?_)
          refine X.cut [] i127_20 rfl ?_
          refine X.iconst 21 i127_20 rfl rfl (by decide) ?_
          refine X.reti i127_21 rfl t127 ?_
          exact hQ (-1) m515 (by first | trivial | omega) (hJ516.up (by omega))  
        · refine X.iconst 11 i128_10 rfl rfl (by decide) ?_
          refine X.goto 15 i128_11 rfl rfl ?_
          refine X.cut [] i128_15 rfl ?_
          refine X.retz i128_15 rfl t128 (by omega) ?_
          show X (EE s) d 127 17 [(0, zr g0 40), (1, zi a1)] [zi 1] m515 _
          refine X.ifne 22 20 i127_17 rfl rfl rfl (fun h523 => ?_) (fun h523 => (by exfalso; omega))
          refine X.aload_n 23 i127_22 rfl rfl rfl ?_
          refine X.getF 26 i127_23 rfl rfl (by decide) rfl rfl ?_
          refine X.iload_n 27 i127_26 rfl rfl rfl ?_
          refine X.callv 30 [zi a1] [] [(0, zr 0 8), (1, zi a1)] i127_27 rfl (by decide) rfl rfl (by omega) rfl rfl (by decide) rfl t129 (Nat.le_of_ble_eq_true rfl) (Nat.le_of_ble_eq_true rfl) rfl ?_
          refine c129_1 (B := B) 0 a1 (by omega) (hJ516.up (by omega)) (by omega) (by omega) (fun v526 m524 hv526 hJ525 => ?_)
          show X (EE s) d 127 30 [(0, zr g0 40), (1, zi a1)] [zi v526] m524 _
          refine X.reti i127_30 rfl t127 ?_
          exact hQ v526 m524 (by first | trivial | omega) (hJ525.up (by omega))  
-- WorkMeterModel.move
theorem c281_1 {s : Nat × (Nat → Int32)} {m0 m : zM} {B : Int} {d : Nat} {Q : Option zV → zM → Prop} (g0 : Nat) (a1 : Int) (hd : 18 ≤ d) (hJ : J m0 B m) (hB : B + 2 ≤ 1000000000) (ha1 : (-2147483648) ≤ a1 ∧ a1 ≤ 2147483647) (hQ : ∀ (v : Int) m', ((-1) ≤ v ∧ v ≤ 2000000000) → J m0 (B + 2) m' → (∀ g, m' g 8 9 = m g 8 9) → Q (some (zi v)) m') : X (EE s) d 281 0 [(0, zr g0 44), (1, zi a1)] [] m Q := by
  refine X.aload_n 1 i281_0 rfl rfl rfl ?_
  refine X.callv 4 [] [] [(0, zr g0 44)] i281_1 rfl (by decide) rfl rfl (by omega) rfl rfl (by decide) rfl t203 (Nat.le_of_ble_eq_true rfl) (Nat.le_of_ble_eq_true rfl) rfl ?_
  refine X.aload_n 1 i203_0 rfl rfl rfl ?_
  refine X.getF 4 i203_1 rfl rfl (by decide) rfl rfl ?_
  refine X.sipush 7 i203_4 rfl rfl (by decide) ?_
  refine X.dup2 8 i203_7 rfl rfl ?_
  refine X.lald 9 i203_8 rfl rfl (by decide) rfl (by omega) ?_
  refine X.aload_n 10 i203_9 rfl rfl rfl ?_
  refine X.getF 13 i203_10 rfl rfl (by decide) rfl rfl ?_
  refine X.sipush 16 i203_13 rfl rfl (by decide) ?_
  refine X.lald 17 i203_16 rfl rfl (by decide) rfl (by omega) ?_
  have h501 := r45_1614 hJ 4
  refine X.llF 18 .ladd (fun x y => x + y) i203_17 rfl rfl rfl (fun _ _ => rfl) (fun z502 hz502 => ?_)
  refine X.last' 19 i203_18 rfl rfl (by decide) rfl (by omega) (fun hrm503 m503 hm503 => ?_)
  have hJ504 := w45_1615 hJ hm503 (by omega) hrm503
  have km503 : ∀ g, m503 g 8 9 = m g 8 9 := fun g9 => by rw [hm503]; exact z_upd_o _ _ rfl
  refine X.aload_n 20 i203_19 rfl rfl rfl ?_
  refine X.getF 23 i203_20 rfl rfl (by decide) rfl rfl ?_
  refine X.sipush 26 i203_23 rfl rfl (by decide) ?_
  refine X.lald 27 i203_26 rfl rfl (by decide) rfl (by omega) ?_
  have h505 := r45_1614 hJ504 4
  refine X.lconst (y := 1) 28 i203_27 rfl rfl rfl ?_
  refine X.lcmp 29 i203_28 rfl rfl (fun z506 hz506 => ?_)
  refine X.ifne 36 32 i203_29 rfl rfl rfl (fun h507 => ?_) (fun h507 => ?_)
  · have h507c : (m503 4 45 1614) ≠ 1 := by omega
    clear h507 hz506
    refine X.cut [] i203_36 rfl ?_
    refine X.iconst 37 i203_36 rfl rfl (by decide) ?_
    refine X.retz i203_37 rfl t203 (by omega) ?_
    show X (EE s) d 281 4 [(0, zr g0 44), (1, zi a1)] [zi 0] m503 _
    refine X.ifne 19 7 i281_4 rfl rfl rfl (fun h508 => (by exfalso; omega)) (fun h508 => ?_)
    refine X.iload_n 8 i281_7 rfl rfl rfl ?_
    refine X.i2l 9 i281_8 rfl rfl ?_
    refine X.lconst (y := 0) 10 i281_9 rfl rfl rfl ?_
    refine X.ldc2 13 i281_10 rfl rfl (by decide) ?_
    refine X.calls 16 [zl a1, zl 0, zl 2000000000] [] [(0, zl a1), (2, zl 0), (4, zl 2000000000)] i281_13 (by decide) rfl rfl (by omega) rfl rfl t204 (Nat.le_of_ble_eq_true rfl) (Nat.le_of_ble_eq_true rfl) rfl ?_
    refine X.lload_n 1 i204_0 rfl rfl rfl ?_
    refine X.lload_n 2 i204_1 rfl rfl rfl ?_
    refine X.lcmp 3 i204_2 rfl rfl (fun z509 hz509 => ?_)
    refine X.iflt 17 6 i204_3 rfl rfl rfl (fun h510 => ?_) (fun h510 => ?_)
    · have h510c : a1 < 0 := by omega
      clear h510 hz509
      refine X.cut [] i204_17 rfl ?_
      refine X.iconst 18 i204_17 rfl rfl (by decide) ?_
      refine X.retz i204_18 rfl t204 (by omega) ?_
      show X (EE s) d 281 16 [(0, zr g0 44), (1, zi a1)] [zi 0] m503 _
      refine X.ifne 21 19 i281_16 rfl rfl rfl (fun h511 => (by exfalso; omega)) (fun h511 => ?_)
      refine X.cut [] i281_19 rfl ?_
      refine X.iconst 20 i281_19 rfl rfl (by decide) ?_
      refine X.reti i281_20 rfl t281 ?_
      exact hQ (-1) m503 (by first | trivial | omega) (hJ504.up (by omega)) (fun g => by simp only [km503]) 
    · have h510c : a1 ≥ 0 := by omega
      clear h510 hz509
      refine X.lload_n 7 i204_6 rfl rfl rfl ?_
      refine X.lload 9 i204_7 rfl rfl rfl ?_
      refine X.lcmp 10 i204_9 rfl rfl (fun z512 hz512 => ?_)
      refine X.ifgt 17 13 i204_10 rfl rfl rfl (fun h513 => ?_) (fun h513 => ?_)
      · have h513c : a1 > 2000000000 := by omega
        clear h513 hz512
        refine X.cut [] i204_17 rfl ?_
        refine X.iconst 18 i204_17 rfl rfl (by decide) ?_
        refine X.retz i204_18 rfl t204 (by omega) ?_
        show X (EE s) d 281 16 [(0, zr g0 44), (1, zi a1)] [zi 0] m503 _
        refine X.ifne 21 19 i281_16 rfl rfl rfl (fun h514 => (by exfalso; omega)) (fun h514 => ?_)
        refine X.cut [] i281_19 rfl ?_
        refine X.iconst 20 i281_19 rfl rfl (by decide) ?_
        refine X.reti i281_20 rfl t281 ?_
        exact hQ (-1) m503 (by first | trivial | omega) (hJ504.up (by omega)) (fun g => by simp only [km503]) 
      · have h513c : a1 ≤ 2000000000 := by omega
        clear h513 hz512
        refine X.iconst 14 i204_13 rfl rfl (by decide) ?_
        refine X.goto 18 i204_14 rfl rfl ?_
        refine X.cut [] i204_18 rfl ?_
        refine X.retz i204_18 rfl t204 (by omega) ?_
        show X (EE s) d 281 16 [(0, zr g0 44), (1, zi a1)] [zi 1] m503 _
        refine X.ifne 21 19 i281_16 rfl rfl rfl (fun h515 => ?_) (fun h515 => (by exfalso; omega))
        refine X.aload_n 22 i281_21 rfl rfl rfl ?_
        refine X.getF 25 i281_22 rfl rfl (by decide) rfl rfl ?_
        refine X.iconst 26 i281_25 rfl rfl (by decide) ?_
        refine X.lald 27 i281_26 rfl rfl (by decide) rfl (by omega) ?_
        have h516 := r45_0 hJ504 4
        refine X.l2i 28 i281_27 rfl rfl (by omega) ?_
        refine X.istore_n 29 [(0, zr g0 44), (1, zi a1), (2, zi (m503 4 45 0))] i281_28 rfl rfl rfl ?_
        refine X.aload_n 30 i281_29 rfl rfl rfl ?_
        refine X.ldc2 33 i281_30 rfl rfl (by decide) ?_
        refine X.callv 36 [zl 64] [] [(0, zr g0 44), (1, zl 64)] i281_33 rfl (by decide) rfl rfl (by omega) rfl rfl (by decide) rfl t232 (Nat.le_of_ble_eq_true rfl) (Nat.le_of_ble_eq_true rfl) rfl ?_
        refine c232_1 (B := B) g0 64 (by omega) (hJ504.up (by omega)) (by omega) (by omega) (fun m517 hJ518 km517 => ?_)
        show X (EE s) d 281 36 [(0, zr g0 44), (1, zi a1), (2, zi (m503 4 45 0))] [] m517 _
        refine X.aload_n 37 i281_36 rfl rfl rfl ?_
        refine X.getF 40 i281_37 rfl rfl (by decide) rfl rfl ?_
        refine X.iconst 41 i281_40 rfl rfl (by decide) ?_
        refine X.iload_n 42 i281_41 rfl rfl rfl ?_
        refine X.i2l 43 i281_42 rfl rfl ?_
        refine X.last' 44 i281_43 rfl rfl (by decide) rfl (by omega) (fun hrm520 m520 hm520 => ?_)
        have hJ521 := w45_0 hJ518 hm520 (by omega)
        have km520 : ∀ g, m520 g 8 9 = m517 g 8 9 := fun g9 => by rw [hm520]; exact z_upd_o _ _ rfl
        refine X.aload_n 45 i281_44 rfl rfl rfl ?_
        refine X.callv 48 [] [] [(0, zr g0 44)] i281_45 rfl (by decide) rfl rfl (by omega) rfl rfl (by decide) rfl t233 (Nat.le_of_ble_eq_true rfl) (Nat.le_of_ble_eq_true rfl) rfl ?_
        refine c233_1 (B := B + 1) g0  (by omega) (hJ521.up (by omega)) (by omega)  (fun m522 hJ523 km522 => ?_)
        show X (EE s) d 281 48 [(0, zr g0 44), (1, zi a1), (2, zi (m503 4 45 0))] [] m522 _
        refine X.aload_n 49 i281_48 rfl rfl rfl ?_
        refine X.bipush 51 i281_49 rfl rfl (by decide) ?_
        refine X.iload_n 52 i281_51 rfl rfl rfl ?_
        refine X.i2l 53 i281_52 rfl rfl ?_
        refine X.callv 56 [zi 20, zl (m503 4 45 0)] [] [(0, zr g0 44), (1, zi 20), (2, zl (m503 4 45 0))] i281_53 rfl (by decide) rfl rfl (by omega) rfl rfl (by decide) rfl t223 (Nat.le_of_ble_eq_true rfl) (Nat.le_of_ble_eq_true rfl) rfl ?_
        refine c223_2 (B := B + 1) g0 20 (m503 4 45 0) (by omega) (hJ523.up (by omega)) (by omega) (by omega) (fun m525 hJ526 km525 => ?_)
        show X (EE s) d 281 56 [(0, zr g0 44), (1, zi a1), (2, zi (m503 4 45 0))] [] m525 _
        refine X.iload_n 57 i281_56 rfl rfl rfl ?_
        refine X.reti i281_57 rfl t281 ?_
        exact hQ (m503 4 45 0) m525 (by first | trivial | omega) (hJ526.up (by omega)) (fun g => by simp only [km503, km517, km520, km522, km525]) 
  · have h507c : (m503 4 45 1614) = 1 := by omega
    clear h507 hz506
    refine X.iconst 33 i203_32 rfl rfl (by decide) ?_
    refine X.goto 37 i203_33 rfl rfl ?_
    refine X.cut [] i203_37 rfl ?_
    refine X.retz i203_37 rfl t203 (by omega) ?_
    show X (EE s) d 281 4 [(0, zr g0 44), (1, zi a1)] [zi 1] m503 _
    refine X.ifne 19 7 i281_4 rfl rfl rfl (fun h528 => ?_) (fun h528 => (by exfalso; omega))
    refine X.cut [] i281_19 rfl ?_
    refine X.iconst 20 i281_19 rfl rfl (by decide) ?_
    refine X.reti i281_20 rfl t281 ?_
    exact hQ (-1) m503 (by first | trivial | omega) (hJ504.up (by omega)) (fun g => by simp only [km503]) 
theorem l132_2_1 {s : Nat × (Nat → Int32)} {m0 : zM} {d : Nat} {Q : Option zV → zM → Prop} (g0 g1 : Nat) (y2 : Int) (T9 : Nat → Int) (BE : Int) (hE : BE ≤ 1000000000) (hd : 14 ≤ d) (hy2 : 0 ≤ y2 ∧ y2 ≤ 2000000000)
    (K36 : ∀ (m' : zM) (B' : Int), J m0 B' m' → B' ≤ BE → (∀ g, m' g 8 9 = T9 g) → X (EE s) d 132 36 [] [] m' Q) :
    ∀ (n : Nat) (y3 : Int) (m : zM) (B : Int), J m0 B m → B + 1 * (n : Int) ≤ BE → (∀ g, m g 8 9 = T9 g) → (2 ≤ y3 ∧ y3 ≤ 5) → 5 - y3 < (n : Int) → X (EE s) d 132 2 [(0, zr g0 33), (1, zr g1 37), (2, zi y2), (3, zi y3)] [] m Q := by
  intro n
  induction n with
  | zero =>
    intro y3 m B hJ hB hT hy3 hn
    exfalso
    omega
  | succ n ih =>
    intro y3 m B hJ hB hT hy3 hn
    refine X.iload_n 3 i132_2 rfl rfl rfl ?_
    refine X.iconst 4 i132_3 rfl rfl (by decide) ?_
    refine X.icmpge 36 7 i132_4 rfl rfl rfl (fun h513 => ?_) (fun h513 => ?_)
    · refine X.cut [] i132_36 rfl ?_
      exact K36  m (B) (hJ.up (by omega)) (by omega) (fun g => by simp only [hT]) 
    · refine X.aload_n 8 i132_7 rfl rfl rfl ?_
      refine X.getR 11 i132_8 rfl rfl (by decide) rfl rfl ?_
      refine X.iload_n 12 i132_11 rfl rfl rfl ?_
      refine X.iconst 13 i132_12 rfl rfl (by decide) ?_
      refine X.iast' 14 i132_13 rfl rfl (by decide) rfl (by omega) (fun hrm514 m514 hm514 => ?_)
      have hJ515 := w36_0 hJ hm514 (by omega) hrm514
      have km514 : ∀ g, m514 g 8 9 = m g 8 9 := fun g9 => by rw [hm514]; exact z_upd_o _ _ rfl
      refine X.aload_n 15 i132_14 rfl rfl rfl ?_
      refine X.iload_n 16 i132_15 rfl rfl rfl ?_
      refine X.callv 19 [zi y3] [] [(0, zr g0 33), (1, zi y3)] i132_16 rfl (by decide) rfl rfl (by omega) rfl rfl (by decide) rfl t40 (Nat.le_of_ble_eq_true rfl) (Nat.le_of_ble_eq_true rfl) rfl ?_
      refine X.aload_n 1 i40_0 rfl rfl rfl ?_
      refine X.getIr 4 3 i40_1 rfl rfl (by decide) rfl rfl rfl (fun h516 => ?_)
      refine X.iload_n 5 i40_4 rfl rfl rfl ?_
      refine X.iiF 6 .ishr (fun x y => x >>> (y &&& 31)) i40_5 rfl rfl rfl (fun _ _ => rfl) (fun z517 hz517 => ?_)
      refine X.iconst 7 i40_6 rfl rfl (by decide) ?_
      refine X.andF 8 1 i40_7 rfl rfl (by decide) (.inl rfl) (fun z518 hz518 => ?_)
      refine X.iconst 9 i40_8 rfl rfl (by decide) ?_
      refine X.icmpne 16 12 i40_9 rfl rfl rfl (fun h519 => ?_) (fun h519 => ?_)
      · refine X.cut [] i40_16 rfl ?_
        refine X.iconst 17 i40_16 rfl rfl (by decide) ?_
        refine X.retz i40_17 rfl t40 (by omega) ?_
        show X (EE s) d 132 19 [(0, zr g0 33), (1, zr g1 37), (2, zi y2), (3, zi y3)] [zi 0] m514 _
        refine X.ifeq 30 22 i132_19 rfl rfl rfl (fun h520 => ?_) (fun h520 => (by exfalso; omega))
        refine X.iinc 33 [(0, zr g0 33), (1, zr g1 37), (2, zi y2), (3, zi (y3 + 1))] i132_30 rfl rfl rfl (by omega) rfl ?_
        refine X.goto 2 i132_33 rfl rfl ?_
        exact ih (y3 + 1) m514 (B) (hJ515.up (by omega)) (by omega) (fun g => by simp only [km514, hT]) (by omega) (by omega)
      · refine X.iconst 13 i40_12 rfl rfl (by decide) ?_
        refine X.goto 17 i40_13 rfl rfl ?_
        refine X.cut [] i40_17 rfl ?_
        refine X.retz i40_17 rfl t40 (by omega) ?_
        show X (EE s) d 132 19 [(0, zr g0 33), (1, zr g1 37), (2, zi y2), (3, zi y3)] [zi 1] m514 _
        refine X.ifeq 30 22 i132_19 rfl rfl rfl (fun h521 => (by exfalso; omega)) (fun h521 => ?_)
        refine X.aload_n 23 i132_22 rfl rfl rfl ?_
        refine X.iload_n 24 i132_23 rfl rfl rfl ?_
        refine X.iconst 25 i132_24 rfl rfl (by decide) ?_
        refine X.aload_n 26 i132_25 rfl rfl rfl ?_
        refine X.iload_n 27 i132_26 rfl rfl rfl ?_
        refine X.callv 30 [zi y3, zi 0, zr g1 37, zi y2] [] [(0, zr g0 33), (1, zi y3), (2, zi 0), (3, zr g1 37), (4, zi y2)] i132_27 rfl (by decide) rfl rfl (by omega) rfl rfl (by decide) rfl t57 (Nat.le_of_ble_eq_true rfl) (Nat.le_of_ble_eq_true rfl) rfl ?_
        refine c57_2 (B := B) g0 g1 y3 0 y2 (by omega) (hJ515.up (by omega)) (by omega) (by omega) (by omega) (by omega) (fun m522 hJ523 km522 => ?_)
        show X (EE s) d 132 30 [(0, zr g0 33), (1, zr g1 37), (2, zi y2), (3, zi y3)] [] m522 _
        refine X.iinc 33 [(0, zr g0 33), (1, zr g1 37), (2, zi y2), (3, zi (y3 + 1))] i132_30 rfl rfl rfl (by omega) rfl ?_
        refine X.goto 2 i132_33 rfl rfl ?_
        exact ih (y3 + 1) m522 (B + 1) (hJ523.up (by omega)) (by omega) (fun g => by simp only [km514, km522, hT]) (by omega) (by omega)
-- WorkMeter$Marks.beginAnew
theorem c132_1 {s : Nat × (Nat → Int32)} {m0 m : zM} {B : Int} {d : Nat} {Q : Option zV → zM → Prop} (g0 g1 : Nat) (a2 : Int) (hd : 14 ≤ d) (hJ : J m0 B m) (hB : B + 4 ≤ 1000000000) (ha2 : 0 ≤ a2 ∧ a2 ≤ 2000000000) (hQ : ∀ m', J m0 (B + 4) m' → (∀ g, m' g 8 9 = m g 8 9) → Q none m') : X (EE s) d 132 0 [(0, zr g0 33), (1, zr g1 37), (2, zi a2)] [] m Q := by
  refine X.iconst 1 i132_0 rfl rfl (by decide) ?_
  refine X.istore_n 2 [(0, zr g0 33), (1, zr g1 37), (2, zi a2), (3, zi 2)] i132_1 rfl rfl rfl ?_
  refine l132_2_1 (s := s) (m0 := m0) (d := d) g0 g1 a2 (fun g => m g 8 9) (BE := B + 4) (by omega) (by omega) (by omega) (fun  m501 B502 hJ503 hBB502 hkm501 => ?_) ((5 - 2 : Int).toNat + 1) 2 m (B) (hJ.up (by omega)) (by omega) (fun g => rfl) (by omega) (by omega)
  refine X.retv i132_36 rfl t132 ?_
  exact hQ  m501  (hJ503.up (by omega)) (fun g => by simp only [hkm501]) 
-- WorkMeter$Calendar.tableFor
theorem c28_2 {s : Nat × (Nat → Int32)} {m0 m : zM} {B : Int} {d : Nat} {Q : Option zV → zM → Prop} (g0 : Nat) (a1 : Int) (hd : 14 ≤ d) (hJ : J m0 B m) (hB : B + 0 ≤ 1000000000) (ha1 : 0 ≤ a1 ∧ a1 ≤ 23150) (hQ : ∀ (v : Int), (0 ≤ v ∧ v ≤ 7) → Q (some (zi v)) m) : X (EE s) d 28 0 [(0, zr g0 11), (1, zi a1)] [] m Q := by
  refine X.aload_n 1 i28_0 rfl rfl rfl ?_
  refine X.iload_n 2 i28_1 rfl rfl rfl ?_
  refine X.sipush 5 i28_2 rfl rfl (by decide) ?_
  refine X.irem 6 i28_5 rfl rfl (by omega) ?_
  refine X.callv 9 [zi (a1 % 365)] [] [(0, zr g0 11), (1, zi (a1 % 365))] i28_6 rfl (by decide) rfl rfl (by omega) rfl rfl (by decide) rfl t29 (Nat.le_of_ble_eq_true rfl) (Nat.le_of_ble_eq_true rfl) rfl ?_
  refine c29_1 (B := B) g0 (a1 % 365) (by omega) (hJ.up (by omega)) (by omega) (by omega) (fun v503 hv503 hqv5030 => ?_)
  show X (EE s) d 28 9 [(0, zr g0 11), (1, zi a1)] [zi v503] m _
  refine X.istore_n 10 [(0, zr g0 11), (1, zi a1), (2, zi v503)] i28_9 rfl rfl rfl ?_
  refine X.iload_n 11 i28_10 rfl rfl rfl ?_
  refine X.iconst 12 i28_11 rfl rfl (by decide) ?_
  refine X.icmpeq 22 15 i28_12 rfl rfl rfl (fun h504 => ?_) (fun h504 => ?_)
  · refine X.cut [(0, zr g0 11), (1, zi a1)] i28_22 rfl ?_
    refine X.aload_n 23 i28_22 rfl rfl rfl ?_
    refine X.getR 26 i28_23 rfl rfl (by decide) rfl rfl ?_
    refine X.aload_n 27 i28_26 rfl rfl rfl ?_
    refine X.iload_n 28 i28_27 rfl rfl rfl ?_
    refine X.sipush 31 i28_28 rfl rfl (by decide) ?_
    refine X.irem 32 i28_31 rfl rfl (by omega) ?_
    refine X.callv 35 [zi (a1 % 365)] [zr g0 16] [(0, zr g0 11), (1, zi (a1 % 365))] i28_32 rfl (by decide) rfl rfl (by omega) rfl rfl (by decide) rfl t30 (Nat.le_of_ble_eq_true rfl) (Nat.le_of_ble_eq_true rfl) rfl ?_
    refine c30_1 (B := B) g0 (a1 % 365) (by omega) (hJ.up (by omega)) (by omega) (by omega) (fun v507 hv507 => ?_)
    show X (EE s) d 28 35 [(0, zr g0 11), (1, zi a1)] [zi v507, zr g0 16] m _
    refine X.bipush 37 i28_35 rfl rfl (by decide) ?_
    refine X.imul 38 i28_37 rfl rfl (by omega) ?_
    refine X.iload_n 39 i28_38 rfl rfl rfl ?_
    refine X.bipush 41 i28_39 rfl rfl (by decide) ?_
    refine X.irem 42 i28_41 rfl rfl (by omega) ?_
    refine X.iadd 43 i28_42 rfl rfl (by omega) ?_
    refine X.iald 44 i28_43 rfl rfl (by decide) rfl (by omega) ?_
    have h508 := r16_0 hJ g0 (i := ((v507 * 7) + (a1 % 7))) (by omega)
    refine X.reti i28_44 rfl t28 ?_
    exact hQ (m g0 16 ((v507 * 7) + (a1 % 7))) (by first | trivial | omega) 
  · refine X.aload_n 16 i28_15 rfl rfl rfl ?_
    refine X.getR 19 i28_16 rfl rfl (by decide) rfl rfl ?_
    refine X.iload_n 20 i28_19 rfl rfl rfl ?_
    refine X.iald 21 i28_20 rfl rfl (by decide) rfl (by omega) ?_
    have h509 := r18_0 hJ g0 (i := v503) (by omega)
    refine X.reti i28_21 rfl t28 ?_
    exact hQ (m g0 18 v503) (by first | trivial | omega) 
-- WorkMeter$Calendar.tableFor
theorem c28_3 {s : Nat × (Nat → Int32)} {m0 m : zM} {B : Int} {d : Nat} {Q : Option zV → zM → Prop} (g0 : Nat) (a1 : Int) (hd : 14 ≤ d) (hJ : J m0 B m) (hB : B + 0 ≤ 1000000000) (ha1 : 0 ≤ a1 ∧ a1 ≤ 23150) (hQ : ∀ (v : Int), (0 ≤ v ∧ v ≤ 7) → Q (some (zi v)) m) : X (EE s) d 28 0 [(0, zr g0 11), (1, zi a1)] [] m Q := by
  refine X.aload_n 1 i28_0 rfl rfl rfl ?_
  refine X.iload_n 2 i28_1 rfl rfl rfl ?_
  refine X.sipush 5 i28_2 rfl rfl (by decide) ?_
  refine X.irem 6 i28_5 rfl rfl (by omega) ?_
  refine X.callv 9 [zi (a1 % 365)] [] [(0, zr g0 11), (1, zi (a1 % 365))] i28_6 rfl (by decide) rfl rfl (by omega) rfl rfl (by decide) rfl t29 (Nat.le_of_ble_eq_true rfl) (Nat.le_of_ble_eq_true rfl) rfl ?_
  refine c29_1 (B := B) g0 (a1 % 365) (by omega) (hJ.up (by omega)) (by omega) (by omega) (fun v503 hv503 hqv5030 => ?_)
  show X (EE s) d 28 9 [(0, zr g0 11), (1, zi a1)] [zi v503] m _
  refine X.istore_n 10 [(0, zr g0 11), (1, zi a1), (2, zi v503)] i28_9 rfl rfl rfl ?_
  refine X.iload_n 11 i28_10 rfl rfl rfl ?_
  refine X.iconst 12 i28_11 rfl rfl (by decide) ?_
  refine X.icmpeq 22 15 i28_12 rfl rfl rfl (fun h504 => ?_) (fun h504 => ?_)
  · refine X.cut [(0, zr g0 11), (1, zi a1)] i28_22 rfl ?_
    refine X.aload_n 23 i28_22 rfl rfl rfl ?_
    refine X.getR 26 i28_23 rfl rfl (by decide) rfl rfl ?_
    refine X.aload_n 27 i28_26 rfl rfl rfl ?_
    refine X.iload_n 28 i28_27 rfl rfl rfl ?_
    refine X.sipush 31 i28_28 rfl rfl (by decide) ?_
    refine X.irem 32 i28_31 rfl rfl (by omega) ?_
    refine X.callv 35 [zi (a1 % 365)] [zr g0 16] [(0, zr g0 11), (1, zi (a1 % 365))] i28_32 rfl (by decide) rfl rfl (by omega) rfl rfl (by decide) rfl t30 (Nat.le_of_ble_eq_true rfl) (Nat.le_of_ble_eq_true rfl) rfl ?_
    refine c30_1 (B := B) g0 (a1 % 365) (by omega) (hJ.up (by omega)) (by omega) (by omega) (fun v507 hv507 => ?_)
    show X (EE s) d 28 35 [(0, zr g0 11), (1, zi a1)] [zi v507, zr g0 16] m _
    refine X.bipush 37 i28_35 rfl rfl (by decide) ?_
    refine X.imul 38 i28_37 rfl rfl (by omega) ?_
    refine X.iload_n 39 i28_38 rfl rfl rfl ?_
    refine X.bipush 41 i28_39 rfl rfl (by decide) ?_
    refine X.irem 42 i28_41 rfl rfl (by omega) ?_
    refine X.iadd 43 i28_42 rfl rfl (by omega) ?_
    refine X.iald 44 i28_43 rfl rfl (by decide) rfl (by omega) ?_
    have h508 := r16_0 hJ g0 (i := ((v507 * 7) + (a1 % 7))) (by omega)
    refine X.reti i28_44 rfl t28 ?_
    exact hQ (m g0 16 ((v507 * 7) + (a1 % 7))) (by first | trivial | omega) 
  · refine X.aload_n 16 i28_15 rfl rfl rfl ?_
    refine X.getR 19 i28_16 rfl rfl (by decide) rfl rfl ?_
    refine X.iload_n 20 i28_19 rfl rfl rfl ?_
    refine X.iald 21 i28_20 rfl rfl (by decide) rfl (by omega) ?_
    have h509 := r18_0 hJ g0 (i := v503) (by omega)
    refine X.reti i28_21 rfl t28 ?_
    exact hQ (m g0 18 v503) (by first | trivial | omega) 
theorem l131_43_1 {s : Nat × (Nat → Int32)} {m0 : zM} {d : Nat} {Q : Option zV → zM → Prop} (g0 : Nat) (y1 y2 : Int) (BE : Int) (hE : BE ≤ 1000000000) (hd : 17 ≤ d) (hy1 : 1 ≤ y1 ∧ y1 ≤ 100000) (hy2 : 1 ≤ y2 ∧ y2 ≤ 1000000)
    (K133 : ∀ (m' : zM) (B' : Int), J m0 B' m' → B' ≤ BE → X (EE s) d 131 133 [] [] m' Q) :
    ∀ (n : Nat) (y3 y4 : Int) (m : zM) (B : Int), J m0 B m → B + 1 * (n : Int) ≤ BE → (0 ≤ y3 ∧ y3 ≤ 2000000000) → (0 ≤ y4 ∧ y4 ≤ 100000) → (m g0 8 9 + y3 ≤ 2000000000) → (0 ≤ y3) → 100000 - y4 < (n : Int) → X (EE s) d 131 43 [(0, zr g0 8), (1, zi y1), (2, zi y2), (3, zi y3), (4, zi y4)] [] m Q := by
  intro n
  induction n with
  | zero =>
    intro y3 y4 m B hJ hB  hy3 hy4 hr0 hr1 hn
    exfalso
    omega
  | succ n ih =>
    intro y3 y4 m B hJ hB  hy3 hy4 hr0 hr1 hn
    refine X.iload 45 i131_43 rfl rfl rfl ?_
    refine X.iload_n 46 i131_45 rfl rfl rfl ?_
    refine X.icmpge 133 49 i131_46 rfl rfl rfl (fun h530 => ?_) (fun h530 => ?_)
    · refine X.cut [] i131_133 rfl ?_
      exact K133  m (B) (hJ.up (by omega)) (by omega)  
    · refine X.iload_n 50 i131_49 rfl rfl rfl ?_
      refine X.ifle 133 53 i131_50 rfl rfl rfl (fun h531 => ?_) (fun h531 => ?_)
      · refine X.cut [] i131_133 rfl ?_
        exact K133  m (B) (hJ.up (by omega)) (by omega)  
      · refine X.iload_n 54 i131_53 rfl rfl rfl ?_
        refine X.iload_n 55 i131_54 rfl rfl rfl ?_
        refine X.aload_n 56 i131_55 rfl rfl rfl ?_
        refine X.getI 59 9 i131_56 rfl rfl (by decide) rfl rfl rfl ?_
        have h532 := r8_9 hJ g0
        refine X.iload_n 60 i131_59 rfl rfl rfl ?_
        refine X.irem 61 i131_60 rfl rfl (by omega) ?_
        have hz533 := z_modb (x := (m g0 8 9)) (y := y2) (by omega) (by omega)
        obtain ⟨z533, ez533⟩ : ∃ z, z = ((m g0 8 9) % y2) := ⟨_, rfl⟩
        rw [← ez533] at hz533 ⊢
        clear ez533
        refine X.isub 62 i131_61 rfl rfl (by omega) ?_
        refine X.minI 65 i131_62 rfl rfl (by omega) (Nat.le_of_ble_eq_true rfl) ?_
        refine X.istore 67 [(0, zr g0 8), (1, zi y1), (2, zi y2), (3, zi y3), (4, zi y4), (5, zi (min y3 (y2 - z533)))] i131_65 rfl rfl rfl ?_
        refine X.aload_n 68 i131_67 rfl rfl rfl ?_
        refine X.getR 71 i131_68 rfl rfl (by decide) rfl rfl ?_
        refine X.iload 73 i131_71 rfl rfl rfl ?_
        refine X.aload_n 74 i131_73 rfl rfl rfl ?_
        refine X.getR 77 i131_74 rfl rfl (by decide) rfl rfl ?_
        refine X.getIr 80 3 i131_77 rfl rfl (by decide) rfl rfl rfl (fun h534 => ?_)
        refine X.callv 83 [zi (min y3 (y2 - z533)), zi (m g0 33 3)] [] [(0, zr g0 27), (1, zi (min y3 (y2 - z533))), (2, zi (m g0 33 3))] i131_80 rfl (by decide) rfl rfl (by omega) rfl rfl (by decide) rfl t133 (Nat.le_of_ble_eq_true rfl) (Nat.le_of_ble_eq_true rfl) rfl ?_
        refine X.aload_n 1 i133_0 rfl rfl rfl ?_
        refine X.dup 2 i133_1 rfl rfl rfl ?_
        refine X.getIr 5 7 i133_2 rfl rfl (by decide) rfl rfl rfl (fun h535 => ?_)
        refine X.iload_n 6 i133_5 rfl rfl rfl ?_
        refine X.iiF 7 .iadd (fun x y => x + y) i133_6 rfl rfl rfl (fun _ _ => rfl) (fun z536 hz536 => ?_)
        refine X.putI' 10 7 i133_7 rfl rfl (by decide) rfl rfl rfl (fun hrm537 m537 hm537 => ?_)
        have hJ538 := w27_3 hJ hm537 (by omega) hrm537
        have kum537 : m537 g0 8 9 = m g0 8 9 := by rw [hm537]; exact z_upd_o _ _ rfl
        refine X.aload_n 11 i133_10 rfl rfl rfl ?_
        refine X.dup 12 i133_11 rfl rfl rfl ?_
        refine X.getIr 15 8 i133_12 rfl rfl (by decide) rfl rfl rfl (fun h539 => ?_)
        refine X.iload_n 16 i133_15 rfl rfl rfl ?_
        refine X.iiF 17 .ior (fun x y => x ||| y) i133_16 rfl rfl rfl (fun _ _ => rfl) (fun z540 hz540 => ?_)
        refine X.putI' 20 8 i133_17 rfl rfl (by decide) rfl rfl rfl (fun hrm541 m541 hm541 => ?_)
        have hJ542 := w27_3 hJ538 hm541 (by omega) hrm541
        have kum541 : m541 g0 8 9 = m537 g0 8 9 := by rw [hm541]; exact z_upd_o _ _ rfl
        refine X.retv i133_20 rfl t133 ?_
        show X (EE s) d 131 83 [(0, zr g0 8), (1, zi y1), (2, zi y2), (3, zi y3), (4, zi y4), (5, zi (min y3 (y2 - z533)))] [] m541 _
        refine X.aload_n 84 i131_83 rfl rfl rfl ?_
        refine X.dup 85 i131_84 rfl rfl rfl ?_
        refine X.getIr 88 15 i131_85 rfl rfl (by decide) rfl rfl rfl (fun h543 => ?_)
        refine X.iload 90 i131_88 rfl rfl rfl ?_
        refine X.iiF 91 .iadd (fun x y => x + y) i131_90 rfl rfl rfl (fun _ _ => rfl) (fun z544 hz544 => ?_)
        refine X.putI' 94 15 i131_91 rfl rfl (by decide) rfl rfl rfl (fun hrm545 m545 hm545 => ?_)
        have hJ546 := w8_13 hJ542 hm545 (by omega) hrm545
        have kum545 : m545 g0 8 9 = m541 g0 8 9 := by rw [hm545]; exact z_upd_o _ _ rfl
        refine X.aload_n 95 i131_94 rfl rfl rfl ?_
        refine X.dup 96 i131_95 rfl rfl rfl ?_
        refine X.getI 99 9 i131_96 rfl rfl (by decide) rfl rfl rfl ?_
        have h547 := r8_9 hJ546 g0
        refine X.iload 101 i131_99 rfl rfl rfl ?_
        refine X.iadd 102 i131_101 rfl rfl (by omega) ?_
        refine X.putI' 105 9 i131_102 rfl rfl (by decide) rfl rfl rfl (fun hrm548 m548 hm548 => ?_)
        have hJ549 := w8_9 hJ546 hm548 (by omega)
        have em548 : m548 g0 8 9 = ((m545 g0 8 9) + (min y3 (y2 - z533))) := by rw [hm548]; exact z_upd_same _ _ _ _ _
        refine X.iload_n 106 i131_105 rfl rfl rfl ?_
        refine X.iload 108 i131_106 rfl rfl rfl ?_
        refine X.isub 109 i131_108 rfl rfl (by omega) ?_
        refine X.istore_n 110 [(0, zr g0 8), (1, zi y1), (2, zi y2), (3, zi (y3 - (min y3 (y2 - z533)))), (4, zi y4), (5, zi (min y3 (y2 - z533)))] i131_109 rfl rfl rfl ?_
        refine X.aload_n 111 i131_110 rfl rfl rfl ?_
        refine X.aload_n 112 i131_111 rfl rfl rfl ?_
        refine X.getR 115 i131_112 rfl rfl (by decide) rfl rfl ?_
        refine X.aload_n 116 i131_115 rfl rfl rfl ?_
        refine X.getI 119 9 i131_116 rfl rfl (by decide) rfl rfl rfl ?_
        refine X.iconst 120 i131_119 rfl rfl (by decide) ?_
        refine X.isub 121 i131_120 rfl rfl (by omega) ?_
        refine X.callv 124 [zi ((m548 g0 8 9) - 1)] [zr g0 8] [(0, zr g0 11), (1, zi ((m548 g0 8 9) - 1))] i131_121 rfl (by decide) rfl rfl (by omega) rfl rfl (by decide) rfl t27 (Nat.le_of_ble_eq_true rfl) (Nat.le_of_ble_eq_true rfl) rfl ?_
        refine X.aload_n 1 i27_0 rfl rfl rfl ?_
        refine X.aload_n 2 i27_1 rfl rfl rfl ?_
        refine X.iload_n 3 i27_2 rfl rfl rfl ?_
        refine X.ldc 5 i27_3 rfl rfl (by decide) ?_
        refine X.idiv 6 i27_5 rfl rfl (by omega) ?_
        refine X.callv 9 [zi (((m548 g0 8 9) - 1) / 86400)] [zr g0 11] [(0, zr g0 11), (1, zi (((m548 g0 8 9) - 1) / 86400))] i27_6 rfl (by decide) rfl rfl (by omega) rfl rfl (by decide) rfl t28 (Nat.le_of_ble_eq_true rfl) (Nat.le_of_ble_eq_true rfl) rfl ?_
        refine c28_3 (B := B) g0 (((m548 g0 8 9) - 1) / 86400) (by omega) (hJ549.up (by omega)) (by omega) (by omega) (fun v552 hv552 => ?_)
        show X (EE s) (d - 1) 27 9 [(0, zr g0 11), (1, zi ((m548 g0 8 9) - 1))] [zi v552, zr g0 11] m548 _
        refine X.iload_n 10 i27_9 rfl rfl rfl ?_
        refine X.ldc 12 i27_10 rfl rfl (by decide) ?_
        refine X.irem 13 i27_12 rfl rfl (by omega) ?_
        refine X.callv 16 [zi v552, zi (((m548 g0 8 9) - 1) % 86400)] [] [(0, zr g0 11), (1, zi v552), (2, zi (((m548 g0 8 9) - 1) % 86400))] i27_13 rfl (by decide) rfl rfl (by omega) rfl rfl (by decide) rfl t31 (Nat.le_of_ble_eq_true rfl) (Nat.le_of_ble_eq_true rfl) rfl ?_
        refine c31_1 (B := B) g0 v552 (((m548 g0 8 9) - 1) % 86400) (by omega) (hJ549.up (by omega)) (by omega) (by omega) (by omega) (fun v555 hv555 => ?_)
        show X (EE s) (d - 1) 27 16 [(0, zr g0 11), (1, zi ((m548 g0 8 9) - 1))] [zi v555] m548 _
        refine X.reti i27_16 rfl t27 ?_
        show X (EE s) d 131 124 [(0, zr g0 8), (1, zi y1), (2, zi y2), (3, zi (y3 - (min y3 (y2 - z533)))), (4, zi y4), (5, zi (min y3 (y2 - z533)))] [zi v555, zr g0 8] m548 _
        refine X.callv 127 [zi v555] [] [(0, zr g0 8), (1, zi v555)] i131_124 rfl (by decide) rfl rfl (by omega) rfl rfl (by decide) rfl t59 (Nat.le_of_ble_eq_true rfl) (Nat.le_of_ble_eq_true rfl) rfl ?_
        refine c59_1 (B := B) g0 v555 (by omega) (hJ549.up (by omega)) (by omega) (by omega) (fun m556 hJ557 km556 => ?_)
        have kkm5560 := km556 0
        have kkm556g0 := km556 g0
        show X (EE s) d 131 127 [(0, zr g0 8), (1, zi y1), (2, zi y2), (3, zi (y3 - (min y3 (y2 - z533)))), (4, zi y4), (5, zi (min y3 (y2 - z533)))] [] m556 _
        refine X.iinc 130 [(0, zr g0 8), (1, zi y1), (2, zi y2), (3, zi (y3 - (min y3 (y2 - z533)))), (4, zi (y4 + 1)), (5, zi (min y3 (y2 - z533)))] i131_127 rfl rfl rfl (by omega) rfl ?_
        refine X.goto 43 i131_130 rfl rfl ?_
        refine X.cut [(0, zr g0 8), (1, zi y1), (2, zi y2), (3, zi (y3 - (min y3 (y2 - z533)))), (4, zi (y4 + 1))] i131_43 rfl ?_
        exact ih (y3 - (min y3 (y2 - z533))) (y4 + 1) m556 (B + 1) (hJ557.up (by omega)) (by omega)  (by omega) (by omega) (by omega) (by omega) (by omega)
-- WorkMeter$Meter.goOff
theorem c131_1 {s : Nat × (Nat → Int32)} {m0 m : zM} {B : Int} {d : Nat} {Q : Option zV → zM → Prop} (g0 : Nat) (a1 : Int) (hd : 17 ≤ d) (hJ : J m0 B m) (hB : B + 100006 ≤ 1000000000) (ha1 : 1 ≤ a1 ∧ a1 ≤ 100000) (hp0 : m g0 8 9 + a1 ≤ 2000000000) (hQ : ∀ m', J m0 (B + 100006) m' → Q none m') : X (EE s) d 131 0 [(0, zr g0 8), (1, zi a1)] [] m Q := by
  refine X.aload_n 1 i131_0 rfl rfl rfl ?_
  refine X.bipush 3 i131_1 rfl rfl (by decide) ?_
  refine X.iload_n 4 i131_3 rfl rfl rfl ?_
  refine X.callv 7 [zi 21, zi a1] [] [(0, zr g0 8), (1, zi 21), (2, zi a1)] i131_4 rfl (by decide) rfl rfl (by omega) rfl rfl (by decide) rfl t54 (Nat.le_of_ble_eq_true rfl) (Nat.le_of_ble_eq_true rfl) rfl ?_
  refine X.aload_n 1 i54_0 rfl rfl rfl ?_
  refine X.getR 4 i54_1 rfl rfl (by decide) rfl rfl ?_
  refine X.aload_n 5 i54_4 rfl rfl rfl ?_
  refine X.getI 8 9 i54_5 rfl rfl (by decide) rfl rfl rfl ?_
  have h501 := r8_9 hJ g0
  refine X.iload_n 9 i54_8 rfl rfl rfl ?_
  refine X.iload_n 10 i54_9 rfl rfl rfl ?_
  refine X.callv 13 [zi (m g0 8 9), zi 21, zi a1] [] [(0, zr g0 37), (1, zi (m g0 8 9)), (2, zi 21), (3, zi a1)] i54_10 rfl (by decide) rfl rfl (by omega) rfl rfl (by decide) rfl t55 (Nat.le_of_ble_eq_true rfl) (Nat.le_of_ble_eq_true rfl) rfl ?_
  refine X.aload_n 1 i55_0 rfl rfl rfl ?_
  refine X.getI 4 1 i55_1 rfl rfl (by decide) rfl rfl rfl ?_
  have h502 := r37_1 hJ g0
  refine X.bipush 6 i55_4 rfl rfl (by decide) ?_
  refine X.irem 7 i55_6 rfl rfl (by omega) ?_
  refine X.iconst 8 i55_7 rfl rfl (by decide) ?_
  refine X.imul 9 i55_8 rfl rfl (by omega) ?_
  refine X.istore 11 [(0, zr g0 37), (1, zi (m g0 8 9)), (2, zi 21), (3, zi a1), (4, zi (((m g0 37 1) % 40) * 3))] i55_9 rfl rfl rfl ?_
  refine X.aload_n 12 i55_11 rfl rfl rfl ?_
  refine X.getR 15 i55_12 rfl rfl (by decide) rfl rfl ?_
  refine X.iload 17 i55_15 rfl rfl rfl ?_
  refine X.iload_n 18 i55_17 rfl rfl rfl ?_
  refine X.iast' 19 i55_18 rfl rfl (by decide) rfl (by omega) (fun hrm503 m503 hm503 => ?_)
  have hJ504 := w38_0 hJ hm503 (by omega) hrm503
  have kum503 : m503 g0 8 9 = m g0 8 9 := by rw [hm503]; exact z_upd_o _ _ rfl
  refine X.aload_n 20 i55_19 rfl rfl rfl ?_
  refine X.getR 23 i55_20 rfl rfl (by decide) rfl rfl ?_
  refine X.iload 25 i55_23 rfl rfl rfl ?_
  refine X.iconst 26 i55_25 rfl rfl (by decide) ?_
  refine X.iadd 27 i55_26 rfl rfl (by omega) ?_
  refine X.iload_n 28 i55_27 rfl rfl rfl ?_
  refine X.iast' 29 i55_28 rfl rfl (by decide) rfl (by omega) (fun hrm505 m505 hm505 => ?_)
  have hJ506 := w38_0 hJ504 hm505 (by omega) hrm505
  have kum505 : m505 g0 8 9 = m503 g0 8 9 := by rw [hm505]; exact z_upd_o _ _ rfl
  refine X.aload_n 30 i55_29 rfl rfl rfl ?_
  refine X.getR 33 i55_30 rfl rfl (by decide) rfl rfl ?_
  refine X.iload 35 i55_33 rfl rfl rfl ?_
  refine X.iconst 36 i55_35 rfl rfl (by decide) ?_
  refine X.iadd 37 i55_36 rfl rfl (by omega) ?_
  refine X.iload_n 38 i55_37 rfl rfl rfl ?_
  refine X.iast' 39 i55_38 rfl rfl (by decide) rfl (by omega) (fun hrm507 m507 hm507 => ?_)
  have hJ508 := w38_0 hJ506 hm507 (by omega) hrm507
  have kum507 : m507 g0 8 9 = m505 g0 8 9 := by rw [hm507]; exact z_upd_o _ _ rfl
  refine X.aload_n 40 i55_39 rfl rfl rfl ?_
  refine X.dup 41 i55_40 rfl rfl rfl ?_
  refine X.getI 44 1 i55_41 rfl rfl (by decide) rfl rfl rfl ?_
  have h509 := r37_1 hJ508 g0
  refine X.iconst 45 i55_44 rfl rfl (by decide) ?_
  refine X.iadd 46 i55_45 rfl rfl (by omega) ?_
  refine X.putI' 49 1 i55_46 rfl rfl (by decide) rfl rfl rfl (fun hrm510 m510 hm510 => ?_)
  have hJ511 := w37_1 (hJ508.up (B' := B + 1) (by omega)) hm510 (by omega)
  have kum510 : m510 g0 8 9 = m507 g0 8 9 := by rw [hm510]; exact z_upd_o _ _ rfl
  refine X.retv i55_49 rfl t55 ?_
  show X (EE s) (d - 1) 54 13 [(0, zr g0 8), (1, zi 21), (2, zi a1)] [] m510 _
  refine X.retv i54_13 rfl t54 ?_
  show X (EE s) d 131 7 [(0, zr g0 8), (1, zi a1)] [] m510 _
  refine X.aload_n 8 i131_7 rfl rfl rfl ?_
  refine X.getR 11 i131_8 rfl rfl (by decide) rfl rfl ?_
  refine X.aload_n 12 i131_11 rfl rfl rfl ?_
  refine X.getR 15 i131_12 rfl rfl (by decide) rfl rfl ?_
  refine X.aload_n 16 i131_15 rfl rfl rfl ?_
  refine X.getI 19 9 i131_16 rfl rfl (by decide) rfl rfl rfl ?_
  have h512 := r8_9 hJ511 g0
  refine X.callv 22 [zr g0 37, zi (m510 g0 8 9)] [] [(0, zr g0 33), (1, zr g0 37), (2, zi (m510 g0 8 9))] i131_19 rfl (by decide) rfl rfl (by omega) rfl rfl (by decide) rfl t132 (Nat.le_of_ble_eq_true rfl) (Nat.le_of_ble_eq_true rfl) rfl ?_
  refine c132_1 (B := B + 1) g0 g0 (m510 g0 8 9) (by omega) (hJ511.up (by omega)) (by omega) (by omega) (fun m513 hJ514 km513 => ?_)
  have kkm5130 := km513 0
  have kkm513g0 := km513 g0
  show X (EE s) d 131 22 [(0, zr g0 8), (1, zi a1)] [] m513 _
  refine X.aload_n 23 i131_22 rfl rfl rfl ?_
  refine X.getR 26 i131_23 rfl rfl (by decide) rfl rfl ?_
  refine X.iconst 27 i131_26 rfl rfl (by decide) ?_
  refine X.putI' 30 5 i131_27 rfl rfl (by decide) rfl rfl rfl (fun hrm516 m516 hm516 => ?_)
  have hJ517 := w19_5 hJ514 hm516 (by omega)
  have em516 : m516 g0 19 5 = 0 := by rw [hm516]; exact z_upd_same _ _ _ _ _
  have kum516 : m516 g0 8 9 = m513 g0 8 9 := by rw [hm516]; exact z_upd_o _ _ rfl
  refine X.aload_n 31 i131_30 rfl rfl rfl ?_
  refine X.getR 34 i131_31 rfl rfl (by decide) rfl rfl ?_
  refine X.callv 37 [] [] [(0, zr g0 9)] i131_34 rfl (by decide) rfl rfl (by omega) rfl rfl (by decide) rfl t36 (Nat.le_of_ble_eq_true rfl) (Nat.le_of_ble_eq_true rfl) rfl ?_
  refine X.iconst 1 i36_0 rfl rfl (by decide) ?_
  refine X.aload_n 2 i36_1 rfl rfl rfl ?_
  refine X.getR 5 i36_2 rfl rfl (by decide) rfl rfl ?_
  refine X.iconst 6 i36_5 rfl rfl (by decide) ?_
  refine X.iald 7 i36_6 rfl rfl (by decide) rfl (by omega) ?_
  have h518 := r10_0 hJ517 g0 (i := 4) (by omega)
  refine X.maxI 10 i36_7 rfl rfl (by omega) (Nat.le_of_ble_eq_true rfl) ?_
  refine X.reti i36_10 rfl t36 ?_
  show X (EE s) d 131 37 [(0, zr g0 8), (1, zi a1)] [zi (max 1 (m516 g0 10 4))] m516 _
  refine X.istore_n 38 [(0, zr g0 8), (1, zi a1), (2, zi (max 1 (m516 g0 10 4)))] i131_37 rfl rfl rfl ?_
  refine X.iload_n 39 i131_38 rfl rfl rfl ?_
  refine X.istore_n 40 [(0, zr g0 8), (1, zi a1), (2, zi (max 1 (m516 g0 10 4))), (3, zi a1)] i131_39 rfl rfl rfl ?_
  refine X.iconst 41 i131_40 rfl rfl (by decide) ?_
  refine X.istore 43 [(0, zr g0 8), (1, zi a1), (2, zi (max 1 (m516 g0 10 4))), (3, zi a1), (4, zi 0)] i131_41 rfl rfl rfl ?_
  refine l131_43_1 (s := s) (m0 := m0) (d := d) g0 a1 (max 1 (m516 g0 10 4))  (BE := B + 100006) (by omega) (by omega) (by omega) (by omega) (fun  m519 B520 hJ521 hBB520 => ?_) ((100000 - 0 : Int).toNat + 1) a1 0 m516 (B + 5) (hJ517.up (by omega)) (by omega)  (by omega) (by omega) (by omega) (by omega) (by omega)
  refine X.retv i131_133 rfl t131 ?_
  exact hQ  m519  (hJ521.up (by omega))  
-- WorkMeter.off
theorem c130_1 {s : Nat × (Nat → Int32)} {m0 m : zM} {B : Int} {d : Nat} {Q : Option zV → zM → Prop} (g0 : Nat) (a1 : Int) (hd : 18 ≤ d) (hJ : J m0 B m) (hB : B + 100006 ≤ 1000000000) (ha1 : (-2147483648) ≤ a1 ∧ a1 ≤ 2147483647) (hQ : ∀ (v : Int) m', ((-1) ≤ v ∧ v ≤ 2000000000) → J m0 (B + 100006) m' → Q (some (zi v)) m') : X (EE s) d 130 0 [(0, zr g0 40), (1, zi a1)] [] m Q := by
  refine X.iload_n 1 i130_0 rfl rfl rfl ?_
  refine X.iconst 2 i130_1 rfl rfl (by decide) ?_
  refine X.icmplt 25 5 i130_2 rfl rfl rfl (fun h501 => ?_) (fun h501 => ?_)
  · refine X.cut [] i130_25 rfl ?_
    refine X.iconst 26 i130_25 rfl rfl (by decide) ?_
    refine X.reti i130_26 rfl t130 ?_
    exact hQ (-1) m (by first | trivial | omega) (hJ.up (by omega))  
  · refine X.iload_n 6 i130_5 rfl rfl rfl ?_
    refine X.ldc 8 i130_6 rfl rfl (by decide) ?_
    refine X.icmpgt 25 11 i130_8 rfl rfl rfl (fun h502 => ?_) (fun h502 => ?_)
    · refine X.cut [] i130_25 rfl ?_
      refine X.iconst 26 i130_25 rfl rfl (by decide) ?_
      refine X.reti i130_26 rfl t130 ?_
      exact hQ (-1) m (by first | trivial | omega) (hJ.up (by omega))  
    · refine X.aload_n 12 i130_11 rfl rfl rfl ?_
      refine X.getF 15 i130_12 rfl rfl (by decide) rfl rfl ?_
      refine X.getI 18 9 i130_15 rfl rfl (by decide) rfl rfl rfl ?_
      have h503 := r8_9 hJ 0
      refine X.iload_n 19 i130_18 rfl rfl rfl ?_
      refine X.iadd 20 i130_19 rfl rfl (by omega) ?_
      refine X.ldc 22 i130_20 rfl rfl (by decide) ?_
      refine X.icmple 27 25 i130_22 rfl rfl rfl (fun h504 => ?_) (fun h504 => ?_)
      · refine X.aload_n 28 i130_27 rfl rfl rfl ?_
        refine X.getF 31 i130_28 rfl rfl (by decide) rfl rfl ?_
        refine X.iload_n 32 i130_31 rfl rfl rfl ?_
        refine X.callv 35 [zi a1] [] [(0, zr 0 8), (1, zi a1)] i130_32 rfl (by decide) rfl rfl (by omega) rfl rfl (by decide) rfl t131 (Nat.le_of_ble_eq_true rfl) (Nat.le_of_ble_eq_true rfl) rfl ?_
        refine c131_1 (B := B) 0 a1 (by omega) (hJ.up (by omega)) (by omega) (by omega) (by omega) (fun m505 hJ506 => ?_)
        show X (EE s) d 130 35 [(0, zr g0 40), (1, zi a1)] [] m505 _
        refine X.aload_n 36 i130_35 rfl rfl rfl ?_
        refine X.getF 39 i130_36 rfl rfl (by decide) rfl rfl ?_
        refine X.getI 42 9 i130_39 rfl rfl (by decide) rfl rfl rfl ?_
        have h508 := r8_9 hJ506 0
        refine X.reti i130_42 rfl t130 ?_
        exact hQ (m505 0 8 9) m505 (by first | trivial | omega) (hJ506.up (by omega))  
      · refine X.cut [] i130_25 rfl ?_
        refine X.iconst 26 i130_25 rfl rfl (by decide) ?_
        refine X.reti i130_26 rfl t130 ?_
        exact hQ (-1) m (by first | trivial | omega) (hJ.up (by omega))  
theorem l282_47_1 {s : Nat × (Nat → Int32)} {m0 : zM} {d : Nat} {Q : Option zV → zM → Prop} (g0 : Nat) (y1 : Int) (T9 : Nat → Int) (BE : Int) (hE : BE ≤ 1000000000) (hd : 15 ≤ d) (hy1 : 1 ≤ y1 ∧ y1 ≤ 100000)
    (K87 : ∀ (m' : zM) (B' : Int), J m0 B' m' → B' ≤ BE → (∀ g, m' g 8 9 = T9 g) → X (EE s) d 282 87 [(0, zr g0 44), (1, zi y1)] [] m' Q) :
    ∀ (n : Nat) (y2 : Int) (m : zM) (B : Int), J m0 B m → B + 1 * (n : Int) ≤ BE → (∀ g, m g 8 9 = T9 g) → (2 ≤ y2 ∧ y2 ≤ 5) → 5 - y2 < (n : Int) → X (EE s) d 282 47 [(0, zr g0 44), (1, zi y1), (2, zi y2)] [] m Q := by
  intro n
  induction n with
  | zero =>
    intro y2 m B hJ hB hT hy2 hn
    exfalso
    omega
  | succ n ih =>
    intro y2 m B hJ hB hT hy2 hn
    refine X.iload_n 48 i282_47 rfl rfl rfl ?_
    refine X.iconst 49 i282_48 rfl rfl (by decide) ?_
    refine X.icmpge 87 52 i282_49 rfl rfl rfl (fun h511 => ?_) (fun h511 => ?_)
    · refine X.cut [(0, zr g0 44), (1, zi y1)] i282_87 rfl ?_
      exact K87  m (B) (hJ.up (by omega)) (by omega) (fun g => by simp only [hT]) 
    · refine X.aload_n 53 i282_52 rfl rfl rfl ?_
      refine X.getF 56 i282_53 rfl rfl (by decide) rfl rfl ?_
      refine X.bipush 58 i282_56 rfl rfl (by decide) ?_
      refine X.iload_n 59 i282_58 rfl rfl rfl ?_
      refine X.iadd 60 i282_59 rfl rfl (by omega) ?_
      refine X.lconst (y := 0) 61 i282_60 rfl rfl rfl ?_
      refine X.last' 62 i282_61 rfl rfl (by decide) rfl (by omega) (fun hrm512 m512 hm512 => ?_)
      have hJ513 := w45_19 hJ hm512 (by omega) hrm512
      have km512 : ∀ g, m512 g 8 9 = m g 8 9 := fun g9 => by rw [hm512]; exact z_upd_o _ _ rfl
      refine X.aload_n 63 i282_62 rfl rfl rfl ?_
      refine X.getF 66 i282_63 rfl rfl (by decide) rfl rfl ?_
      refine X.bipush 68 i282_66 rfl rfl (by decide) ?_
      refine X.iload_n 69 i282_68 rfl rfl rfl ?_
      refine X.iadd 70 i282_69 rfl rfl (by omega) ?_
      refine X.lald 71 i282_70 rfl rfl (by decide) rfl (by omega) ?_
      refine X.lconst (y := 1) 72 i282_71 rfl rfl rfl ?_
      refine X.lcmp 73 i282_72 rfl rfl (fun z514 hz514 => ?_)
      refine X.ifne 81 76 i282_73 rfl rfl rfl (fun h515 => ?_) (fun h515 => ?_)
      · have h515c : (m512 4 45 (40 + y2)) ≠ 1 := by omega
        clear h515 hz514
        refine X.iinc 84 [(0, zr g0 44), (1, zi y1), (2, zi (y2 + 1))] i282_81 rfl rfl rfl (by omega) rfl ?_
        refine X.goto 47 i282_84 rfl rfl ?_
        exact ih (y2 + 1) m512 (B) (hJ513.up (by omega)) (by omega) (fun g => by simp only [km512, hT]) (by omega) (by omega)
      · have h515c : (m512 4 45 (40 + y2)) = 1 := by omega
        clear h515 hz514
        refine X.aload_n 77 i282_76 rfl rfl rfl ?_
        refine X.iload_n 78 i282_77 rfl rfl rfl ?_
        refine X.callv 81 [zi y2] [] [(0, zr g0 44), (1, zi y2)] i282_78 rfl (by decide) rfl rfl (by omega) rfl rfl (by decide) rfl t229 (Nat.le_of_ble_eq_true rfl) (Nat.le_of_ble_eq_true rfl) rfl ?_
        refine X.aload_n 1 i229_0 rfl rfl rfl ?_
        refine X.getF 4 i229_1 rfl rfl (by decide) rfl rfl ?_
        refine X.bipush 6 i229_4 rfl rfl (by decide) ?_
        refine X.iload_n 7 i229_6 rfl rfl rfl ?_
        refine X.iadd 8 i229_7 rfl rfl (by omega) ?_
        refine X.lconst (y := 0) 9 i229_8 rfl rfl rfl ?_
        refine X.last' 10 i229_9 rfl rfl (by decide) rfl (by omega) (fun hrm516 m516 hm516 => ?_)
        have hJ517 := w45_19 hJ513 hm516 (by omega) hrm516
        have km516 : ∀ g, m516 g 8 9 = m512 g 8 9 := fun g9 => by rw [hm516]; exact z_upd_o _ _ rfl
        refine X.aload_n 11 i229_10 rfl rfl rfl ?_
        refine X.bipush 13 i229_11 rfl rfl (by decide) ?_
        refine X.iload_n 14 i229_13 rfl rfl rfl ?_
        refine X.iadd 15 i229_14 rfl rfl (by omega) ?_
        refine X.lconst (y := 0) 16 i229_15 rfl rfl rfl ?_
        refine X.callv 19 [zi (10 + y2), zl 0] [] [(0, zr g0 44), (1, zi (10 + y2)), (2, zl 0)] i229_16 rfl (by decide) rfl rfl (by omega) rfl rfl (by decide) rfl t223 (Nat.le_of_ble_eq_true rfl) (Nat.le_of_ble_eq_true rfl) rfl ?_
        refine c223_1 (B := B) g0 (10 + y2) 0 (by omega) (hJ517.up (by omega)) (by omega) (by omega) (by omega) (fun m518 hJ519 km518 => ?_)
        show X (EE s) (d - 1) 229 19 [(0, zr g0 44), (1, zi y2)] [] m518 _
        refine X.retv i229_19 rfl t229 ?_
        show X (EE s) d 282 81 [(0, zr g0 44), (1, zi y1), (2, zi y2)] [] m518 _
        refine X.iinc 84 [(0, zr g0 44), (1, zi y1), (2, zi (y2 + 1))] i282_81 rfl rfl rfl (by omega) rfl ?_
        refine X.goto 47 i282_84 rfl rfl ?_
        exact ih (y2 + 1) m518 (B + 1) (hJ519.up (by omega)) (by omega) (fun g => by simp only [km512, km516, km518, hT]) (by omega) (by omega)
theorem l282_89_1 {s : Nat × (Nat → Int32)} {m0 : zM} {d : Nat} {Q : Option zV → zM → Prop} (g0 : Nat) (y1 : Int) (T9 : Nat → Int) (BE : Int) (hE : BE ≤ 1000000000) (hd : 19 ≤ d) (hy1 : 1 ≤ y1 ∧ y1 ≤ 100000)
    (K126 : ∀ (m' : zM) (B' : Int), J m0 B' m' → B' ≤ BE → (∀ g, m' g 8 9 = T9 g) → X (EE s) d 282 126 [(0, zr g0 44)] [] m' Q) :
    ∀ (n : Nat) (y2 : Int) (m : zM) (B : Int), J m0 B m → B + 1 * (n : Int) ≤ BE → (∀ g, m g 8 9 = T9 g) → (0 ≤ y2 ∧ y2 ≤ 100000) → 100000 - y2 < (n : Int) → X (EE s) d 282 89 [(0, zr g0 44), (1, zi y1), (2, zi y2)] [] m Q := by
  intro n
  induction n with
  | zero =>
    intro y2 m B hJ hB hT hy2 hn
    exfalso
    omega
  | succ n ih =>
    intro y2 m B hJ hB hT hy2 hn
    refine X.iload_n 90 i282_89 rfl rfl rfl ?_
    refine X.iload_n 91 i282_90 rfl rfl rfl ?_
    refine X.icmpge 126 94 i282_91 rfl rfl rfl (fun h511 => ?_) (fun h511 => ?_)
    · refine X.cut [(0, zr g0 44)] i282_126 rfl ?_
      exact K126  m (B) (hJ.up (by omega)) (by omega) (fun g => by simp only [hT]) 
    · refine X.aload_n 95 i282_94 rfl rfl rfl ?_
      refine X.getF 98 i282_95 rfl rfl (by decide) rfl rfl ?_
      refine X.bipush 100 i282_98 rfl rfl (by decide) ?_
      refine X.dup2 101 i282_100 rfl rfl ?_
      refine X.lald 102 i282_101 rfl rfl (by decide) rfl (by omega) ?_
      refine X.lconst (y := 1) 103 i282_102 rfl rfl rfl ?_
      refine X.llF 104 .ladd (fun x y => x + y) i282_103 rfl rfl rfl (fun _ _ => rfl) (fun z512 hz512 => ?_)
      refine X.last' 105 i282_104 rfl rfl (by decide) rfl (by omega) (fun hrm513 m513 hm513 => ?_)
      have hJ514 := w45_13 hJ hm513 (by omega) hrm513
      have km513 : ∀ g, m513 g 8 9 = m g 8 9 := fun g9 => by rw [hm513]; exact z_upd_o _ _ rfl
      refine X.aload_n 106 i282_105 rfl rfl rfl ?_
      refine X.getF 109 i282_106 rfl rfl (by decide) rfl rfl ?_
      refine X.bipush 111 i282_109 rfl rfl (by decide) ?_
      refine X.dup2 112 i282_111 rfl rfl ?_
      refine X.lald 113 i282_112 rfl rfl (by decide) rfl (by omega) ?_
      refine X.lconst (y := 1) 114 i282_113 rfl rfl rfl ?_
      refine X.llF 115 .ladd (fun x y => x + y) i282_114 rfl rfl rfl (fun _ _ => rfl) (fun z515 hz515 => ?_)
      refine X.last' 116 i282_115 rfl rfl (by decide) rfl (by omega) (fun hrm516 m516 hm516 => ?_)
      have hJ517 := w45_19 hJ514 hm516 (by omega) hrm516
      have km516 : ∀ g, m516 g 8 9 = m513 g 8 9 := fun g9 => by rw [hm516]; exact z_upd_o _ _ rfl
      refine X.aload_n 117 i282_116 rfl rfl rfl ?_
      refine X.callv 120 [] [] [(0, zr g0 44)] i282_117 rfl (by decide) rfl rfl (by omega) rfl rfl (by decide) rfl t230 (Nat.le_of_ble_eq_true rfl) (Nat.le_of_ble_eq_true rfl) rfl ?_
      refine c230_1 (B := B) g0  (by omega) (hJ517.up (by omega)) (by omega)  (fun m518 hJ519 km518 => ?_)
      show X (EE s) d 282 120 [(0, zr g0 44), (1, zi y1), (2, zi y2)] [] m518 _
      refine X.iinc 123 [(0, zr g0 44), (1, zi y1), (2, zi (y2 + 1))] i282_120 rfl rfl rfl (by omega) rfl ?_
      refine X.goto 89 i282_123 rfl rfl ?_
      exact ih (y2 + 1) m518 (B + 1) (hJ519.up (by omega)) (by omega) (fun g => by simp only [km513, km516, km518, hT]) (by omega) (by omega)
-- WorkMeterModel.off
theorem c282_1 {s : Nat × (Nat → Int32)} {m0 m : zM} {B : Int} {d : Nat} {Q : Option zV → zM → Prop} (g0 : Nat) (a1 : Int) (hd : 19 ≤ d) (hJ : J m0 B m) (hB : B + 100006 ≤ 1000000000) (ha1 : (-2147483648) ≤ a1 ∧ a1 ≤ 2147483647) (hQ : ∀ (v : Int) m', ((-1) ≤ v ∧ v ≤ 2000000000) → J m0 (B + 100006) m' → (∀ g, m' g 8 9 = m g 8 9) → Q (some (zi v)) m') : X (EE s) d 282 0 [(0, zr g0 44), (1, zi a1)] [] m Q := by
  refine X.iload_n 1 i282_0 rfl rfl rfl ?_
  refine X.i2l 2 i282_1 rfl rfl ?_
  refine X.lconst (y := 1) 3 i282_2 rfl rfl rfl ?_
  refine X.ldc2 6 i282_3 rfl rfl (by decide) ?_
  refine X.calls 9 [zl a1, zl 1, zl 100000] [] [(0, zl a1), (2, zl 1), (4, zl 100000)] i282_6 (by decide) rfl rfl (by omega) rfl rfl t204 (Nat.le_of_ble_eq_true rfl) (Nat.le_of_ble_eq_true rfl) rfl ?_
  refine X.lload_n 1 i204_0 rfl rfl rfl ?_
  refine X.lload_n 2 i204_1 rfl rfl rfl ?_
  refine X.lcmp 3 i204_2 rfl rfl (fun z501 hz501 => ?_)
  refine X.iflt 17 6 i204_3 rfl rfl rfl (fun h502 => ?_) (fun h502 => ?_)
  · have h502c : a1 < 1 := by omega
    clear h502 hz501
    refine X.cut [] i204_17 rfl ?_
    refine X.iconst 18 i204_17 rfl rfl (by decide) ?_
    refine X.retz i204_18 rfl t204 (by omega) ?_
    show X (EE s) d 282 9 [(0, zr g0 44), (1, zi a1)] [zi 0] m _
    refine X.ifeq 28 12 i282_9 rfl rfl rfl (fun h503 => ?_) (fun h503 => (by exfalso; omega))
    refine X.cut [] i282_28 rfl ?_
    refine X.iconst 29 i282_28 rfl rfl (by decide) ?_
    refine X.reti i282_29 rfl t282 ?_
    exact hQ (-1) m (by first | trivial | omega) (hJ.up (by omega)) (fun g => rfl) 
  · have h502c : a1 ≥ 1 := by omega
    clear h502 hz501
    refine X.lload_n 7 i204_6 rfl rfl rfl ?_
    refine X.lload 9 i204_7 rfl rfl rfl ?_
    refine X.lcmp 10 i204_9 rfl rfl (fun z504 hz504 => ?_)
    refine X.ifgt 17 13 i204_10 rfl rfl rfl (fun h505 => ?_) (fun h505 => ?_)
    · have h505c : a1 > 100000 := by omega
      clear h505 hz504
      refine X.cut [] i204_17 rfl ?_
      refine X.iconst 18 i204_17 rfl rfl (by decide) ?_
      refine X.retz i204_18 rfl t204 (by omega) ?_
      show X (EE s) d 282 9 [(0, zr g0 44), (1, zi a1)] [zi 0] m _
      refine X.ifeq 28 12 i282_9 rfl rfl rfl (fun h506 => ?_) (fun h506 => (by exfalso; omega))
      refine X.cut [] i282_28 rfl ?_
      refine X.iconst 29 i282_28 rfl rfl (by decide) ?_
      refine X.reti i282_29 rfl t282 ?_
      exact hQ (-1) m (by first | trivial | omega) (hJ.up (by omega)) (fun g => rfl) 
    · have h505c : a1 ≤ 100000 := by omega
      clear h505 hz504
      refine X.iconst 14 i204_13 rfl rfl (by decide) ?_
      refine X.goto 18 i204_14 rfl rfl ?_
      refine X.cut [] i204_18 rfl ?_
      refine X.retz i204_18 rfl t204 (by omega) ?_
      show X (EE s) d 282 9 [(0, zr g0 44), (1, zi a1)] [zi 1] m _
      refine X.ifeq 28 12 i282_9 rfl rfl rfl (fun h507 => (by exfalso; omega)) (fun h507 => ?_)
      refine X.aload_n 13 i282_12 rfl rfl rfl ?_
      refine X.getF 16 i282_13 rfl rfl (by decide) rfl rfl ?_
      refine X.iconst 17 i282_16 rfl rfl (by decide) ?_
      refine X.lald 18 i282_17 rfl rfl (by decide) rfl (by omega) ?_
      have h508 := r45_0 hJ 4
      refine X.iload_n 19 i282_18 rfl rfl rfl ?_
      refine X.i2l 20 i282_19 rfl rfl ?_
      refine X.ladd 21 i282_20 rfl rfl (by omega) ?_
      refine X.ldc2 24 i282_21 rfl rfl (by decide) ?_
      refine X.lcmp 25 i282_24 rfl rfl (fun z509 hz509 => ?_)
      refine X.ifle 30 28 i282_25 rfl rfl rfl (fun h510 => ?_) (fun h510 => ?_)
      · have h510c : ((m 4 45 0) + a1) ≤ 2000000000 := by omega
        clear h510 hz509
        refine X.aload_n 31 i282_30 rfl rfl rfl ?_
        refine X.bipush 33 i282_31 rfl rfl (by decide) ?_
        refine X.iload_n 34 i282_33 rfl rfl rfl ?_
        refine X.i2l 35 i282_34 rfl rfl ?_
        refine X.callv 38 [zi 21, zl a1] [] [(0, zr g0 44), (1, zi 21), (2, zl a1)] i282_35 rfl (by decide) rfl rfl (by omega) rfl rfl (by decide) rfl t223 (Nat.le_of_ble_eq_true rfl) (Nat.le_of_ble_eq_true rfl) rfl ?_
        refine c223_2 (B := B) g0 21 a1 (by omega) (hJ.up (by omega)) (by omega) (by omega) (fun m511 hJ512 km511 => ?_)
        show X (EE s) d 282 38 [(0, zr g0 44), (1, zi a1)] [] m511 _
        refine X.aload_n 39 i282_38 rfl rfl rfl ?_
        refine X.getF 42 i282_39 rfl rfl (by decide) rfl rfl ?_
        refine X.iconst 43 i282_42 rfl rfl (by decide) ?_
        refine X.lconst (y := 0) 44 i282_43 rfl rfl rfl ?_
        refine X.last' 45 i282_44 rfl rfl (by decide) rfl (by omega) (fun hrm514 m514 hm514 => ?_)
        have hJ515 := w45_3 hJ512 hm514 (by omega)
        have km514 : ∀ g, m514 g 8 9 = m511 g 8 9 := fun g9 => by rw [hm514]; exact z_upd_o _ _ rfl
        refine X.iconst 46 i282_45 rfl rfl (by decide) ?_
        refine X.istore_n 47 [(0, zr g0 44), (1, zi a1), (2, zi 2)] i282_46 rfl rfl rfl ?_
        refine l282_47_1 (s := s) (m0 := m0) (d := d) g0 a1 (fun g => m g 8 9) (BE := B + 5) (by omega) (by omega) (by omega) (fun  m516 B517 hJ518 hBB517 hkm516 => ?_) ((5 - 2 : Int).toNat + 1) 2 m514 (B + 1) (hJ515.up (by omega)) (by omega) (fun g => by simp only [km511, km514]) (by omega) (by omega)
        refine X.iconst 88 i282_87 rfl rfl (by decide) ?_
        refine X.istore_n 89 [(0, zr g0 44), (1, zi a1), (2, zi 0)] i282_88 rfl rfl rfl ?_
        refine l282_89_1 (s := s) (m0 := m0) (d := d) g0 a1 (fun g => m g 8 9) (BE := B517 + 100001) (by omega) (by omega) (by omega) (fun  m519 B520 hJ521 hBB520 hkm519 => ?_) ((100000 - 0 : Int).toNat + 1) 0 m516 (B517) (hJ518.up (by omega)) (by omega) (fun g => by simp only [hkm516]) (by omega) (by omega)
        refine X.aload_n 127 i282_126 rfl rfl rfl ?_
        refine X.getF 130 i282_127 rfl rfl (by decide) rfl rfl ?_
        refine X.iconst 131 i282_130 rfl rfl (by decide) ?_
        refine X.lald 132 i282_131 rfl rfl (by decide) rfl (by omega) ?_
        have h522 := r45_0 hJ521 4
        refine X.l2i 133 i282_132 rfl rfl (by omega) ?_
        refine X.reti i282_133 rfl t282 ?_
        exact hQ (m519 4 45 0) m519 (by first | trivial | omega) (hJ521.up (by omega)) (fun g => by simp only [hkm519]) 
      · have h510c : ((m 4 45 0) + a1) > 2000000000 := by omega
        clear h510 hz509
        refine X.cut [] i282_28 rfl ?_
        refine X.iconst 29 i282_28 rfl rfl (by decide) ?_
        refine X.reti i282_29 rfl t282 ?_
        exact hQ (-1) m (by first | trivial | omega) (hJ.up (by omega)) (fun g => rfl) 
-- WorkMeter$Marks.turn
theorem c57_5 {s : Nat × (Nat → Int32)} {m0 m : zM} {B : Int} {d : Nat} {Q : Option zV → zM → Prop} (g0 g3 : Nat) (a1 a2 a4 : Int) (hd : 13 ≤ d) (hJ : J m0 B m) (hB : B + 1 ≤ 1000000000) (ha1 : 0 ≤ a1 ∧ a1 ≤ 1) (ha2 : 0 ≤ a2 ∧ a2 ≤ 1) (ha4 : 0 ≤ a4 ∧ a4 ≤ 2000000000) (hQ : ∀ m', J m0 (B + 1) m' → (∀ g, m' g 8 9 = m g 8 9) → Q none m') : X (EE s) d 57 0 [(0, zr g0 33), (1, zi a1), (2, zi a2), (3, zr g3 37), (4, zi a4)] [] m Q := by
  refine X.iload_n 1 i57_0 rfl rfl rfl ?_
  refine X.ifeq 37 4 i57_1 rfl rfl rfl (fun h501 => ?_) (fun h501 => ?_)
  · refine X.cut [(0, zr g0 33), (1, zi a1), (3, zr g3 37), (4, zi a4)] i57_37 rfl ?_
    refine X.aload_n 38 i57_37 rfl rfl rfl ?_
    refine X.dup 39 i57_38 rfl rfl rfl ?_
    refine X.getIr 42 3 i57_39 rfl rfl (by decide) rfl rfl rfl (fun h502 => ?_)
    refine X.iconst 43 i57_42 rfl rfl (by decide) ?_
    refine X.iload_n 44 i57_43 rfl rfl rfl ?_
    refine X.iiF 45 .ishl (fun x y => x <<< (y &&& 31)) i57_44 rfl rfl rfl (fun _ _ => rfl) (fun z503 hz503 => ?_)
    refine X.iconst 46 i57_45 rfl rfl (by decide) ?_
    refine X.iiF 47 .ixor (fun x y => x ^^^ y) i57_46 rfl rfl rfl (fun _ _ => rfl) (fun z504 hz504 => ?_)
    refine X.iiF 48 .iand (fun x y => x &&& y) i57_47 rfl rfl rfl (fun _ _ => rfl) (fun z505 hz505 => ?_)
    refine X.putI' 51 3 i57_48 rfl rfl (by decide) rfl rfl rfl (fun hrm506 m506 hm506 => ?_)
    have hJ507 := w33_0 hJ hm506 (by omega) hrm506
    have km506 : ∀ g, m506 g 8 9 = m g 8 9 := fun g9 => by rw [hm506]; exact z_upd_o _ _ rfl
    refine X.aload_n 52 i57_51 rfl rfl rfl ?_
    refine X.iload 54 i57_52 rfl rfl rfl ?_
    refine X.iload_n 55 i57_54 rfl rfl rfl ?_
    refine X.bipush 57 i57_55 rfl rfl (by decide) ?_
    refine X.iadd 58 i57_57 rfl rfl (by omega) ?_
    refine X.iconst 59 i57_58 rfl rfl (by decide) ?_
    refine X.callv 62 [zi a4, zi (a1 + 10), zi 0] [] [(0, zr g3 37), (1, zi a4), (2, zi (a1 + 10)), (3, zi 0)] i57_59 rfl (by decide) rfl rfl (by omega) rfl rfl (by decide) rfl t55 (Nat.le_of_ble_eq_true rfl) (Nat.le_of_ble_eq_true rfl) rfl ?_
    refine X.aload_n 1 i55_0 rfl rfl rfl ?_
    refine X.getI 4 1 i55_1 rfl rfl (by decide) rfl rfl rfl ?_
    have h508 := r37_1 hJ507 g3
    refine X.bipush 6 i55_4 rfl rfl (by decide) ?_
    refine X.irem 7 i55_6 rfl rfl (by omega) ?_
    refine X.iconst 8 i55_7 rfl rfl (by decide) ?_
    refine X.imul 9 i55_8 rfl rfl (by omega) ?_
    refine X.istore 11 [(0, zr g3 37), (1, zi a4), (2, zi (a1 + 10)), (3, zi 0), (4, zi (((m506 g3 37 1) % 40) * 3))] i55_9 rfl rfl rfl ?_
    refine X.aload_n 12 i55_11 rfl rfl rfl ?_
    refine X.getR 15 i55_12 rfl rfl (by decide) rfl rfl ?_
    refine X.iload 17 i55_15 rfl rfl rfl ?_
    refine X.iload_n 18 i55_17 rfl rfl rfl ?_
    refine X.iast' 19 i55_18 rfl rfl (by decide) rfl (by omega) (fun hrm509 m509 hm509 => ?_)
    have hJ510 := w38_0 hJ507 hm509 (by omega) hrm509
    have km509 : ∀ g, m509 g 8 9 = m506 g 8 9 := fun g9 => by rw [hm509]; exact z_upd_o _ _ rfl
    refine X.aload_n 20 i55_19 rfl rfl rfl ?_
    refine X.getR 23 i55_20 rfl rfl (by decide) rfl rfl ?_
    refine X.iload 25 i55_23 rfl rfl rfl ?_
    refine X.iconst 26 i55_25 rfl rfl (by decide) ?_
    refine X.iadd 27 i55_26 rfl rfl (by omega) ?_
    refine X.iload_n 28 i55_27 rfl rfl rfl ?_
    refine X.iast' 29 i55_28 rfl rfl (by decide) rfl (by omega) (fun hrm511 m511 hm511 => ?_)
    have hJ512 := w38_0 hJ510 hm511 (by omega) hrm511
    have km511 : ∀ g, m511 g 8 9 = m509 g 8 9 := fun g9 => by rw [hm511]; exact z_upd_o _ _ rfl
    refine X.aload_n 30 i55_29 rfl rfl rfl ?_
    refine X.getR 33 i55_30 rfl rfl (by decide) rfl rfl ?_
    refine X.iload 35 i55_33 rfl rfl rfl ?_
    refine X.iconst 36 i55_35 rfl rfl (by decide) ?_
    refine X.iadd 37 i55_36 rfl rfl (by omega) ?_
    refine X.iload_n 38 i55_37 rfl rfl rfl ?_
    refine X.iast' 39 i55_38 rfl rfl (by decide) rfl (by omega) (fun hrm513 m513 hm513 => ?_)
    have hJ514 := w38_0 hJ512 hm513 (by omega) hrm513
    have km513 : ∀ g, m513 g 8 9 = m511 g 8 9 := fun g9 => by rw [hm513]; exact z_upd_o _ _ rfl
    refine X.aload_n 40 i55_39 rfl rfl rfl ?_
    refine X.dup 41 i55_40 rfl rfl rfl ?_
    refine X.getI 44 1 i55_41 rfl rfl (by decide) rfl rfl rfl ?_
    have h515 := r37_1 hJ514 g3
    refine X.iconst 45 i55_44 rfl rfl (by decide) ?_
    refine X.iadd 46 i55_45 rfl rfl (by omega) ?_
    refine X.putI' 49 1 i55_46 rfl rfl (by decide) rfl rfl rfl (fun hrm516 m516 hm516 => ?_)
    have hJ517 := w37_1 (hJ514.up (B' := B + 1) (by omega)) hm516 (by omega)
    have km516 : ∀ g, m516 g 8 9 = m513 g 8 9 := fun g9 => by rw [hm516]; exact z_upd_o _ _ rfl
    refine X.retv i55_49 rfl t55 ?_
    show X (EE s) d 57 62 [(0, zr g0 33), (1, zi a1), (3, zr g3 37), (4, zi a4)] [] m516 _
    refine X.cut [] i57_62 rfl ?_
    refine X.retv i57_62 rfl t57 ?_
    exact hQ  m516  (hJ517.up (by omega)) (fun g => by simp only [km506, km509, km511, km513, km516]) 
  · refine X.aload_n 5 i57_4 rfl rfl rfl ?_
    refine X.dup 6 i57_5 rfl rfl rfl ?_
    refine X.getIr 9 3 i57_6 rfl rfl (by decide) rfl rfl rfl (fun h518 => ?_)
    refine X.iconst 10 i57_9 rfl rfl (by decide) ?_
    refine X.iload_n 11 i57_10 rfl rfl rfl ?_
    refine X.iiF 12 .ishl (fun x y => x <<< (y &&& 31)) i57_11 rfl rfl rfl (fun _ _ => rfl) (fun z519 hz519 => ?_)
    refine X.iiF 13 .ior (fun x y => x ||| y) i57_12 rfl rfl rfl (fun _ _ => rfl) (fun z520 hz520 => ?_)
    refine X.putI' 16 3 i57_13 rfl rfl (by decide) rfl rfl rfl (fun hrm521 m521 hm521 => ?_)
    have hJ522 := w33_0 hJ hm521 (by omega) hrm521
    have km521 : ∀ g, m521 g 8 9 = m g 8 9 := fun g9 => by rw [hm521]; exact z_upd_o _ _ rfl
    refine X.aload_n 17 i57_16 rfl rfl rfl ?_
    refine X.getR 20 i57_17 rfl rfl (by decide) rfl rfl ?_
    refine X.iload_n 21 i57_20 rfl rfl rfl ?_
    refine X.dup2 22 i57_21 rfl rfl ?_
    refine X.ialdr 23 i57_22 rfl rfl (by decide) rfl (by omega) (fun h523 => ?_)
    refine X.iconst 24 i57_23 rfl rfl (by decide) ?_
    refine X.iiF 25 .iadd (fun x y => x + y) i57_24 rfl rfl rfl (fun _ _ => rfl) (fun z524 hz524 => ?_)
    refine X.iast' 26 i57_25 rfl rfl (by decide) rfl (by omega) (fun hrm525 m525 hm525 => ?_)
    have hJ526 := w34_0 hJ522 hm525 (by omega) hrm525
    have km525 : ∀ g, m525 g 8 9 = m521 g 8 9 := fun g9 => by rw [hm525]; exact z_upd_o _ _ rfl
    refine X.aload_n 27 i57_26 rfl rfl rfl ?_
    refine X.iload 29 i57_27 rfl rfl rfl ?_
    refine X.iload_n 30 i57_29 rfl rfl rfl ?_
    refine X.iconst 31 i57_30 rfl rfl (by decide) ?_
    refine X.callv 34 [zi a4, zi a1, zi 0] [] [(0, zr g3 37), (1, zi a4), (2, zi a1), (3, zi 0)] i57_31 rfl (by decide) rfl rfl (by omega) rfl rfl (by decide) rfl t55 (Nat.le_of_ble_eq_true rfl) (Nat.le_of_ble_eq_true rfl) rfl ?_
    refine X.aload_n 1 i55_0 rfl rfl rfl ?_
    refine X.getI 4 1 i55_1 rfl rfl (by decide) rfl rfl rfl ?_
    have h527 := r37_1 hJ526 g3
    refine X.bipush 6 i55_4 rfl rfl (by decide) ?_
    refine X.irem 7 i55_6 rfl rfl (by omega) ?_
    refine X.iconst 8 i55_7 rfl rfl (by decide) ?_
    refine X.imul 9 i55_8 rfl rfl (by omega) ?_
    refine X.istore 11 [(0, zr g3 37), (1, zi a4), (2, zi a1), (3, zi 0), (4, zi (((m525 g3 37 1) % 40) * 3))] i55_9 rfl rfl rfl ?_
    refine X.aload_n 12 i55_11 rfl rfl rfl ?_
    refine X.getR 15 i55_12 rfl rfl (by decide) rfl rfl ?_
    refine X.iload 17 i55_15 rfl rfl rfl ?_
    refine X.iload_n 18 i55_17 rfl rfl rfl ?_
    refine X.iast' 19 i55_18 rfl rfl (by decide) rfl (by omega) (fun hrm528 m528 hm528 => ?_)
    have hJ529 := w38_0 hJ526 hm528 (by omega) hrm528
    have km528 : ∀ g, m528 g 8 9 = m525 g 8 9 := fun g9 => by rw [hm528]; exact z_upd_o _ _ rfl
    refine X.aload_n 20 i55_19 rfl rfl rfl ?_
    refine X.getR 23 i55_20 rfl rfl (by decide) rfl rfl ?_
    refine X.iload 25 i55_23 rfl rfl rfl ?_
    refine X.iconst 26 i55_25 rfl rfl (by decide) ?_
    refine X.iadd 27 i55_26 rfl rfl (by omega) ?_
    refine X.iload_n 28 i55_27 rfl rfl rfl ?_
    refine X.iast' 29 i55_28 rfl rfl (by decide) rfl (by omega) (fun hrm530 m530 hm530 => ?_)
    have hJ531 := w38_0 hJ529 hm530 (by omega) hrm530
    have km530 : ∀ g, m530 g 8 9 = m528 g 8 9 := fun g9 => by rw [hm530]; exact z_upd_o _ _ rfl
    refine X.aload_n 30 i55_29 rfl rfl rfl ?_
    refine X.getR 33 i55_30 rfl rfl (by decide) rfl rfl ?_
    refine X.iload 35 i55_33 rfl rfl rfl ?_
    refine X.iconst 36 i55_35 rfl rfl (by decide) ?_
    refine X.iadd 37 i55_36 rfl rfl (by omega) ?_
    refine X.iload_n 38 i55_37 rfl rfl rfl ?_
    refine X.iast' 39 i55_38 rfl rfl (by decide) rfl (by omega) (fun hrm532 m532 hm532 => ?_)
    have hJ533 := w38_0 hJ531 hm532 (by omega) hrm532
    have km532 : ∀ g, m532 g 8 9 = m530 g 8 9 := fun g9 => by rw [hm532]; exact z_upd_o _ _ rfl
    refine X.aload_n 40 i55_39 rfl rfl rfl ?_
    refine X.dup 41 i55_40 rfl rfl rfl ?_
    refine X.getI 44 1 i55_41 rfl rfl (by decide) rfl rfl rfl ?_
    have h534 := r37_1 hJ533 g3
    refine X.iconst 45 i55_44 rfl rfl (by decide) ?_
    refine X.iadd 46 i55_45 rfl rfl (by omega) ?_
    refine X.putI' 49 1 i55_46 rfl rfl (by decide) rfl rfl rfl (fun hrm535 m535 hm535 => ?_)
    have hJ536 := w37_1 (hJ533.up (B' := B + 1) (by omega)) hm535 (by omega)
    have km535 : ∀ g, m535 g 8 9 = m532 g 8 9 := fun g9 => by rw [hm535]; exact z_upd_o _ _ rfl
    refine X.retv i55_49 rfl t55 ?_
    show X (EE s) d 57 34 [(0, zr g0 33), (1, zi a1), (2, zi a2), (3, zr g3 37), (4, zi a4)] [] m535 _
    refine X.goto 62 i57_34 rfl rfl ?_
    refine X.cut [] i57_62 rfl ?_
    refine X.retv i57_62 rfl t57 ?_
    exact hQ  m535  (hJ536.up (by omega)) (fun g => by simp only [km521, km525, km528, km530, km532, km535]) 
-- WorkMeter.mark
theorem c134_1 {s : Nat × (Nat → Int32)} {m0 m : zM} {B : Int} {d : Nat} {Q : Option zV → zM → Prop} (g0 : Nat) (a1 a2 : Int) (hd : 14 ≤ d) (hJ : J m0 B m) (hB : B + 1 ≤ 1000000000) (ha1 : (-2147483648) ≤ a1 ∧ a1 ≤ 2147483647) (ha2 : 0 ≤ a2 ∧ a2 ≤ 1) (hQ : ∀ (v : Int) m', (0 ≤ v ∧ v ≤ 1) → J m0 (B + 1) m' → (∀ g, m' g 8 9 = m g 8 9) → Q (some (zi v)) m') : X (EE s) d 134 0 [(0, zr g0 40), (1, zi a1), (2, zi a2)] [] m Q := by
  refine X.iload_n 1 i134_0 rfl rfl rfl ?_
  refine X.iflt 24 4 i134_1 rfl rfl rfl (fun h501 => ?_) (fun h501 => ?_)
  · refine X.cut [] i134_24 rfl ?_
    refine X.iconst 25 i134_24 rfl rfl (by decide) ?_
    refine X.retz i134_25 rfl t134 (by omega) ?_
    exact hQ 0 m (by first | trivial | omega) (hJ.up (by omega)) (fun g => rfl) 
  · refine X.iload_n 5 i134_4 rfl rfl rfl ?_
    refine X.iconst 6 i134_5 rfl rfl (by decide) ?_
    refine X.icmpge 24 9 i134_6 rfl rfl rfl (fun h502 => ?_) (fun h502 => ?_)
    · refine X.cut [] i134_24 rfl ?_
      refine X.iconst 25 i134_24 rfl rfl (by decide) ?_
      refine X.retz i134_25 rfl t134 (by omega) ?_
      exact hQ 0 m (by first | trivial | omega) (hJ.up (by omega)) (fun g => rfl) 
    · refine X.aload_n 10 i134_9 rfl rfl rfl ?_
      refine X.getF 13 i134_10 rfl rfl (by decide) rfl rfl ?_
      refine X.getR 16 i134_13 rfl rfl (by decide) rfl rfl ?_
      refine X.iload_n 17 i134_16 rfl rfl rfl ?_
      refine X.callv 20 [zi a1] [] [(0, zr 0 33), (1, zi a1)] i134_17 rfl (by decide) rfl rfl (by omega) rfl rfl (by decide) rfl t40 (Nat.le_of_ble_eq_true rfl) (Nat.le_of_ble_eq_true rfl) rfl ?_
      refine X.aload_n 1 i40_0 rfl rfl rfl ?_
      refine X.getIr 4 3 i40_1 rfl rfl (by decide) rfl rfl rfl (fun h503 => ?_)
      refine X.iload_n 5 i40_4 rfl rfl rfl ?_
      refine X.iiF 6 .ishr (fun x y => x >>> (y &&& 31)) i40_5 rfl rfl rfl (fun _ _ => rfl) (fun z504 hz504 => ?_)
      refine X.iconst 7 i40_6 rfl rfl (by decide) ?_
      refine X.andF 8 1 i40_7 rfl rfl (by decide) (.inl rfl) (fun z505 hz505 => ?_)
      refine X.iconst 9 i40_8 rfl rfl (by decide) ?_
      refine X.icmpne 16 12 i40_9 rfl rfl rfl (fun h506 => ?_) (fun h506 => ?_)
      · refine X.cut [] i40_16 rfl ?_
        refine X.iconst 17 i40_16 rfl rfl (by decide) ?_
        refine X.retz i40_17 rfl t40 (by omega) ?_
        show X (EE s) d 134 20 [(0, zr g0 40), (1, zi a1), (2, zi a2)] [zi 0] m _
        refine X.iload_n 21 i134_20 rfl rfl rfl ?_
        refine X.icmpne 26 24 i134_21 rfl rfl rfl (fun h507 => ?_) (fun h507 => ?_)
        · refine X.aload_n 27 i134_26 rfl rfl rfl ?_
          refine X.getF 30 i134_27 rfl rfl (by decide) rfl rfl ?_
          refine X.getR 33 i134_30 rfl rfl (by decide) rfl rfl ?_
          refine X.iload_n 34 i134_33 rfl rfl rfl ?_
          refine X.iload_n 35 i134_34 rfl rfl rfl ?_
          refine X.aload_n 36 i134_35 rfl rfl rfl ?_
          refine X.getF 39 i134_36 rfl rfl (by decide) rfl rfl ?_
          refine X.getR 42 i134_39 rfl rfl (by decide) rfl rfl ?_
          refine X.aload_n 43 i134_42 rfl rfl rfl ?_
          refine X.getF 46 i134_43 rfl rfl (by decide) rfl rfl ?_
          refine X.getI 49 9 i134_46 rfl rfl (by decide) rfl rfl rfl ?_
          have h508 := r8_9 hJ 0
          refine X.callv 52 [zi a1, zi a2, zr 0 37, zi (m 0 8 9)] [] [(0, zr 0 33), (1, zi a1), (2, zi a2), (3, zr 0 37), (4, zi (m 0 8 9))] i134_49 rfl (by decide) rfl rfl (by omega) rfl rfl (by decide) rfl t57 (Nat.le_of_ble_eq_true rfl) (Nat.le_of_ble_eq_true rfl) rfl ?_
          refine c57_5 (B := B) 0 0 a1 a2 (m 0 8 9) (by omega) (hJ.up (by omega)) (by omega) (by omega) (by omega) (by omega) (fun m509 hJ510 km509 => ?_)
          show X (EE s) d 134 52 [(0, zr g0 40), (1, zi a1), (2, zi a2)] [] m509 _
          refine X.iconst 53 i134_52 rfl rfl (by decide) ?_
          refine X.retz i134_53 rfl t134 (by omega) ?_
          exact hQ 1 m509 (by first | trivial | omega) (hJ510.up (by omega)) (fun g => by simp only [km509]) 
        · refine X.cut [] i134_24 rfl ?_
          refine X.iconst 25 i134_24 rfl rfl (by decide) ?_
          refine X.retz i134_25 rfl t134 (by omega) ?_
          exact hQ 0 m (by first | trivial | omega) (hJ.up (by omega)) (fun g => rfl) 
      · refine X.iconst 13 i40_12 rfl rfl (by decide) ?_
        refine X.goto 17 i40_13 rfl rfl ?_
        refine X.cut [] i40_17 rfl ?_
        refine X.retz i40_17 rfl t40 (by omega) ?_
        show X (EE s) d 134 20 [(0, zr g0 40), (1, zi a1), (2, zi a2)] [zi 1] m _
        refine X.iload_n 21 i134_20 rfl rfl rfl ?_
        refine X.icmpne 26 24 i134_21 rfl rfl rfl (fun h512 => ?_) (fun h512 => ?_)
        · refine X.aload_n 27 i134_26 rfl rfl rfl ?_
          refine X.getF 30 i134_27 rfl rfl (by decide) rfl rfl ?_
          refine X.getR 33 i134_30 rfl rfl (by decide) rfl rfl ?_
          refine X.iload_n 34 i134_33 rfl rfl rfl ?_
          refine X.iload_n 35 i134_34 rfl rfl rfl ?_
          refine X.aload_n 36 i134_35 rfl rfl rfl ?_
          refine X.getF 39 i134_36 rfl rfl (by decide) rfl rfl ?_
          refine X.getR 42 i134_39 rfl rfl (by decide) rfl rfl ?_
          refine X.aload_n 43 i134_42 rfl rfl rfl ?_
          refine X.getF 46 i134_43 rfl rfl (by decide) rfl rfl ?_
          refine X.getI 49 9 i134_46 rfl rfl (by decide) rfl rfl rfl ?_
          have h513 := r8_9 hJ 0
          refine X.callv 52 [zi a1, zi a2, zr 0 37, zi (m 0 8 9)] [] [(0, zr 0 33), (1, zi a1), (2, zi a2), (3, zr 0 37), (4, zi (m 0 8 9))] i134_49 rfl (by decide) rfl rfl (by omega) rfl rfl (by decide) rfl t57 (Nat.le_of_ble_eq_true rfl) (Nat.le_of_ble_eq_true rfl) rfl ?_
          refine c57_5 (B := B) 0 0 a1 a2 (m 0 8 9) (by omega) (hJ.up (by omega)) (by omega) (by omega) (by omega) (by omega) (fun m514 hJ515 km514 => ?_)
          show X (EE s) d 134 52 [(0, zr g0 40), (1, zi a1), (2, zi a2)] [] m514 _
          refine X.iconst 53 i134_52 rfl rfl (by decide) ?_
          refine X.retz i134_53 rfl t134 (by omega) ?_
          exact hQ 1 m514 (by first | trivial | omega) (hJ515.up (by omega)) (fun g => by simp only [km514]) 
        · refine X.cut [] i134_24 rfl ?_
          refine X.iconst 25 i134_24 rfl rfl (by decide) ?_
          refine X.retz i134_25 rfl t134 (by omega) ?_
          exact hQ 0 m (by first | trivial | omega) (hJ.up (by omega)) (fun g => rfl) 
-- WorkMeterModel.turnsOn
theorem c228_4 {s : Nat × (Nat → Int32)} {m0 m : zM} {B : Int} {d : Nat} {Q : Option zV → zM → Prop} (g0 : Nat) (a1 : Int) (hd : 14 ≤ d) (hJ : J m0 B m) (hB : B + 1 ≤ 1000000000) (ha1 : 0 ≤ a1 ∧ a1 ≤ 1) (hQ : ∀ m', J m0 (B + 1) m' → (∀ g, m' g 8 9 = m g 8 9) → Q none m') : X (EE s) d 228 0 [(0, zr g0 44), (1, zi a1)] [] m Q := by
  refine X.aload_n 1 i228_0 rfl rfl rfl ?_
  refine X.getF 4 i228_1 rfl rfl (by decide) rfl rfl ?_
  refine X.bipush 6 i228_4 rfl rfl (by decide) ?_
  refine X.iload_n 7 i228_6 rfl rfl rfl ?_
  refine X.iadd 8 i228_7 rfl rfl (by omega) ?_
  refine X.lconst (y := 1) 9 i228_8 rfl rfl rfl ?_
  refine X.last' 10 i228_9 rfl rfl (by decide) rfl (by omega) (fun hrm501 m501 hm501 => ?_)
  have hJ502 := w45_19 hJ hm501 (by omega) hrm501
  have km501 : ∀ g, m501 g 8 9 = m g 8 9 := fun g9 => by rw [hm501]; exact z_upd_o _ _ rfl
  refine X.aload_n 11 i228_10 rfl rfl rfl ?_
  refine X.getF 14 i228_11 rfl rfl (by decide) rfl rfl ?_
  refine X.bipush 16 i228_14 rfl rfl (by decide) ?_
  refine X.iload_n 17 i228_16 rfl rfl rfl ?_
  refine X.iadd 18 i228_17 rfl rfl (by omega) ?_
  refine X.dup2 19 i228_18 rfl rfl ?_
  refine X.lald 20 i228_19 rfl rfl (by decide) rfl (by omega) ?_
  refine X.lconst (y := 1) 21 i228_20 rfl rfl rfl ?_
  refine X.llF 22 .ladd (fun x y => x + y) i228_21 rfl rfl rfl (fun _ _ => rfl) (fun z503 hz503 => ?_)
  refine X.last' 23 i228_22 rfl rfl (by decide) rfl (by omega) (fun hrm504 m504 hm504 => ?_)
  have hJ505 := w45_19 hJ502 hm504 (by omega) hrm504
  have km504 : ∀ g, m504 g 8 9 = m501 g 8 9 := fun g9 => by rw [hm504]; exact z_upd_o _ _ rfl
  refine X.aload_n 24 i228_23 rfl rfl rfl ?_
  refine X.iload_n 25 i228_24 rfl rfl rfl ?_
  refine X.lconst (y := 0) 26 i228_25 rfl rfl rfl ?_
  refine X.callv 29 [zi a1, zl 0] [] [(0, zr g0 44), (1, zi a1), (2, zl 0)] i228_26 rfl (by decide) rfl rfl (by omega) rfl rfl (by decide) rfl t223 (Nat.le_of_ble_eq_true rfl) (Nat.le_of_ble_eq_true rfl) rfl ?_
  refine c223_1 (B := B) g0 a1 0 (by omega) (hJ505.up (by omega)) (by omega) (by omega) (by omega) (fun m506 hJ507 km506 => ?_)
  show X (EE s) d 228 29 [(0, zr g0 44), (1, zi a1)] [] m506 _
  refine X.retv i228_29 rfl t228 ?_
  exact hQ  m506  (hJ507.up (by omega)) (fun g => by simp only [km501, km504, km506]) 
-- WorkMeterModel.mark
theorem c283_1 {s : Nat × (Nat → Int32)} {m0 m : zM} {B : Int} {d : Nat} {Q : Option zV → zM → Prop} (g0 : Nat) (a1 a2 : Int) (hd : 15 ≤ d) (hJ : J m0 B m) (hB : B + 1 ≤ 1000000000) (ha1 : (-2147483648) ≤ a1 ∧ a1 ≤ 2147483647) (ha2 : 0 ≤ a2 ∧ a2 ≤ 1) (hQ : ∀ (v : Int) m', (0 ≤ v ∧ v ≤ 1) → J m0 (B + 1) m' → (∀ g, m' g 8 9 = m g 8 9) → Q (some (zi v)) m') : X (EE s) d 283 0 [(0, zr g0 44), (1, zi a1), (2, zi a2)] [] m Q := by
  refine X.iload_n 1 i283_0 rfl rfl rfl ?_
  refine X.i2l 2 i283_1 rfl rfl ?_
  refine X.lconst (y := 0) 3 i283_2 rfl rfl rfl ?_
  refine X.lconst (y := 1) 4 i283_3 rfl rfl rfl ?_
  refine X.calls 7 [zl a1, zl 0, zl 1] [] [(0, zl a1), (2, zl 0), (4, zl 1)] i283_4 (by decide) rfl rfl (by omega) rfl rfl t204 (Nat.le_of_ble_eq_true rfl) (Nat.le_of_ble_eq_true rfl) rfl ?_
  refine X.lload_n 1 i204_0 rfl rfl rfl ?_
  refine X.lload_n 2 i204_1 rfl rfl rfl ?_
  refine X.lcmp 3 i204_2 rfl rfl (fun z501 hz501 => ?_)
  refine X.iflt 17 6 i204_3 rfl rfl rfl (fun h502 => ?_) (fun h502 => ?_)
  · have h502c : a1 < 0 := by omega
    clear h502 hz501
    refine X.cut [] i204_17 rfl ?_
    refine X.iconst 18 i204_17 rfl rfl (by decide) ?_
    refine X.retz i204_18 rfl t204 (by omega) ?_
    show X (EE s) d 283 7 [(0, zr g0 44), (1, zi a1), (2, zi a2)] [zi 0] m _
    refine X.ifeq 33 10 i283_7 rfl rfl rfl (fun h503 => ?_) (fun h503 => (by exfalso; omega))
    refine X.cut [] i283_33 rfl ?_
    refine X.iconst 34 i283_33 rfl rfl (by decide) ?_
    refine X.retz i283_34 rfl t283 (by omega) ?_
    exact hQ 0 m (by first | trivial | omega) (hJ.up (by omega)) (fun g => rfl) 
  · have h502c : a1 ≥ 0 := by omega
    clear h502 hz501
    refine X.lload_n 7 i204_6 rfl rfl rfl ?_
    refine X.lload 9 i204_7 rfl rfl rfl ?_
    refine X.lcmp 10 i204_9 rfl rfl (fun z504 hz504 => ?_)
    refine X.ifgt 17 13 i204_10 rfl rfl rfl (fun h505 => ?_) (fun h505 => ?_)
    · have h505c : a1 > 1 := by omega
      clear h505 hz504
      refine X.cut [] i204_17 rfl ?_
      refine X.iconst 18 i204_17 rfl rfl (by decide) ?_
      refine X.retz i204_18 rfl t204 (by omega) ?_
      show X (EE s) d 283 7 [(0, zr g0 44), (1, zi a1), (2, zi a2)] [zi 0] m _
      refine X.ifeq 33 10 i283_7 rfl rfl rfl (fun h506 => ?_) (fun h506 => (by exfalso; omega))
      refine X.cut [] i283_33 rfl ?_
      refine X.iconst 34 i283_33 rfl rfl (by decide) ?_
      refine X.retz i283_34 rfl t283 (by omega) ?_
      exact hQ 0 m (by first | trivial | omega) (hJ.up (by omega)) (fun g => rfl) 
    · have h505c : a1 ≤ 1 := by omega
      clear h505 hz504
      refine X.iconst 14 i204_13 rfl rfl (by decide) ?_
      refine X.goto 18 i204_14 rfl rfl ?_
      refine X.cut [] i204_18 rfl ?_
      refine X.retz i204_18 rfl t204 (by omega) ?_
      show X (EE s) d 283 7 [(0, zr g0 44), (1, zi a1), (2, zi a2)] [zi 1] m _
      refine X.ifeq 33 10 i283_7 rfl rfl rfl (fun h507 => (by exfalso; omega)) (fun h507 => ?_)
      refine X.aload_n 11 i283_10 rfl rfl rfl ?_
      refine X.getF 14 i283_11 rfl rfl (by decide) rfl rfl ?_
      refine X.bipush 16 i283_14 rfl rfl (by decide) ?_
      refine X.iload_n 17 i283_16 rfl rfl rfl ?_
      refine X.iadd 18 i283_17 rfl rfl (by omega) ?_
      refine X.lald 19 i283_18 rfl rfl (by decide) rfl (by omega) ?_
      refine X.lconst (y := 1) 20 i283_19 rfl rfl rfl ?_
      refine X.lcmp 21 i283_20 rfl rfl (fun z508 hz508 => ?_)
      refine X.ifne 28 24 i283_21 rfl rfl rfl (fun h509 => ?_) (fun h509 => ?_)
      · have h509c : (m 4 45 (40 + a1)) ≠ 1 := by omega
        clear h509 hz508
        refine X.iconst 29 i283_28 rfl rfl (by decide) ?_
        refine X.iload_n 30 i283_29 rfl rfl rfl ?_
        refine X.icmpne 35 33 i283_30 rfl rfl rfl (fun h510 => ?_) (fun h510 => ?_)
        · refine X.iload_n 36 i283_35 rfl rfl rfl ?_
          refine X.ifeq 47 39 i283_36 rfl rfl rfl (fun h511 => ?_) (fun h511 => ?_)
          · refine X.cut [(0, zr g0 44), (1, zi a1)] i283_47 rfl ?_
            refine X.aload_n 48 i283_47 rfl rfl rfl ?_
            refine X.iload_n 49 i283_48 rfl rfl rfl ?_
            refine X.callv 52 [zi a1] [] [(0, zr g0 44), (1, zi a1)] i283_49 rfl (by decide) rfl rfl (by omega) rfl rfl (by decide) rfl t229 (Nat.le_of_ble_eq_true rfl) (Nat.le_of_ble_eq_true rfl) rfl ?_
            refine X.aload_n 1 i229_0 rfl rfl rfl ?_
            refine X.getF 4 i229_1 rfl rfl (by decide) rfl rfl ?_
            refine X.bipush 6 i229_4 rfl rfl (by decide) ?_
            refine X.iload_n 7 i229_6 rfl rfl rfl ?_
            refine X.iadd 8 i229_7 rfl rfl (by omega) ?_
            refine X.lconst (y := 0) 9 i229_8 rfl rfl rfl ?_
            refine X.last' 10 i229_9 rfl rfl (by decide) rfl (by omega) (fun hrm512 m512 hm512 => ?_)
            have hJ513 := w45_19 hJ hm512 (by omega) hrm512
            have km512 : ∀ g, m512 g 8 9 = m g 8 9 := fun g9 => by rw [hm512]; exact z_upd_o _ _ rfl
            refine X.aload_n 11 i229_10 rfl rfl rfl ?_
            refine X.bipush 13 i229_11 rfl rfl (by decide) ?_
            refine X.iload_n 14 i229_13 rfl rfl rfl ?_
            refine X.iadd 15 i229_14 rfl rfl (by omega) ?_
            refine X.lconst (y := 0) 16 i229_15 rfl rfl rfl ?_
            refine X.callv 19 [zi (10 + a1), zl 0] [] [(0, zr g0 44), (1, zi (10 + a1)), (2, zl 0)] i229_16 rfl (by decide) rfl rfl (by omega) rfl rfl (by decide) rfl t223 (Nat.le_of_ble_eq_true rfl) (Nat.le_of_ble_eq_true rfl) rfl ?_
            refine c223_1 (B := B) g0 (10 + a1) 0 (by omega) (hJ513.up (by omega)) (by omega) (by omega) (by omega) (fun m514 hJ515 km514 => ?_)
            show X (EE s) (d - 1) 229 19 [(0, zr g0 44), (1, zi a1)] [] m514 _
            refine X.retv i229_19 rfl t229 ?_
            show X (EE s) d 283 52 [(0, zr g0 44), (1, zi a1)] [] m514 _
            refine X.cut [] i283_52 rfl ?_
            refine X.iconst 53 i283_52 rfl rfl (by decide) ?_
            refine X.retz i283_53 rfl t283 (by omega) ?_
            exact hQ 1 m514 (by first | trivial | omega) (hJ515.up (by omega)) (fun g => by simp only [km512, km514]) 
          · refine X.aload_n 40 i283_39 rfl rfl rfl ?_
            refine X.iload_n 41 i283_40 rfl rfl rfl ?_
            refine X.callv 44 [zi a1] [] [(0, zr g0 44), (1, zi a1)] i283_41 rfl (by decide) rfl rfl (by omega) rfl rfl (by decide) rfl t228 (Nat.le_of_ble_eq_true rfl) (Nat.le_of_ble_eq_true rfl) rfl ?_
            refine c228_4 (B := B) g0 a1 (by omega) (hJ.up (by omega)) (by omega) (by omega) (fun m517 hJ518 km517 => ?_)
            show X (EE s) d 283 44 [(0, zr g0 44), (1, zi a1), (2, zi a2)] [] m517 _
            refine X.goto 52 i283_44 rfl rfl ?_
            refine X.cut [] i283_52 rfl ?_
            refine X.iconst 53 i283_52 rfl rfl (by decide) ?_
            refine X.retz i283_53 rfl t283 (by omega) ?_
            exact hQ 1 m517 (by first | trivial | omega) (hJ518.up (by omega)) (fun g => by simp only [km517]) 
        · refine X.cut [] i283_33 rfl ?_
          refine X.iconst 34 i283_33 rfl rfl (by decide) ?_
          refine X.retz i283_34 rfl t283 (by omega) ?_
          exact hQ 0 m (by first | trivial | omega) (hJ.up (by omega)) (fun g => rfl) 
      · have h509c : (m 4 45 (40 + a1)) = 1 := by omega
        clear h509 hz508
        refine X.iconst 25 i283_24 rfl rfl (by decide) ?_
        refine X.goto 29 i283_25 rfl rfl ?_
        refine X.iload_n 30 i283_29 rfl rfl rfl ?_
        refine X.icmpne 35 33 i283_30 rfl rfl rfl (fun h520 => ?_) (fun h520 => ?_)
        · refine X.iload_n 36 i283_35 rfl rfl rfl ?_
          refine X.ifeq 47 39 i283_36 rfl rfl rfl (fun h521 => ?_) (fun h521 => ?_)
          · refine X.cut [(0, zr g0 44), (1, zi a1)] i283_47 rfl ?_
            refine X.aload_n 48 i283_47 rfl rfl rfl ?_
            refine X.iload_n 49 i283_48 rfl rfl rfl ?_
            refine X.callv 52 [zi a1] [] [(0, zr g0 44), (1, zi a1)] i283_49 rfl (by decide) rfl rfl (by omega) rfl rfl (by decide) rfl t229 (Nat.le_of_ble_eq_true rfl) (Nat.le_of_ble_eq_true rfl) rfl ?_
            refine X.aload_n 1 i229_0 rfl rfl rfl ?_
            refine X.getF 4 i229_1 rfl rfl (by decide) rfl rfl ?_
            refine X.bipush 6 i229_4 rfl rfl (by decide) ?_
            refine X.iload_n 7 i229_6 rfl rfl rfl ?_
            refine X.iadd 8 i229_7 rfl rfl (by omega) ?_
            refine X.lconst (y := 0) 9 i229_8 rfl rfl rfl ?_
            refine X.last' 10 i229_9 rfl rfl (by decide) rfl (by omega) (fun hrm522 m522 hm522 => ?_)
            have hJ523 := w45_19 hJ hm522 (by omega) hrm522
            have km522 : ∀ g, m522 g 8 9 = m g 8 9 := fun g9 => by rw [hm522]; exact z_upd_o _ _ rfl
            refine X.aload_n 11 i229_10 rfl rfl rfl ?_
            refine X.bipush 13 i229_11 rfl rfl (by decide) ?_
            refine X.iload_n 14 i229_13 rfl rfl rfl ?_
            refine X.iadd 15 i229_14 rfl rfl (by omega) ?_
            refine X.lconst (y := 0) 16 i229_15 rfl rfl rfl ?_
            refine X.callv 19 [zi (10 + a1), zl 0] [] [(0, zr g0 44), (1, zi (10 + a1)), (2, zl 0)] i229_16 rfl (by decide) rfl rfl (by omega) rfl rfl (by decide) rfl t223 (Nat.le_of_ble_eq_true rfl) (Nat.le_of_ble_eq_true rfl) rfl ?_
            refine c223_1 (B := B) g0 (10 + a1) 0 (by omega) (hJ523.up (by omega)) (by omega) (by omega) (by omega) (fun m524 hJ525 km524 => ?_)
            show X (EE s) (d - 1) 229 19 [(0, zr g0 44), (1, zi a1)] [] m524 _
            refine X.retv i229_19 rfl t229 ?_
            show X (EE s) d 283 52 [(0, zr g0 44), (1, zi a1)] [] m524 _
            refine X.cut [] i283_52 rfl ?_
            refine X.iconst 53 i283_52 rfl rfl (by decide) ?_
            refine X.retz i283_53 rfl t283 (by omega) ?_
            exact hQ 1 m524 (by first | trivial | omega) (hJ525.up (by omega)) (fun g => by simp only [km522, km524]) 
          · refine X.aload_n 40 i283_39 rfl rfl rfl ?_
            refine X.iload_n 41 i283_40 rfl rfl rfl ?_
            refine X.callv 44 [zi a1] [] [(0, zr g0 44), (1, zi a1)] i283_41 rfl (by decide) rfl rfl (by omega) rfl rfl (by decide) rfl t228 (Nat.le_of_ble_eq_true rfl) (Nat.le_of_ble_eq_true rfl) rfl ?_
            refine c228_4 (B := B) g0 a1 (by omega) (hJ.up (by omega)) (by omega) (by omega) (fun m527 hJ528 km527 => ?_)
            show X (EE s) d 283 44 [(0, zr g0 44), (1, zi a1), (2, zi a2)] [] m527 _
            refine X.goto 52 i283_44 rfl rfl ?_
            refine X.cut [] i283_52 rfl ?_
            refine X.iconst 53 i283_52 rfl rfl (by decide) ?_
            refine X.retz i283_53 rfl t283 (by omega) ?_
            exact hQ 1 m527 (by first | trivial | omega) (hJ528.up (by omega)) (fun g => by simp only [km527]) 
        · refine X.cut [] i283_33 rfl ?_
          refine X.iconst 34 i283_33 rfl rfl (by decide) ?_
          refine X.retz i283_34 rfl t283 (by omega) ?_
          exact hQ 0 m (by first | trivial | omega) (hJ.up (by omega)) (fun g => rfl) 
-- WorkMeter.prepaid
theorem c135_1 {s : Nat × (Nat → Int32)} {m0 m : zM} {B : Int} {d : Nat} {Q : Option zV → zM → Prop} (g0 : Nat) (a1 : Int) (hd : 13 ≤ d) (hJ : J m0 B m) (hB : B + 1 ≤ 1000000000) (ha1 : 0 ≤ a1 ∧ a1 ≤ 1) (hQ : ∀ (n0 : zM) (v : Int) m', (0 ≤ v ∧ v ≤ 1) → J n0 (B + 1) m' → (∀ g, m' g 8 9 = m g 8 9) → ((v = 0 ∧ a1 = m0 0 8 11 ∧ n0 = m0) ∨ (v = 1 ∧ ¬ (a1 = m0 0 8 11) ∧ n0 = z_upd m0 0 8 11 a1)) → Q (some (zi v)) m') : X (EE s) d 135 0 [(0, zr g0 40), (1, zi a1)] [] m Q := by
  have f0 := hJ.2 0 8 11 rfl
  refine X.aload_n 1 i135_0 rfl rfl rfl ?_
  refine X.getF 4 i135_1 rfl rfl (by decide) rfl rfl ?_
  refine X.getZ 7 11 i135_4 rfl rfl (by decide) rfl rfl rfl (fun h501 => ?_)
  have t502 := hJ.2 0 8 11 rfl
  refine X.iload_n 8 i135_7 rfl rfl rfl ?_
  refine X.icmpne 13 11 i135_8 rfl rfl rfl (fun h503 => ?_) (fun h503 => ?_)
  · refine X.aload_n 14 i135_13 rfl rfl rfl ?_
    refine X.getF 17 i135_14 rfl rfl (by decide) rfl rfl ?_
    refine X.iload_n 18 i135_17 rfl rfl rfl ?_
    refine X.putZ' 21 11 i135_18 rfl rfl (by decide) rfl rfl rfl (by omega) (fun hrm504 m504 hm504 => ?_)
    have hJ505 := v8_11 hJ hm504 (by omega)
    have em504 : m504 0 8 11 = a1 := by rw [hm504]; exact z_upd_same _ _ _ _ _
    have km504 : ∀ g, m504 g 8 9 = m g 8 9 := fun g9 => by rw [hm504]; exact z_upd_o _ _ rfl
    refine X.aload_n 22 i135_21 rfl rfl rfl ?_
    refine X.getF 25 i135_22 rfl rfl (by decide) rfl rfl ?_
    refine X.callv 28 [] [] [(0, zr 0 8)] i135_25 rfl (by decide) rfl rfl (by omega) rfl rfl (by decide) rfl t53 (Nat.le_of_ble_eq_true rfl) (Nat.le_of_ble_eq_true rfl) rfl ?_
    refine X.aload_n 1 i53_0 rfl rfl rfl ?_
    refine X.getZ 4 11 i53_1 rfl rfl (by decide) rfl rfl rfl (fun h506 => ?_)
    have t507 := hJ505.2 0 8 11 rfl
    try simp only [z_upd_same] at t507
    try rw [z_upd_o _ _ rfl] at t507
    refine X.ifeq 20 7 i53_4 rfl rfl rfl (fun h508 => ?_) (fun h508 => ?_)
    · refine X.iconst 21 i53_20 rfl rfl (by decide) ?_
      refine X.istore_n 22 [(0, zr 0 8), (1, zi 0)] i53_21 rfl rfl rfl ?_
      refine X.iload_n 23 i53_22 rfl rfl rfl ?_
      refine X.aload_n 24 i53_23 rfl rfl rfl ?_
      refine X.getZ 27 12 i53_24 rfl rfl (by decide) rfl rfl rfl (fun h509 => ?_)
      refine X.icmpeq 54 30 i53_27 rfl rfl rfl (fun h510 => ?_) (fun h510 => ?_)
      · refine X.cut [] i53_54 rfl ?_
        refine X.retv i53_54 rfl t53 ?_
        show X (EE s) d 135 28 [(0, zr g0 40), (1, zi a1)] [] m504 _
        refine X.iconst 29 i135_28 rfl rfl (by decide) ?_
        refine X.retz i135_29 rfl t135 (by omega) ?_
        exact hQ (z_upd m0 0 8 11 a1) 1 m504 (by first | trivial | omega) (hJ505.up (by omega)) (fun g => by simp only [km504]) (by first | exact .inl ⟨rfl, by omega, rfl⟩ | exact .inr ⟨rfl, by omega, rfl⟩ | exact .inr ⟨rfl, by omega, congrArg _ (by omega)⟩) 
      · refine X.aload_n 31 i53_30 rfl rfl rfl ?_
        refine X.iload_n 32 i53_31 rfl rfl rfl ?_
        refine X.putZ' 35 12 i53_32 rfl rfl (by decide) rfl rfl rfl (by omega) (fun hrm511 m511 hm511 => ?_)
        have hJ512 := w8_12 hJ505 hm511 (by omega)
        have km511 : ∀ g, m511 g 8 9 = m504 g 8 9 := fun g9 => by rw [hm511]; exact z_upd_o _ _ rfl
        refine X.aload_n 36 i53_35 rfl rfl rfl ?_
        refine X.aload_n 37 i53_36 rfl rfl rfl ?_
        refine X.getZ 40 12 i53_37 rfl rfl (by decide) rfl rfl rfl (fun h513 => ?_)
        refine X.ifeq 48 43 i53_40 rfl rfl rfl (fun h514 => ?_) (fun h514 => ?_)
        · refine X.cut [] i53_48 rfl ?_
          refine X.bipush 50 i53_48 rfl rfl (by decide) ?_
          refine X.iconst 51 i53_50 rfl rfl (by decide) ?_
          refine X.callv 54 [zi 23, zi 0] [] [(0, zr 0 8), (1, zi 23), (2, zi 0)] i53_51 rfl (by decide) rfl rfl (by omega) rfl rfl (by decide) rfl t54 (Nat.le_of_ble_eq_true rfl) (Nat.le_of_ble_eq_true rfl) rfl ?_
          refine X.aload_n 1 i54_0 rfl rfl rfl ?_
          refine X.getR 4 i54_1 rfl rfl (by decide) rfl rfl ?_
          refine X.aload_n 5 i54_4 rfl rfl rfl ?_
          refine X.getI 8 9 i54_5 rfl rfl (by decide) rfl rfl rfl ?_
          have h515 := r8_9 hJ512 0
          refine X.iload_n 9 i54_8 rfl rfl rfl ?_
          refine X.iload_n 10 i54_9 rfl rfl rfl ?_
          refine X.callv 13 [zi (m511 0 8 9), zi 23, zi 0] [] [(0, zr 0 37), (1, zi (m511 0 8 9)), (2, zi 23), (3, zi 0)] i54_10 rfl (by decide) rfl rfl (by omega) rfl rfl (by decide) rfl t55 (Nat.le_of_ble_eq_true rfl) (Nat.le_of_ble_eq_true rfl) rfl ?_
          refine X.aload_n 1 i55_0 rfl rfl rfl ?_
          refine X.getI 4 1 i55_1 rfl rfl (by decide) rfl rfl rfl ?_
          have h516 := r37_1 hJ512 0
          refine X.bipush 6 i55_4 rfl rfl (by decide) ?_
          refine X.irem 7 i55_6 rfl rfl (by omega) ?_
          refine X.iconst 8 i55_7 rfl rfl (by decide) ?_
          refine X.imul 9 i55_8 rfl rfl (by omega) ?_
          refine X.istore 11 [(0, zr 0 37), (1, zi (m511 0 8 9)), (2, zi 23), (3, zi 0), (4, zi (((m511 0 37 1) % 40) * 3))] i55_9 rfl rfl rfl ?_
          refine X.aload_n 12 i55_11 rfl rfl rfl ?_
          refine X.getR 15 i55_12 rfl rfl (by decide) rfl rfl ?_
          refine X.iload 17 i55_15 rfl rfl rfl ?_
          refine X.iload_n 18 i55_17 rfl rfl rfl ?_
          refine X.iast' 19 i55_18 rfl rfl (by decide) rfl (by omega) (fun hrm517 m517 hm517 => ?_)
          have hJ518 := w38_0 hJ512 hm517 (by omega) hrm517
          have km517 : ∀ g, m517 g 8 9 = m511 g 8 9 := fun g9 => by rw [hm517]; exact z_upd_o _ _ rfl
          refine X.aload_n 20 i55_19 rfl rfl rfl ?_
          refine X.getR 23 i55_20 rfl rfl (by decide) rfl rfl ?_
          refine X.iload 25 i55_23 rfl rfl rfl ?_
          refine X.iconst 26 i55_25 rfl rfl (by decide) ?_
          refine X.iadd 27 i55_26 rfl rfl (by omega) ?_
          refine X.iload_n 28 i55_27 rfl rfl rfl ?_
          refine X.iast' 29 i55_28 rfl rfl (by decide) rfl (by omega) (fun hrm519 m519 hm519 => ?_)
          have hJ520 := w38_0 hJ518 hm519 (by omega) hrm519
          have km519 : ∀ g, m519 g 8 9 = m517 g 8 9 := fun g9 => by rw [hm519]; exact z_upd_o _ _ rfl
          refine X.aload_n 30 i55_29 rfl rfl rfl ?_
          refine X.getR 33 i55_30 rfl rfl (by decide) rfl rfl ?_
          refine X.iload 35 i55_33 rfl rfl rfl ?_
          refine X.iconst 36 i55_35 rfl rfl (by decide) ?_
          refine X.iadd 37 i55_36 rfl rfl (by omega) ?_
          refine X.iload_n 38 i55_37 rfl rfl rfl ?_
          refine X.iast' 39 i55_38 rfl rfl (by decide) rfl (by omega) (fun hrm521 m521 hm521 => ?_)
          have hJ522 := w38_0 hJ520 hm521 (by omega) hrm521
          have km521 : ∀ g, m521 g 8 9 = m519 g 8 9 := fun g9 => by rw [hm521]; exact z_upd_o _ _ rfl
          refine X.aload_n 40 i55_39 rfl rfl rfl ?_
          refine X.dup 41 i55_40 rfl rfl rfl ?_
          refine X.getI 44 1 i55_41 rfl rfl (by decide) rfl rfl rfl ?_
          have h523 := r37_1 hJ522 0
          refine X.iconst 45 i55_44 rfl rfl (by decide) ?_
          refine X.iadd 46 i55_45 rfl rfl (by omega) ?_
          refine X.putI' 49 1 i55_46 rfl rfl (by decide) rfl rfl rfl (fun hrm524 m524 hm524 => ?_)
          have hJ525 := w37_1 (hJ522.up (B' := B + 1) (by omega)) hm524 (by omega)
          have km524 : ∀ g, m524 g 8 9 = m521 g 8 9 := fun g9 => by rw [hm524]; exact z_upd_o _ _ rfl
          refine X.retv i55_49 rfl t55 ?_
          show X (EE s) ((d - 1) - 1) 54 13 [(0, zr 0 8), (1, zi 23), (2, zi 0)] [] m524 _
          refine X.retv i54_13 rfl t54 ?_
          show X (EE s) (d - 1) 53 54 [] [] m524 _
          refine X.retv i53_54 rfl t53 ?_
          show X (EE s) d 135 28 [(0, zr g0 40), (1, zi a1)] [] m524 _
          refine X.iconst 29 i135_28 rfl rfl (by decide) ?_
          refine X.retz i135_29 rfl t135 (by omega) ?_
          exact hQ (z_upd m0 0 8 11 a1) 1 m524 (by first | trivial | omega) (hJ525.up (by omega)) (fun g => by simp only [km504, km511, km517, km519, km521, km524]) (by first | exact .inl ⟨rfl, by omega, rfl⟩ | exact .inr ⟨rfl, by omega, rfl⟩ | exact .inr ⟨rfl, by omega, congrArg _ (by omega)⟩) 
        · refine X.bipush 45 i53_43 rfl rfl (by decide) ?_
          refine X.goto 50 i53_45 rfl rfl ?_
          refine X.cut [] i53_50 rfl ?_
          refine X.iconst 51 i53_50 rfl rfl (by decide) ?_
          refine X.callv 54 [zi 22, zi 0] [] [(0, zr 0 8), (1, zi 22), (2, zi 0)] i53_51 rfl (by decide) rfl rfl (by omega) rfl rfl (by decide) rfl t54 (Nat.le_of_ble_eq_true rfl) (Nat.le_of_ble_eq_true rfl) rfl ?_
          refine X.aload_n 1 i54_0 rfl rfl rfl ?_
          refine X.getR 4 i54_1 rfl rfl (by decide) rfl rfl ?_
          refine X.aload_n 5 i54_4 rfl rfl rfl ?_
          refine X.getI 8 9 i54_5 rfl rfl (by decide) rfl rfl rfl ?_
          have h526 := r8_9 hJ512 0
          refine X.iload_n 9 i54_8 rfl rfl rfl ?_
          refine X.iload_n 10 i54_9 rfl rfl rfl ?_
          refine X.callv 13 [zi (m511 0 8 9), zi 22, zi 0] [] [(0, zr 0 37), (1, zi (m511 0 8 9)), (2, zi 22), (3, zi 0)] i54_10 rfl (by decide) rfl rfl (by omega) rfl rfl (by decide) rfl t55 (Nat.le_of_ble_eq_true rfl) (Nat.le_of_ble_eq_true rfl) rfl ?_
          refine X.aload_n 1 i55_0 rfl rfl rfl ?_
          refine X.getI 4 1 i55_1 rfl rfl (by decide) rfl rfl rfl ?_
          have h527 := r37_1 hJ512 0
          refine X.bipush 6 i55_4 rfl rfl (by decide) ?_
          refine X.irem 7 i55_6 rfl rfl (by omega) ?_
          refine X.iconst 8 i55_7 rfl rfl (by decide) ?_
          refine X.imul 9 i55_8 rfl rfl (by omega) ?_
          refine X.istore 11 [(0, zr 0 37), (1, zi (m511 0 8 9)), (2, zi 22), (3, zi 0), (4, zi (((m511 0 37 1) % 40) * 3))] i55_9 rfl rfl rfl ?_
          refine X.aload_n 12 i55_11 rfl rfl rfl ?_
          refine X.getR 15 i55_12 rfl rfl (by decide) rfl rfl ?_
          refine X.iload 17 i55_15 rfl rfl rfl ?_
          refine X.iload_n 18 i55_17 rfl rfl rfl ?_
          refine X.iast' 19 i55_18 rfl rfl (by decide) rfl (by omega) (fun hrm528 m528 hm528 => ?_)
          have hJ529 := w38_0 hJ512 hm528 (by omega) hrm528
          have km528 : ∀ g, m528 g 8 9 = m511 g 8 9 := fun g9 => by rw [hm528]; exact z_upd_o _ _ rfl
          refine X.aload_n 20 i55_19 rfl rfl rfl ?_
          refine X.getR 23 i55_20 rfl rfl (by decide) rfl rfl ?_
          refine X.iload 25 i55_23 rfl rfl rfl ?_
          refine X.iconst 26 i55_25 rfl rfl (by decide) ?_
          refine X.iadd 27 i55_26 rfl rfl (by omega) ?_
          refine X.iload_n 28 i55_27 rfl rfl rfl ?_
          refine X.iast' 29 i55_28 rfl rfl (by decide) rfl (by omega) (fun hrm530 m530 hm530 => ?_)
          have hJ531 := w38_0 hJ529 hm530 (by omega) hrm530
          have km530 : ∀ g, m530 g 8 9 = m528 g 8 9 := fun g9 => by rw [hm530]; exact z_upd_o _ _ rfl
          refine X.aload_n 30 i55_29 rfl rfl rfl ?_
          refine X.getR 33 i55_30 rfl rfl (by decide) rfl rfl ?_
          refine X.iload 35 i55_33 rfl rfl rfl ?_
          refine X.iconst 36 i55_35 rfl rfl (by decide) ?_
          refine X.iadd 37 i55_36 rfl rfl (by omega) ?_
          refine X.iload_n 38 i55_37 rfl rfl rfl ?_
          refine X.iast' 39 i55_38 rfl rfl (by decide) rfl (by omega) (fun hrm532 m532 hm532 => ?_)
          have hJ533 := w38_0 hJ531 hm532 (by omega) hrm532
          have km532 : ∀ g, m532 g 8 9 = m530 g 8 9 := fun g9 => by rw [hm532]; exact z_upd_o _ _ rfl
          refine X.aload_n 40 i55_39 rfl rfl rfl ?_
          refine X.dup 41 i55_40 rfl rfl rfl ?_
          refine X.getI 44 1 i55_41 rfl rfl (by decide) rfl rfl rfl ?_
          have h534 := r37_1 hJ533 0
          refine X.iconst 45 i55_44 rfl rfl (by decide) ?_
          refine X.iadd 46 i55_45 rfl rfl (by omega) ?_
          refine X.putI' 49 1 i55_46 rfl rfl (by decide) rfl rfl rfl (fun hrm535 m535 hm535 => ?_)
          have hJ536 := w37_1 (hJ533.up (B' := B + 1) (by omega)) hm535 (by omega)
          have km535 : ∀ g, m535 g 8 9 = m532 g 8 9 := fun g9 => by rw [hm535]; exact z_upd_o _ _ rfl
          refine X.retv i55_49 rfl t55 ?_
          show X (EE s) ((d - 1) - 1) 54 13 [(0, zr 0 8), (1, zi 22), (2, zi 0)] [] m535 _
          refine X.retv i54_13 rfl t54 ?_
          show X (EE s) (d - 1) 53 54 [] [] m535 _
          refine X.retv i53_54 rfl t53 ?_
          show X (EE s) d 135 28 [(0, zr g0 40), (1, zi a1)] [] m535 _
          refine X.iconst 29 i135_28 rfl rfl (by decide) ?_
          refine X.retz i135_29 rfl t135 (by omega) ?_
          exact hQ (z_upd m0 0 8 11 a1) 1 m535 (by first | trivial | omega) (hJ536.up (by omega)) (fun g => by simp only [km504, km511, km528, km530, km532, km535]) (by first | exact .inl ⟨rfl, by omega, rfl⟩ | exact .inr ⟨rfl, by omega, rfl⟩ | exact .inr ⟨rfl, by omega, congrArg _ (by omega)⟩) 
    · refine X.aload_n 8 i53_7 rfl rfl rfl ?_
      refine X.getL 11 10 i53_8 rfl rfl (by decide) rfl rfl rfl ?_
      refine X.lconst (y := 0) 12 i53_11 rfl rfl rfl ?_
      refine X.lcmp 13 i53_12 rfl rfl (fun z537 hz537 => ?_)
      refine X.ifgt 20 16 i53_13 rfl rfl rfl (fun h538 => ?_) (fun h538 => ?_)
      · have h538c : (m504 0 8 10) > 0 := by omega
        clear h538 hz537
        refine X.iconst 21 i53_20 rfl rfl (by decide) ?_
        refine X.istore_n 22 [(0, zr 0 8), (1, zi 0)] i53_21 rfl rfl rfl ?_
        refine X.iload_n 23 i53_22 rfl rfl rfl ?_
        refine X.aload_n 24 i53_23 rfl rfl rfl ?_
        refine X.getZ 27 12 i53_24 rfl rfl (by decide) rfl rfl rfl (fun h539 => ?_)
        refine X.icmpeq 54 30 i53_27 rfl rfl rfl (fun h540 => ?_) (fun h540 => ?_)
        · refine X.cut [] i53_54 rfl ?_
          refine X.retv i53_54 rfl t53 ?_
          show X (EE s) d 135 28 [(0, zr g0 40), (1, zi a1)] [] m504 _
          refine X.iconst 29 i135_28 rfl rfl (by decide) ?_
          refine X.retz i135_29 rfl t135 (by omega) ?_
          exact hQ (z_upd m0 0 8 11 a1) 1 m504 (by first | trivial | omega) (hJ505.up (by omega)) (fun g => by simp only [km504]) (by first | exact .inl ⟨rfl, by omega, rfl⟩ | exact .inr ⟨rfl, by omega, rfl⟩ | exact .inr ⟨rfl, by omega, congrArg _ (by omega)⟩) 
        · refine X.aload_n 31 i53_30 rfl rfl rfl ?_
          refine X.iload_n 32 i53_31 rfl rfl rfl ?_
          refine X.putZ' 35 12 i53_32 rfl rfl (by decide) rfl rfl rfl (by omega) (fun hrm541 m541 hm541 => ?_)
          have hJ542 := w8_12 hJ505 hm541 (by omega)
          have km541 : ∀ g, m541 g 8 9 = m504 g 8 9 := fun g9 => by rw [hm541]; exact z_upd_o _ _ rfl
          refine X.aload_n 36 i53_35 rfl rfl rfl ?_
          refine X.aload_n 37 i53_36 rfl rfl rfl ?_
          refine X.getZ 40 12 i53_37 rfl rfl (by decide) rfl rfl rfl (fun h543 => ?_)
          refine X.ifeq 48 43 i53_40 rfl rfl rfl (fun h544 => ?_) (fun h544 => ?_)
          · refine X.cut [] i53_48 rfl ?_
            refine X.bipush 50 i53_48 rfl rfl (by decide) ?_
            refine X.iconst 51 i53_50 rfl rfl (by decide) ?_
            refine X.callv 54 [zi 23, zi 0] [] [(0, zr 0 8), (1, zi 23), (2, zi 0)] i53_51 rfl (by decide) rfl rfl (by omega) rfl rfl (by decide) rfl t54 (Nat.le_of_ble_eq_true rfl) (Nat.le_of_ble_eq_true rfl) rfl ?_
            refine X.aload_n 1 i54_0 rfl rfl rfl ?_
            refine X.getR 4 i54_1 rfl rfl (by decide) rfl rfl ?_
            refine X.aload_n 5 i54_4 rfl rfl rfl ?_
            refine X.getI 8 9 i54_5 rfl rfl (by decide) rfl rfl rfl ?_
            have h545 := r8_9 hJ542 0
            refine X.iload_n 9 i54_8 rfl rfl rfl ?_
            refine X.iload_n 10 i54_9 rfl rfl rfl ?_
            refine X.callv 13 [zi (m541 0 8 9), zi 23, zi 0] [] [(0, zr 0 37), (1, zi (m541 0 8 9)), (2, zi 23), (3, zi 0)] i54_10 rfl (by decide) rfl rfl (by omega) rfl rfl (by decide) rfl t55 (Nat.le_of_ble_eq_true rfl) (Nat.le_of_ble_eq_true rfl) rfl ?_
            refine X.aload_n 1 i55_0 rfl rfl rfl ?_
            refine X.getI 4 1 i55_1 rfl rfl (by decide) rfl rfl rfl ?_
            have h546 := r37_1 hJ542 0
            refine X.bipush 6 i55_4 rfl rfl (by decide) ?_
            refine X.irem 7 i55_6 rfl rfl (by omega) ?_
            refine X.iconst 8 i55_7 rfl rfl (by decide) ?_
            refine X.imul 9 i55_8 rfl rfl (by omega) ?_
            refine X.istore 11 [(0, zr 0 37), (1, zi (m541 0 8 9)), (2, zi 23), (3, zi 0), (4, zi (((m541 0 37 1) % 40) * 3))] i55_9 rfl rfl rfl ?_
            refine X.aload_n 12 i55_11 rfl rfl rfl ?_
            refine X.getR 15 i55_12 rfl rfl (by decide) rfl rfl ?_
            refine X.iload 17 i55_15 rfl rfl rfl ?_
            refine X.iload_n 18 i55_17 rfl rfl rfl ?_
            refine X.iast' 19 i55_18 rfl rfl (by decide) rfl (by omega) (fun hrm547 m547 hm547 => ?_)
            have hJ548 := w38_0 hJ542 hm547 (by omega) hrm547
            have km547 : ∀ g, m547 g 8 9 = m541 g 8 9 := fun g9 => by rw [hm547]; exact z_upd_o _ _ rfl
            refine X.aload_n 20 i55_19 rfl rfl rfl ?_
            refine X.getR 23 i55_20 rfl rfl (by decide) rfl rfl ?_
            refine X.iload 25 i55_23 rfl rfl rfl ?_
            refine X.iconst 26 i55_25 rfl rfl (by decide) ?_
            refine X.iadd 27 i55_26 rfl rfl (by omega) ?_
            refine X.iload_n 28 i55_27 rfl rfl rfl ?_
            refine X.iast' 29 i55_28 rfl rfl (by decide) rfl (by omega) (fun hrm549 m549 hm549 => ?_)
            have hJ550 := w38_0 hJ548 hm549 (by omega) hrm549
            have km549 : ∀ g, m549 g 8 9 = m547 g 8 9 := fun g9 => by rw [hm549]; exact z_upd_o _ _ rfl
            refine X.aload_n 30 i55_29 rfl rfl rfl ?_
            refine X.getR 33 i55_30 rfl rfl (by decide) rfl rfl ?_
            refine X.iload 35 i55_33 rfl rfl rfl ?_
            refine X.iconst 36 i55_35 rfl rfl (by decide) ?_
            refine X.iadd 37 i55_36 rfl rfl (by omega) ?_
            refine X.iload_n 38 i55_37 rfl rfl rfl ?_
            refine X.iast' 39 i55_38 rfl rfl (by decide) rfl (by omega) (fun hrm551 m551 hm551 => ?_)
            have hJ552 := w38_0 hJ550 hm551 (by omega) hrm551
            have km551 : ∀ g, m551 g 8 9 = m549 g 8 9 := fun g9 => by rw [hm551]; exact z_upd_o _ _ rfl
            refine X.aload_n 40 i55_39 rfl rfl rfl ?_
            refine X.dup 41 i55_40 rfl rfl rfl ?_
            refine X.getI 44 1 i55_41 rfl rfl (by decide) rfl rfl rfl ?_
            have h553 := r37_1 hJ552 0
            refine X.iconst 45 i55_44 rfl rfl (by decide) ?_
            refine X.iadd 46 i55_45 rfl rfl (by omega) ?_
            refine X.putI' 49 1 i55_46 rfl rfl (by decide) rfl rfl rfl (fun hrm554 m554 hm554 => ?_)
            have hJ555 := w37_1 (hJ552.up (B' := B + 1) (by omega)) hm554 (by omega)
            have km554 : ∀ g, m554 g 8 9 = m551 g 8 9 := fun g9 => by rw [hm554]; exact z_upd_o _ _ rfl
            refine X.retv i55_49 rfl t55 ?_
            show X (EE s) ((d - 1) - 1) 54 13 [(0, zr 0 8), (1, zi 23), (2, zi 0)] [] m554 _
            refine X.retv i54_13 rfl t54 ?_
            show X (EE s) (d - 1) 53 54 [] [] m554 _
            refine X.retv i53_54 rfl t53 ?_
            show X (EE s) d 135 28 [(0, zr g0 40), (1, zi a1)] [] m554 _
            refine X.iconst 29 i135_28 rfl rfl (by decide) ?_
            refine X.retz i135_29 rfl t135 (by omega) ?_
            exact hQ (z_upd m0 0 8 11 a1) 1 m554 (by first | trivial | omega) (hJ555.up (by omega)) (fun g => by simp only [km504, km541, km547, km549, km551, km554]) (by first | exact .inl ⟨rfl, by omega, rfl⟩ | exact .inr ⟨rfl, by omega, rfl⟩ | exact .inr ⟨rfl, by omega, congrArg _ (by omega)⟩) 
          · refine X.bipush 45 i53_43 rfl rfl (by decide) ?_
            refine X.goto 50 i53_45 rfl rfl ?_
            refine X.cut [] i53_50 rfl ?_
            refine X.iconst 51 i53_50 rfl rfl (by decide) ?_
            refine X.callv 54 [zi 22, zi 0] [] [(0, zr 0 8), (1, zi 22), (2, zi 0)] i53_51 rfl (by decide) rfl rfl (by omega) rfl rfl (by decide) rfl t54 (Nat.le_of_ble_eq_true rfl) (Nat.le_of_ble_eq_true rfl) rfl ?_
            refine X.aload_n 1 i54_0 rfl rfl rfl ?_
            refine X.getR 4 i54_1 rfl rfl (by decide) rfl rfl ?_
            refine X.aload_n 5 i54_4 rfl rfl rfl ?_
            refine X.getI 8 9 i54_5 rfl rfl (by decide) rfl rfl rfl ?_
            have h556 := r8_9 hJ542 0
            refine X.iload_n 9 i54_8 rfl rfl rfl ?_
            refine X.iload_n 10 i54_9 rfl rfl rfl ?_
            refine X.callv 13 [zi (m541 0 8 9), zi 22, zi 0] [] [(0, zr 0 37), (1, zi (m541 0 8 9)), (2, zi 22), (3, zi 0)] i54_10 rfl (by decide) rfl rfl (by omega) rfl rfl (by decide) rfl t55 (Nat.le_of_ble_eq_true rfl) (Nat.le_of_ble_eq_true rfl) rfl ?_
            refine X.aload_n 1 i55_0 rfl rfl rfl ?_
            refine X.getI 4 1 i55_1 rfl rfl (by decide) rfl rfl rfl ?_
            have h557 := r37_1 hJ542 0
            refine X.bipush 6 i55_4 rfl rfl (by decide) ?_
            refine X.irem 7 i55_6 rfl rfl (by omega) ?_
            refine X.iconst 8 i55_7 rfl rfl (by decide) ?_
            refine X.imul 9 i55_8 rfl rfl (by omega) ?_
            refine X.istore 11 [(0, zr 0 37), (1, zi (m541 0 8 9)), (2, zi 22), (3, zi 0), (4, zi (((m541 0 37 1) % 40) * 3))] i55_9 rfl rfl rfl ?_
            refine X.aload_n 12 i55_11 rfl rfl rfl ?_
            refine X.getR 15 i55_12 rfl rfl (by decide) rfl rfl ?_
            refine X.iload 17 i55_15 rfl rfl rfl ?_
            refine X.iload_n 18 i55_17 rfl rfl rfl ?_
            refine X.iast' 19 i55_18 rfl rfl (by decide) rfl (by omega) (fun hrm558 m558 hm558 => ?_)
            have hJ559 := w38_0 hJ542 hm558 (by omega) hrm558
            have km558 : ∀ g, m558 g 8 9 = m541 g 8 9 := fun g9 => by rw [hm558]; exact z_upd_o _ _ rfl
            refine X.aload_n 20 i55_19 rfl rfl rfl ?_
            refine X.getR 23 i55_20 rfl rfl (by decide) rfl rfl ?_
            refine X.iload 25 i55_23 rfl rfl rfl ?_
            refine X.iconst 26 i55_25 rfl rfl (by decide) ?_
            refine X.iadd 27 i55_26 rfl rfl (by omega) ?_
            refine X.iload_n 28 i55_27 rfl rfl rfl ?_
            refine X.iast' 29 i55_28 rfl rfl (by decide) rfl (by omega) (fun hrm560 m560 hm560 => ?_)
            have hJ561 := w38_0 hJ559 hm560 (by omega) hrm560
            have km560 : ∀ g, m560 g 8 9 = m558 g 8 9 := fun g9 => by rw [hm560]; exact z_upd_o _ _ rfl
            refine X.aload_n 30 i55_29 rfl rfl rfl ?_
            refine X.getR 33 i55_30 rfl rfl (by decide) rfl rfl ?_
            refine X.iload 35 i55_33 rfl rfl rfl ?_
            refine X.iconst 36 i55_35 rfl rfl (by decide) ?_
            refine X.iadd 37 i55_36 rfl rfl (by omega) ?_
            refine X.iload_n 38 i55_37 rfl rfl rfl ?_
            refine X.iast' 39 i55_38 rfl rfl (by decide) rfl (by omega) (fun hrm562 m562 hm562 => ?_)
            have hJ563 := w38_0 hJ561 hm562 (by omega) hrm562
            have km562 : ∀ g, m562 g 8 9 = m560 g 8 9 := fun g9 => by rw [hm562]; exact z_upd_o _ _ rfl
            refine X.aload_n 40 i55_39 rfl rfl rfl ?_
            refine X.dup 41 i55_40 rfl rfl rfl ?_
            refine X.getI 44 1 i55_41 rfl rfl (by decide) rfl rfl rfl ?_
            have h564 := r37_1 hJ563 0
            refine X.iconst 45 i55_44 rfl rfl (by decide) ?_
            refine X.iadd 46 i55_45 rfl rfl (by omega) ?_
            refine X.putI' 49 1 i55_46 rfl rfl (by decide) rfl rfl rfl (fun hrm565 m565 hm565 => ?_)
            have hJ566 := w37_1 (hJ563.up (B' := B + 1) (by omega)) hm565 (by omega)
            have km565 : ∀ g, m565 g 8 9 = m562 g 8 9 := fun g9 => by rw [hm565]; exact z_upd_o _ _ rfl
            refine X.retv i55_49 rfl t55 ?_
            show X (EE s) ((d - 1) - 1) 54 13 [(0, zr 0 8), (1, zi 22), (2, zi 0)] [] m565 _
            refine X.retv i54_13 rfl t54 ?_
            show X (EE s) (d - 1) 53 54 [] [] m565 _
            refine X.retv i53_54 rfl t53 ?_
            show X (EE s) d 135 28 [(0, zr g0 40), (1, zi a1)] [] m565 _
            refine X.iconst 29 i135_28 rfl rfl (by decide) ?_
            refine X.retz i135_29 rfl t135 (by omega) ?_
            exact hQ (z_upd m0 0 8 11 a1) 1 m565 (by first | trivial | omega) (hJ566.up (by omega)) (fun g => by simp only [km504, km541, km558, km560, km562, km565]) (by first | exact .inl ⟨rfl, by omega, rfl⟩ | exact .inr ⟨rfl, by omega, rfl⟩ | exact .inr ⟨rfl, by omega, congrArg _ (by omega)⟩) 
      · have h538c : (m504 0 8 10) ≤ 0 := by omega
        clear h538 hz537
        refine X.iconst 17 i53_16 rfl rfl (by decide) ?_
        refine X.goto 21 i53_17 rfl rfl ?_
        refine X.istore_n 22 [(0, zr 0 8), (1, zi 1)] i53_21 rfl rfl rfl ?_
        refine X.iload_n 23 i53_22 rfl rfl rfl ?_
        refine X.aload_n 24 i53_23 rfl rfl rfl ?_
        refine X.getZ 27 12 i53_24 rfl rfl (by decide) rfl rfl rfl (fun h567 => ?_)
        refine X.icmpeq 54 30 i53_27 rfl rfl rfl (fun h568 => ?_) (fun h568 => ?_)
        · refine X.cut [] i53_54 rfl ?_
          refine X.retv i53_54 rfl t53 ?_
          show X (EE s) d 135 28 [(0, zr g0 40), (1, zi a1)] [] m504 _
          refine X.iconst 29 i135_28 rfl rfl (by decide) ?_
          refine X.retz i135_29 rfl t135 (by omega) ?_
          exact hQ (z_upd m0 0 8 11 a1) 1 m504 (by first | trivial | omega) (hJ505.up (by omega)) (fun g => by simp only [km504]) (by first | exact .inl ⟨rfl, by omega, rfl⟩ | exact .inr ⟨rfl, by omega, rfl⟩ | exact .inr ⟨rfl, by omega, congrArg _ (by omega)⟩) 
        · refine X.aload_n 31 i53_30 rfl rfl rfl ?_
          refine X.iload_n 32 i53_31 rfl rfl rfl ?_
          refine X.putZ' 35 12 i53_32 rfl rfl (by decide) rfl rfl rfl (by omega) (fun hrm569 m569 hm569 => ?_)
          have hJ570 := w8_12 hJ505 hm569 (by omega)
          have km569 : ∀ g, m569 g 8 9 = m504 g 8 9 := fun g9 => by rw [hm569]; exact z_upd_o _ _ rfl
          refine X.aload_n 36 i53_35 rfl rfl rfl ?_
          refine X.aload_n 37 i53_36 rfl rfl rfl ?_
          refine X.getZ 40 12 i53_37 rfl rfl (by decide) rfl rfl rfl (fun h571 => ?_)
          refine X.ifeq 48 43 i53_40 rfl rfl rfl (fun h572 => ?_) (fun h572 => ?_)
          · refine X.cut [] i53_48 rfl ?_
            refine X.bipush 50 i53_48 rfl rfl (by decide) ?_
            refine X.iconst 51 i53_50 rfl rfl (by decide) ?_
            refine X.callv 54 [zi 23, zi 0] [] [(0, zr 0 8), (1, zi 23), (2, zi 0)] i53_51 rfl (by decide) rfl rfl (by omega) rfl rfl (by decide) rfl t54 (Nat.le_of_ble_eq_true rfl) (Nat.le_of_ble_eq_true rfl) rfl ?_
            refine X.aload_n 1 i54_0 rfl rfl rfl ?_
            refine X.getR 4 i54_1 rfl rfl (by decide) rfl rfl ?_
            refine X.aload_n 5 i54_4 rfl rfl rfl ?_
            refine X.getI 8 9 i54_5 rfl rfl (by decide) rfl rfl rfl ?_
            have h573 := r8_9 hJ570 0
            refine X.iload_n 9 i54_8 rfl rfl rfl ?_
            refine X.iload_n 10 i54_9 rfl rfl rfl ?_
            refine X.callv 13 [zi (m569 0 8 9), zi 23, zi 0] [] [(0, zr 0 37), (1, zi (m569 0 8 9)), (2, zi 23), (3, zi 0)] i54_10 rfl (by decide) rfl rfl (by omega) rfl rfl (by decide) rfl t55 (Nat.le_of_ble_eq_true rfl) (Nat.le_of_ble_eq_true rfl) rfl ?_
            refine X.aload_n 1 i55_0 rfl rfl rfl ?_
            refine X.getI 4 1 i55_1 rfl rfl (by decide) rfl rfl rfl ?_
            have h574 := r37_1 hJ570 0
            refine X.bipush 6 i55_4 rfl rfl (by decide) ?_
            refine X.irem 7 i55_6 rfl rfl (by omega) ?_
            refine X.iconst 8 i55_7 rfl rfl (by decide) ?_
            refine X.imul 9 i55_8 rfl rfl (by omega) ?_
            refine X.istore 11 [(0, zr 0 37), (1, zi (m569 0 8 9)), (2, zi 23), (3, zi 0), (4, zi (((m569 0 37 1) % 40) * 3))] i55_9 rfl rfl rfl ?_
            refine X.aload_n 12 i55_11 rfl rfl rfl ?_
            refine X.getR 15 i55_12 rfl rfl (by decide) rfl rfl ?_
            refine X.iload 17 i55_15 rfl rfl rfl ?_
            refine X.iload_n 18 i55_17 rfl rfl rfl ?_
            refine X.iast' 19 i55_18 rfl rfl (by decide) rfl (by omega) (fun hrm575 m575 hm575 => ?_)
            have hJ576 := w38_0 hJ570 hm575 (by omega) hrm575
            have km575 : ∀ g, m575 g 8 9 = m569 g 8 9 := fun g9 => by rw [hm575]; exact z_upd_o _ _ rfl
            refine X.aload_n 20 i55_19 rfl rfl rfl ?_
            refine X.getR 23 i55_20 rfl rfl (by decide) rfl rfl ?_
            refine X.iload 25 i55_23 rfl rfl rfl ?_
            refine X.iconst 26 i55_25 rfl rfl (by decide) ?_
            refine X.iadd 27 i55_26 rfl rfl (by omega) ?_
            refine X.iload_n 28 i55_27 rfl rfl rfl ?_
            refine X.iast' 29 i55_28 rfl rfl (by decide) rfl (by omega) (fun hrm577 m577 hm577 => ?_)
            have hJ578 := w38_0 hJ576 hm577 (by omega) hrm577
            have km577 : ∀ g, m577 g 8 9 = m575 g 8 9 := fun g9 => by rw [hm577]; exact z_upd_o _ _ rfl
            refine X.aload_n 30 i55_29 rfl rfl rfl ?_
            refine X.getR 33 i55_30 rfl rfl (by decide) rfl rfl ?_
            refine X.iload 35 i55_33 rfl rfl rfl ?_
            refine X.iconst 36 i55_35 rfl rfl (by decide) ?_
            refine X.iadd 37 i55_36 rfl rfl (by omega) ?_
            refine X.iload_n 38 i55_37 rfl rfl rfl ?_
            refine X.iast' 39 i55_38 rfl rfl (by decide) rfl (by omega) (fun hrm579 m579 hm579 => ?_)
            have hJ580 := w38_0 hJ578 hm579 (by omega) hrm579
            have km579 : ∀ g, m579 g 8 9 = m577 g 8 9 := fun g9 => by rw [hm579]; exact z_upd_o _ _ rfl
            refine X.aload_n 40 i55_39 rfl rfl rfl ?_
            refine X.dup 41 i55_40 rfl rfl rfl ?_
            refine X.getI 44 1 i55_41 rfl rfl (by decide) rfl rfl rfl ?_
            have h581 := r37_1 hJ580 0
            refine X.iconst 45 i55_44 rfl rfl (by decide) ?_
            refine X.iadd 46 i55_45 rfl rfl (by omega) ?_
            refine X.putI' 49 1 i55_46 rfl rfl (by decide) rfl rfl rfl (fun hrm582 m582 hm582 => ?_)
            have hJ583 := w37_1 (hJ580.up (B' := B + 1) (by omega)) hm582 (by omega)
            have km582 : ∀ g, m582 g 8 9 = m579 g 8 9 := fun g9 => by rw [hm582]; exact z_upd_o _ _ rfl
            refine X.retv i55_49 rfl t55 ?_
            show X (EE s) ((d - 1) - 1) 54 13 [(0, zr 0 8), (1, zi 23), (2, zi 0)] [] m582 _
            refine X.retv i54_13 rfl t54 ?_
            show X (EE s) (d - 1) 53 54 [] [] m582 _
            refine X.retv i53_54 rfl t53 ?_
            show X (EE s) d 135 28 [(0, zr g0 40), (1, zi a1)] [] m582 _
            refine X.iconst 29 i135_28 rfl rfl (by decide) ?_
            refine X.retz i135_29 rfl t135 (by omega) ?_
            exact hQ (z_upd m0 0 8 11 a1) 1 m582 (by first | trivial | omega) (hJ583.up (by omega)) (fun g => by simp only [km504, km569, km575, km577, km579, km582]) (by first | exact .inl ⟨rfl, by omega, rfl⟩ | exact .inr ⟨rfl, by omega, rfl⟩ | exact .inr ⟨rfl, by omega, congrArg _ (by omega)⟩) 
          · refine X.bipush 45 i53_43 rfl rfl (by decide) ?_
            refine X.goto 50 i53_45 rfl rfl ?_
            refine X.cut [] i53_50 rfl ?_
            refine X.iconst 51 i53_50 rfl rfl (by decide) ?_
            refine X.callv 54 [zi 22, zi 0] [] [(0, zr 0 8), (1, zi 22), (2, zi 0)] i53_51 rfl (by decide) rfl rfl (by omega) rfl rfl (by decide) rfl t54 (Nat.le_of_ble_eq_true rfl) (Nat.le_of_ble_eq_true rfl) rfl ?_
            refine X.aload_n 1 i54_0 rfl rfl rfl ?_
            refine X.getR 4 i54_1 rfl rfl (by decide) rfl rfl ?_
            refine X.aload_n 5 i54_4 rfl rfl rfl ?_
            refine X.getI 8 9 i54_5 rfl rfl (by decide) rfl rfl rfl ?_
            have h584 := r8_9 hJ570 0
            refine X.iload_n 9 i54_8 rfl rfl rfl ?_
            refine X.iload_n 10 i54_9 rfl rfl rfl ?_
            refine X.callv 13 [zi (m569 0 8 9), zi 22, zi 0] [] [(0, zr 0 37), (1, zi (m569 0 8 9)), (2, zi 22), (3, zi 0)] i54_10 rfl (by decide) rfl rfl (by omega) rfl rfl (by decide) rfl t55 (Nat.le_of_ble_eq_true rfl) (Nat.le_of_ble_eq_true rfl) rfl ?_
            refine X.aload_n 1 i55_0 rfl rfl rfl ?_
            refine X.getI 4 1 i55_1 rfl rfl (by decide) rfl rfl rfl ?_
            have h585 := r37_1 hJ570 0
            refine X.bipush 6 i55_4 rfl rfl (by decide) ?_
            refine X.irem 7 i55_6 rfl rfl (by omega) ?_
            refine X.iconst 8 i55_7 rfl rfl (by decide) ?_
            refine X.imul 9 i55_8 rfl rfl (by omega) ?_
            refine X.istore 11 [(0, zr 0 37), (1, zi (m569 0 8 9)), (2, zi 22), (3, zi 0), (4, zi (((m569 0 37 1) % 40) * 3))] i55_9 rfl rfl rfl ?_
            refine X.aload_n 12 i55_11 rfl rfl rfl ?_
            refine X.getR 15 i55_12 rfl rfl (by decide) rfl rfl ?_
            refine X.iload 17 i55_15 rfl rfl rfl ?_
            refine X.iload_n 18 i55_17 rfl rfl rfl ?_
            refine X.iast' 19 i55_18 rfl rfl (by decide) rfl (by omega) (fun hrm586 m586 hm586 => ?_)
            have hJ587 := w38_0 hJ570 hm586 (by omega) hrm586
            have km586 : ∀ g, m586 g 8 9 = m569 g 8 9 := fun g9 => by rw [hm586]; exact z_upd_o _ _ rfl
            refine X.aload_n 20 i55_19 rfl rfl rfl ?_
            refine X.getR 23 i55_20 rfl rfl (by decide) rfl rfl ?_
            refine X.iload 25 i55_23 rfl rfl rfl ?_
            refine X.iconst 26 i55_25 rfl rfl (by decide) ?_
            refine X.iadd 27 i55_26 rfl rfl (by omega) ?_
            refine X.iload_n 28 i55_27 rfl rfl rfl ?_
            refine X.iast' 29 i55_28 rfl rfl (by decide) rfl (by omega) (fun hrm588 m588 hm588 => ?_)
            have hJ589 := w38_0 hJ587 hm588 (by omega) hrm588
            have km588 : ∀ g, m588 g 8 9 = m586 g 8 9 := fun g9 => by rw [hm588]; exact z_upd_o _ _ rfl
            refine X.aload_n 30 i55_29 rfl rfl rfl ?_
            refine X.getR 33 i55_30 rfl rfl (by decide) rfl rfl ?_
            refine X.iload 35 i55_33 rfl rfl rfl ?_
            refine X.iconst 36 i55_35 rfl rfl (by decide) ?_
            refine X.iadd 37 i55_36 rfl rfl (by omega) ?_
            refine X.iload_n 38 i55_37 rfl rfl rfl ?_
            refine X.iast' 39 i55_38 rfl rfl (by decide) rfl (by omega) (fun hrm590 m590 hm590 => ?_)
            have hJ591 := w38_0 hJ589 hm590 (by omega) hrm590
            have km590 : ∀ g, m590 g 8 9 = m588 g 8 9 := fun g9 => by rw [hm590]; exact z_upd_o _ _ rfl
            refine X.aload_n 40 i55_39 rfl rfl rfl ?_
            refine X.dup 41 i55_40 rfl rfl rfl ?_
            refine X.getI 44 1 i55_41 rfl rfl (by decide) rfl rfl rfl ?_
            have h592 := r37_1 hJ591 0
            refine X.iconst 45 i55_44 rfl rfl (by decide) ?_
            refine X.iadd 46 i55_45 rfl rfl (by omega) ?_
            refine X.putI' 49 1 i55_46 rfl rfl (by decide) rfl rfl rfl (fun hrm593 m593 hm593 => ?_)
            have hJ594 := w37_1 (hJ591.up (B' := B + 1) (by omega)) hm593 (by omega)
            have km593 : ∀ g, m593 g 8 9 = m590 g 8 9 := fun g9 => by rw [hm593]; exact z_upd_o _ _ rfl
            refine X.retv i55_49 rfl t55 ?_
            show X (EE s) ((d - 1) - 1) 54 13 [(0, zr 0 8), (1, zi 22), (2, zi 0)] [] m593 _
            refine X.retv i54_13 rfl t54 ?_
            show X (EE s) (d - 1) 53 54 [] [] m593 _
            refine X.retv i53_54 rfl t53 ?_
            show X (EE s) d 135 28 [(0, zr g0 40), (1, zi a1)] [] m593 _
            refine X.iconst 29 i135_28 rfl rfl (by decide) ?_
            refine X.retz i135_29 rfl t135 (by omega) ?_
            exact hQ (z_upd m0 0 8 11 a1) 1 m593 (by first | trivial | omega) (hJ594.up (by omega)) (fun g => by simp only [km504, km569, km586, km588, km590, km593]) (by first | exact .inl ⟨rfl, by omega, rfl⟩ | exact .inr ⟨rfl, by omega, rfl⟩ | exact .inr ⟨rfl, by omega, congrArg _ (by omega)⟩) 
  · refine X.iconst 12 i135_11 rfl rfl (by decide) ?_
    refine X.retz i135_12 rfl t135 (by omega) ?_
    exact hQ m0 0 m (by first | trivial | omega) (hJ.up (by omega)) (fun g => rfl) (by first | exact .inl ⟨rfl, by omega, rfl⟩ | exact .inr ⟨rfl, by omega, rfl⟩ | exact .inr ⟨rfl, by omega, congrArg _ (by omega)⟩) 
-- WorkMeterModel.prepaid
theorem c284_1 {s : Nat × (Nat → Int32)} {m0 m : zM} {B : Int} {d : Nat} {Q : Option zV → zM → Prop} (g0 : Nat) (a1 : Int) (hd : 15 ≤ d) (hJ : J m0 B m) (hB : B + 1 ≤ 1000000000) (ha1 : 0 ≤ a1 ∧ a1 ≤ 1) (hQ : ∀ (n0 : zM) (v : Int) m', (0 ≤ v ∧ v ≤ 1) → J n0 (B + 1) m' → (∀ g, m' g 8 9 = m g 8 9) → ((v = 0 ∧ a1 = m0 4 45 11 ∧ n0 = m0) ∨ (v = 1 ∧ ¬ (a1 = m0 4 45 11) ∧ n0 = z_upd m0 4 45 11 a1)) → Q (some (zi v)) m') : X (EE s) d 284 0 [(0, zr g0 44), (1, zi a1)] [] m Q := by
  have f0 := hJ.2 4 45 11 rfl
  refine X.aload_n 1 i284_0 rfl rfl rfl ?_
  refine X.getF 4 i284_1 rfl rfl (by decide) rfl rfl ?_
  refine X.bipush 6 i284_4 rfl rfl (by decide) ?_
  refine X.lald 7 i284_6 rfl rfl (by decide) rfl (by omega) ?_
  have t501 := hJ.2 4 45 11 rfl
  have h502 := r45_11 hJ 4
  refine X.lconst (y := 1) 8 i284_7 rfl rfl rfl ?_
  refine X.lcmp 9 i284_8 rfl rfl (fun z503 hz503 => ?_)
  refine X.ifne 16 12 i284_9 rfl rfl rfl (fun h504 => ?_) (fun h504 => ?_)
  · have h504c : (m 4 45 11) ≠ 1 := by omega
    clear h504 hz503
    refine X.iconst 17 i284_16 rfl rfl (by decide) ?_
    refine X.iload_n 18 i284_17 rfl rfl rfl ?_
    refine X.icmpne 23 21 i284_18 rfl rfl rfl (fun h505 => ?_) (fun h505 => ?_)
    · refine X.aload_n 24 i284_23 rfl rfl rfl ?_
      refine X.getF 27 i284_24 rfl rfl (by decide) rfl rfl ?_
      refine X.bipush 29 i284_27 rfl rfl (by decide) ?_
      refine X.iload_n 30 i284_29 rfl rfl rfl ?_
      refine X.ifeq 37 33 i284_30 rfl rfl rfl (fun h506 => ?_) (fun h506 => ?_)
      · refine X.cut [(0, zr g0 44)] i284_37 rfl ?_
        refine X.lconst (y := 0) 38 i284_37 rfl rfl rfl ?_
        refine X.last' 39 i284_38 rfl rfl (by decide) rfl (by omega) (fun hrm507 m507 hm507 => ?_)
        have hJ508 := v45_11 hJ hm507 (by omega)
        have em507 : m507 4 45 11 = 0 := by rw [hm507]; exact z_upd_same _ _ _ _ _
        have km507 : ∀ g, m507 g 8 9 = m g 8 9 := fun g9 => by rw [hm507]; exact z_upd_o _ _ rfl
        refine X.aload_n 40 i284_39 rfl rfl rfl ?_
        refine X.callv 43 [] [] [(0, zr g0 44)] i284_40 rfl (by decide) rfl rfl (by omega) rfl rfl (by decide) rfl t222 (Nat.le_of_ble_eq_true rfl) (Nat.le_of_ble_eq_true rfl) rfl ?_
        refine c222_1 (B := B) g0  (by omega) (hJ508.up (by omega)) (by omega)  (fun m509 hJ510 km509 => ?_)
        show X (EE s) d 284 43 [(0, zr g0 44)] [] m509 _
        refine X.iconst 44 i284_43 rfl rfl (by decide) ?_
        refine X.retz i284_44 rfl t284 (by omega) ?_
        exact hQ (z_upd m0 4 45 11 0) 1 m509 (by first | trivial | omega) (hJ510.up (by omega)) (fun g => by simp only [km507, km509]) (by first | exact .inl ⟨rfl, by omega, rfl⟩ | exact .inr ⟨rfl, by omega, rfl⟩ | exact .inr ⟨rfl, by omega, congrArg _ (by omega)⟩) 
      · refine X.lconst (y := 1) 34 i284_33 rfl rfl rfl ?_
        refine X.goto 38 i284_34 rfl rfl ?_
        refine X.cut [(0, zr g0 44)] i284_38 rfl ?_
        refine X.last' 39 i284_38 rfl rfl (by decide) rfl (by omega) (fun hrm512 m512 hm512 => ?_)
        have hJ513 := v45_11 hJ hm512 (by omega)
        have em512 : m512 4 45 11 = 1 := by rw [hm512]; exact z_upd_same _ _ _ _ _
        have km512 : ∀ g, m512 g 8 9 = m g 8 9 := fun g9 => by rw [hm512]; exact z_upd_o _ _ rfl
        refine X.aload_n 40 i284_39 rfl rfl rfl ?_
        refine X.callv 43 [] [] [(0, zr g0 44)] i284_40 rfl (by decide) rfl rfl (by omega) rfl rfl (by decide) rfl t222 (Nat.le_of_ble_eq_true rfl) (Nat.le_of_ble_eq_true rfl) rfl ?_
        refine c222_1 (B := B) g0  (by omega) (hJ513.up (by omega)) (by omega)  (fun m514 hJ515 km514 => ?_)
        show X (EE s) d 284 43 [(0, zr g0 44)] [] m514 _
        refine X.iconst 44 i284_43 rfl rfl (by decide) ?_
        refine X.retz i284_44 rfl t284 (by omega) ?_
        exact hQ (z_upd m0 4 45 11 1) 1 m514 (by first | trivial | omega) (hJ515.up (by omega)) (fun g => by simp only [km512, km514]) (by first | exact .inl ⟨rfl, by omega, rfl⟩ | exact .inr ⟨rfl, by omega, rfl⟩ | exact .inr ⟨rfl, by omega, congrArg _ (by omega)⟩) 
    · refine X.iconst 22 i284_21 rfl rfl (by decide) ?_
      refine X.retz i284_22 rfl t284 (by omega) ?_
      exact hQ m0 0 m (by first | trivial | omega) (hJ.up (by omega)) (fun g => rfl) (by first | exact .inl ⟨rfl, by omega, rfl⟩ | exact .inr ⟨rfl, by omega, rfl⟩ | exact .inr ⟨rfl, by omega, congrArg _ (by omega)⟩) 
  · have h504c : (m 4 45 11) = 1 := by omega
    clear h504 hz503
    refine X.iconst 13 i284_12 rfl rfl (by decide) ?_
    refine X.goto 17 i284_13 rfl rfl ?_
    refine X.iload_n 18 i284_17 rfl rfl rfl ?_
    refine X.icmpne 23 21 i284_18 rfl rfl rfl (fun h517 => ?_) (fun h517 => ?_)
    · refine X.aload_n 24 i284_23 rfl rfl rfl ?_
      refine X.getF 27 i284_24 rfl rfl (by decide) rfl rfl ?_
      refine X.bipush 29 i284_27 rfl rfl (by decide) ?_
      refine X.iload_n 30 i284_29 rfl rfl rfl ?_
      refine X.ifeq 37 33 i284_30 rfl rfl rfl (fun h518 => ?_) (fun h518 => ?_)
      · refine X.cut [(0, zr g0 44)] i284_37 rfl ?_
        refine X.lconst (y := 0) 38 i284_37 rfl rfl rfl ?_
        refine X.last' 39 i284_38 rfl rfl (by decide) rfl (by omega) (fun hrm519 m519 hm519 => ?_)
        have hJ520 := v45_11 hJ hm519 (by omega)
        have em519 : m519 4 45 11 = 0 := by rw [hm519]; exact z_upd_same _ _ _ _ _
        have km519 : ∀ g, m519 g 8 9 = m g 8 9 := fun g9 => by rw [hm519]; exact z_upd_o _ _ rfl
        refine X.aload_n 40 i284_39 rfl rfl rfl ?_
        refine X.callv 43 [] [] [(0, zr g0 44)] i284_40 rfl (by decide) rfl rfl (by omega) rfl rfl (by decide) rfl t222 (Nat.le_of_ble_eq_true rfl) (Nat.le_of_ble_eq_true rfl) rfl ?_
        refine c222_1 (B := B) g0  (by omega) (hJ520.up (by omega)) (by omega)  (fun m521 hJ522 km521 => ?_)
        show X (EE s) d 284 43 [(0, zr g0 44)] [] m521 _
        refine X.iconst 44 i284_43 rfl rfl (by decide) ?_
        refine X.retz i284_44 rfl t284 (by omega) ?_
        exact hQ (z_upd m0 4 45 11 0) 1 m521 (by first | trivial | omega) (hJ522.up (by omega)) (fun g => by simp only [km519, km521]) (by first | exact .inl ⟨rfl, by omega, rfl⟩ | exact .inr ⟨rfl, by omega, rfl⟩ | exact .inr ⟨rfl, by omega, congrArg _ (by omega)⟩) 
      · refine X.lconst (y := 1) 34 i284_33 rfl rfl rfl ?_
        refine X.goto 38 i284_34 rfl rfl ?_
        refine X.cut [(0, zr g0 44)] i284_38 rfl ?_
        refine X.last' 39 i284_38 rfl rfl (by decide) rfl (by omega) (fun hrm524 m524 hm524 => ?_)
        have hJ525 := v45_11 hJ hm524 (by omega)
        have em524 : m524 4 45 11 = 1 := by rw [hm524]; exact z_upd_same _ _ _ _ _
        have km524 : ∀ g, m524 g 8 9 = m g 8 9 := fun g9 => by rw [hm524]; exact z_upd_o _ _ rfl
        refine X.aload_n 40 i284_39 rfl rfl rfl ?_
        refine X.callv 43 [] [] [(0, zr g0 44)] i284_40 rfl (by decide) rfl rfl (by omega) rfl rfl (by decide) rfl t222 (Nat.le_of_ble_eq_true rfl) (Nat.le_of_ble_eq_true rfl) rfl ?_
        refine c222_1 (B := B) g0  (by omega) (hJ525.up (by omega)) (by omega)  (fun m526 hJ527 km526 => ?_)
        show X (EE s) d 284 43 [(0, zr g0 44)] [] m526 _
        refine X.iconst 44 i284_43 rfl rfl (by decide) ?_
        refine X.retz i284_44 rfl t284 (by omega) ?_
        exact hQ (z_upd m0 4 45 11 1) 1 m526 (by first | trivial | omega) (hJ527.up (by omega)) (fun g => by simp only [km524, km526]) (by first | exact .inl ⟨rfl, by omega, rfl⟩ | exact .inr ⟨rfl, by omega, rfl⟩ | exact .inr ⟨rfl, by omega, congrArg _ (by omega)⟩) 
    · refine X.iconst 22 i284_21 rfl rfl (by decide) ?_
      refine X.retz i284_22 rfl t284 (by omega) ?_
      exact hQ m0 0 m (by first | trivial | omega) (hJ.up (by omega)) (fun g => rfl) (by first | exact .inl ⟨rfl, by omega, rfl⟩ | exact .inr ⟨rfl, by omega, rfl⟩ | exact .inr ⟨rfl, by omega, congrArg _ (by omega)⟩) 
-- WorkMeter.pay
theorem c136_1 {s : Nat × (Nat → Int32)} {m0 m : zM} {B : Int} {d : Nat} {Q : Option zV → zM → Prop} (g0 : Nat) (a1 : Int) (hd : 13 ≤ d) (hJ : J m0 B m) (hB : B + 1 ≤ 1000000000) (ha1 : (-2147483648) ≤ a1 ∧ a1 ≤ 2147483647) (hQ : ∀ (v : Int) m', (True) → J m0 (B + 1) m' → (∀ g, m' g 8 9 = m g 8 9) → Q (some (zl v)) m') : X (EE s) d 136 0 [(0, zr g0 40), (1, zi a1)] [] m Q := by
  refine X.iload_n 1 i136_0 rfl rfl rfl ?_
  refine X.iflt 10 4 i136_1 rfl rfl rfl (fun h501 => ?_) (fun h501 => ?_)
  · refine X.cut [] i136_10 rfl ?_
    refine X.ldc2 13 i136_10 rfl rfl (by decide) ?_
    refine X.retl i136_13 rfl t136 ?_
    exact hQ (-10000000000) m (by first | trivial | omega) (hJ.up (by omega)) (fun g => rfl) 
  · refine X.iload_n 5 i136_4 rfl rfl rfl ?_
    refine X.ldc 7 i136_5 rfl rfl (by decide) ?_
    refine X.icmple 14 10 i136_7 rfl rfl rfl (fun h502 => ?_) (fun h502 => ?_)
    · refine X.aload_n 15 i136_14 rfl rfl rfl ?_
      refine X.getF 18 i136_15 rfl rfl (by decide) rfl rfl ?_
      refine X.dup 19 i136_18 rfl rfl rfl ?_
      refine X.getL 22 10 i136_19 rfl rfl (by decide) rfl rfl rfl ?_
      refine X.iload_n 23 i136_22 rfl rfl rfl ?_
      refine X.i2l 24 i136_23 rfl rfl ?_
      refine X.llF 25 .ladd (fun x y => x + y) i136_24 rfl rfl rfl (fun _ _ => rfl) (fun z503 hz503 => ?_)
      refine X.putL' 28 10 i136_25 rfl rfl (by decide) rfl rfl rfl (fun hrm504 m504 hm504 => ?_)
      have hJ505 := w8_10 hJ hm504 hrm504
      have km504 : ∀ g, m504 g 8 9 = m g 8 9 := fun g9 => by rw [hm504]; exact z_upd_o _ _ rfl
      refine X.aload_n 29 i136_28 rfl rfl rfl ?_
      refine X.getF 32 i136_29 rfl rfl (by decide) rfl rfl ?_
      refine X.callv 35 [] [] [(0, zr 0 8)] i136_32 rfl (by decide) rfl rfl (by omega) rfl rfl (by decide) rfl t53 (Nat.le_of_ble_eq_true rfl) (Nat.le_of_ble_eq_true rfl) rfl ?_
      refine X.aload_n 1 i53_0 rfl rfl rfl ?_
      refine X.getZ 4 11 i53_1 rfl rfl (by decide) rfl rfl rfl (fun h506 => ?_)
      refine X.ifeq 20 7 i53_4 rfl rfl rfl (fun h507 => ?_) (fun h507 => ?_)
      · refine X.iconst 21 i53_20 rfl rfl (by decide) ?_
        refine X.istore_n 22 [(0, zr 0 8), (1, zi 0)] i53_21 rfl rfl rfl ?_
        refine X.iload_n 23 i53_22 rfl rfl rfl ?_
        refine X.aload_n 24 i53_23 rfl rfl rfl ?_
        refine X.getZ 27 12 i53_24 rfl rfl (by decide) rfl rfl rfl (fun h508 => ?_)
        refine X.icmpeq 54 30 i53_27 rfl rfl rfl (fun h509 => ?_) (fun h509 => ?_)
        · refine X.cut [] i53_54 rfl ?_
          refine X.retv i53_54 rfl t53 ?_
          show X (EE s) d 136 35 [(0, zr g0 40), (1, zi a1)] [] m504 _
          refine X.aload_n 36 i136_35 rfl rfl rfl ?_
          refine X.getF 39 i136_36 rfl rfl (by decide) rfl rfl ?_
          refine X.getL 42 10 i136_39 rfl rfl (by decide) rfl rfl rfl ?_
          refine X.retl i136_42 rfl t136 ?_
          exact hQ (m504 0 8 10) m504 (by first | trivial | omega) (hJ505.up (by omega)) (fun g => by simp only [km504]) 
        · refine X.aload_n 31 i53_30 rfl rfl rfl ?_
          refine X.iload_n 32 i53_31 rfl rfl rfl ?_
          refine X.putZ' 35 12 i53_32 rfl rfl (by decide) rfl rfl rfl (by omega) (fun hrm510 m510 hm510 => ?_)
          have hJ511 := w8_12 hJ505 hm510 (by omega)
          have km510 : ∀ g, m510 g 8 9 = m504 g 8 9 := fun g9 => by rw [hm510]; exact z_upd_o _ _ rfl
          refine X.aload_n 36 i53_35 rfl rfl rfl ?_
          refine X.aload_n 37 i53_36 rfl rfl rfl ?_
          refine X.getZ 40 12 i53_37 rfl rfl (by decide) rfl rfl rfl (fun h512 => ?_)
          refine X.ifeq 48 43 i53_40 rfl rfl rfl (fun h513 => ?_) (fun h513 => ?_)
          · refine X.cut [] i53_48 rfl ?_
            refine X.bipush 50 i53_48 rfl rfl (by decide) ?_
            refine X.iconst 51 i53_50 rfl rfl (by decide) ?_
            refine X.callv 54 [zi 23, zi 0] [] [(0, zr 0 8), (1, zi 23), (2, zi 0)] i53_51 rfl (by decide) rfl rfl (by omega) rfl rfl (by decide) rfl t54 (Nat.le_of_ble_eq_true rfl) (Nat.le_of_ble_eq_true rfl) rfl ?_
            refine X.aload_n 1 i54_0 rfl rfl rfl ?_
            refine X.getR 4 i54_1 rfl rfl (by decide) rfl rfl ?_
            refine X.aload_n 5 i54_4 rfl rfl rfl ?_
            refine X.getI 8 9 i54_5 rfl rfl (by decide) rfl rfl rfl ?_
            have h514 := r8_9 hJ511 0
            refine X.iload_n 9 i54_8 rfl rfl rfl ?_
            refine X.iload_n 10 i54_9 rfl rfl rfl ?_
            refine X.callv 13 [zi (m510 0 8 9), zi 23, zi 0] [] [(0, zr 0 37), (1, zi (m510 0 8 9)), (2, zi 23), (3, zi 0)] i54_10 rfl (by decide) rfl rfl (by omega) rfl rfl (by decide) rfl t55 (Nat.le_of_ble_eq_true rfl) (Nat.le_of_ble_eq_true rfl) rfl ?_
            refine X.aload_n 1 i55_0 rfl rfl rfl ?_
            refine X.getI 4 1 i55_1 rfl rfl (by decide) rfl rfl rfl ?_
            have h515 := r37_1 hJ511 0
            refine X.bipush 6 i55_4 rfl rfl (by decide) ?_
            refine X.irem 7 i55_6 rfl rfl (by omega) ?_
            refine X.iconst 8 i55_7 rfl rfl (by decide) ?_
            refine X.imul 9 i55_8 rfl rfl (by omega) ?_
            refine X.istore 11 [(0, zr 0 37), (1, zi (m510 0 8 9)), (2, zi 23), (3, zi 0), (4, zi (((m510 0 37 1) % 40) * 3))] i55_9 rfl rfl rfl ?_
            refine X.aload_n 12 i55_11 rfl rfl rfl ?_
            refine X.getR 15 i55_12 rfl rfl (by decide) rfl rfl ?_
            refine X.iload 17 i55_15 rfl rfl rfl ?_
            refine X.iload_n 18 i55_17 rfl rfl rfl ?_
            refine X.iast' 19 i55_18 rfl rfl (by decide) rfl (by omega) (fun hrm516 m516 hm516 => ?_)
            have hJ517 := w38_0 hJ511 hm516 (by omega) hrm516
            have km516 : ∀ g, m516 g 8 9 = m510 g 8 9 := fun g9 => by rw [hm516]; exact z_upd_o _ _ rfl
            refine X.aload_n 20 i55_19 rfl rfl rfl ?_
            refine X.getR 23 i55_20 rfl rfl (by decide) rfl rfl ?_
            refine X.iload 25 i55_23 rfl rfl rfl ?_
            refine X.iconst 26 i55_25 rfl rfl (by decide) ?_
            refine X.iadd 27 i55_26 rfl rfl (by omega) ?_
            refine X.iload_n 28 i55_27 rfl rfl rfl ?_
            refine X.iast' 29 i55_28 rfl rfl (by decide) rfl (by omega) (fun hrm518 m518 hm518 => ?_)
            have hJ519 := w38_0 hJ517 hm518 (by omega) hrm518
            have km518 : ∀ g, m518 g 8 9 = m516 g 8 9 := fun g9 => by rw [hm518]; exact z_upd_o _ _ rfl
            refine X.aload_n 30 i55_29 rfl rfl rfl ?_
            refine X.getR 33 i55_30 rfl rfl (by decide) rfl rfl ?_
            refine X.iload 35 i55_33 rfl rfl rfl ?_
            refine X.iconst 36 i55_35 rfl rfl (by decide) ?_
            refine X.iadd 37 i55_36 rfl rfl (by omega) ?_
            refine X.iload_n 38 i55_37 rfl rfl rfl ?_
            refine X.iast' 39 i55_38 rfl rfl (by decide) rfl (by omega) (fun hrm520 m520 hm520 => ?_)
            have hJ521 := w38_0 hJ519 hm520 (by omega) hrm520
            have km520 : ∀ g, m520 g 8 9 = m518 g 8 9 := fun g9 => by rw [hm520]; exact z_upd_o _ _ rfl
            refine X.aload_n 40 i55_39 rfl rfl rfl ?_
            refine X.dup 41 i55_40 rfl rfl rfl ?_
            refine X.getI 44 1 i55_41 rfl rfl (by decide) rfl rfl rfl ?_
            have h522 := r37_1 hJ521 0
            refine X.iconst 45 i55_44 rfl rfl (by decide) ?_
            refine X.iadd 46 i55_45 rfl rfl (by omega) ?_
            refine X.putI' 49 1 i55_46 rfl rfl (by decide) rfl rfl rfl (fun hrm523 m523 hm523 => ?_)
            have hJ524 := w37_1 (hJ521.up (B' := B + 1) (by omega)) hm523 (by omega)
            have km523 : ∀ g, m523 g 8 9 = m520 g 8 9 := fun g9 => by rw [hm523]; exact z_upd_o _ _ rfl
            refine X.retv i55_49 rfl t55 ?_
            show X (EE s) ((d - 1) - 1) 54 13 [(0, zr 0 8), (1, zi 23), (2, zi 0)] [] m523 _
            refine X.retv i54_13 rfl t54 ?_
            show X (EE s) (d - 1) 53 54 [] [] m523 _
            refine X.retv i53_54 rfl t53 ?_
            show X (EE s) d 136 35 [(0, zr g0 40), (1, zi a1)] [] m523 _
            refine X.aload_n 36 i136_35 rfl rfl rfl ?_
            refine X.getF 39 i136_36 rfl rfl (by decide) rfl rfl ?_
            refine X.getL 42 10 i136_39 rfl rfl (by decide) rfl rfl rfl ?_
            refine X.retl i136_42 rfl t136 ?_
            exact hQ (m523 0 8 10) m523 (by first | trivial | omega) (hJ524.up (by omega)) (fun g => by simp only [km504, km510, km516, km518, km520, km523]) 
          · refine X.bipush 45 i53_43 rfl rfl (by decide) ?_
            refine X.goto 50 i53_45 rfl rfl ?_
            refine X.cut [] i53_50 rfl ?_
            refine X.iconst 51 i53_50 rfl rfl (by decide) ?_
            refine X.callv 54 [zi 22, zi 0] [] [(0, zr 0 8), (1, zi 22), (2, zi 0)] i53_51 rfl (by decide) rfl rfl (by omega) rfl rfl (by decide) rfl t54 (Nat.le_of_ble_eq_true rfl) (Nat.le_of_ble_eq_true rfl) rfl ?_
            refine X.aload_n 1 i54_0 rfl rfl rfl ?_
            refine X.getR 4 i54_1 rfl rfl (by decide) rfl rfl ?_
            refine X.aload_n 5 i54_4 rfl rfl rfl ?_
            refine X.getI 8 9 i54_5 rfl rfl (by decide) rfl rfl rfl ?_
            have h525 := r8_9 hJ511 0
            refine X.iload_n 9 i54_8 rfl rfl rfl ?_
            refine X.iload_n 10 i54_9 rfl rfl rfl ?_
            refine X.callv 13 [zi (m510 0 8 9), zi 22, zi 0] [] [(0, zr 0 37), (1, zi (m510 0 8 9)), (2, zi 22), (3, zi 0)] i54_10 rfl (by decide) rfl rfl (by omega) rfl rfl (by decide) rfl t55 (Nat.le_of_ble_eq_true rfl) (Nat.le_of_ble_eq_true rfl) rfl ?_
            refine X.aload_n 1 i55_0 rfl rfl rfl ?_
            refine X.getI 4 1 i55_1 rfl rfl (by decide) rfl rfl rfl ?_
            have h526 := r37_1 hJ511 0
            refine X.bipush 6 i55_4 rfl rfl (by decide) ?_
            refine X.irem 7 i55_6 rfl rfl (by omega) ?_
            refine X.iconst 8 i55_7 rfl rfl (by decide) ?_
            refine X.imul 9 i55_8 rfl rfl (by omega) ?_
            refine X.istore 11 [(0, zr 0 37), (1, zi (m510 0 8 9)), (2, zi 22), (3, zi 0), (4, zi (((m510 0 37 1) % 40) * 3))] i55_9 rfl rfl rfl ?_
            refine X.aload_n 12 i55_11 rfl rfl rfl ?_
            refine X.getR 15 i55_12 rfl rfl (by decide) rfl rfl ?_
            refine X.iload 17 i55_15 rfl rfl rfl ?_
            refine X.iload_n 18 i55_17 rfl rfl rfl ?_
            refine X.iast' 19 i55_18 rfl rfl (by decide) rfl (by omega) (fun hrm527 m527 hm527 => ?_)
            have hJ528 := w38_0 hJ511 hm527 (by omega) hrm527
            have km527 : ∀ g, m527 g 8 9 = m510 g 8 9 := fun g9 => by rw [hm527]; exact z_upd_o _ _ rfl
            refine X.aload_n 20 i55_19 rfl rfl rfl ?_
            refine X.getR 23 i55_20 rfl rfl (by decide) rfl rfl ?_
            refine X.iload 25 i55_23 rfl rfl rfl ?_
            refine X.iconst 26 i55_25 rfl rfl (by decide) ?_
            refine X.iadd 27 i55_26 rfl rfl (by omega) ?_
            refine X.iload_n 28 i55_27 rfl rfl rfl ?_
            refine X.iast' 29 i55_28 rfl rfl (by decide) rfl (by omega) (fun hrm529 m529 hm529 => ?_)
            have hJ530 := w38_0 hJ528 hm529 (by omega) hrm529
            have km529 : ∀ g, m529 g 8 9 = m527 g 8 9 := fun g9 => by rw [hm529]; exact z_upd_o _ _ rfl
            refine X.aload_n 30 i55_29 rfl rfl rfl ?_
            refine X.getR 33 i55_30 rfl rfl (by decide) rfl rfl ?_
            refine X.iload 35 i55_33 rfl rfl rfl ?_
            refine X.iconst 36 i55_35 rfl rfl (by decide) ?_
            refine X.iadd 37 i55_36 rfl rfl (by omega) ?_
            refine X.iload_n 38 i55_37 rfl rfl rfl ?_
            refine X.iast' 39 i55_38 rfl rfl (by decide) rfl (by omega) (fun hrm531 m531 hm531 => ?_)
            have hJ532 := w38_0 hJ530 hm531 (by omega) hrm531
            have km531 : ∀ g, m531 g 8 9 = m529 g 8 9 := fun g9 => by rw [hm531]; exact z_upd_o _ _ rfl
            refine X.aload_n 40 i55_39 rfl rfl rfl ?_
            refine X.dup 41 i55_40 rfl rfl rfl ?_
            refine X.getI 44 1 i55_41 rfl rfl (by decide) rfl rfl rfl ?_
            have h533 := r37_1 hJ532 0
            refine X.iconst 45 i55_44 rfl rfl (by decide) ?_
            refine X.iadd 46 i55_45 rfl rfl (by omega) ?_
            refine X.putI' 49 1 i55_46 rfl rfl (by decide) rfl rfl rfl (fun hrm534 m534 hm534 => ?_)
            have hJ535 := w37_1 (hJ532.up (B' := B + 1) (by omega)) hm534 (by omega)
            have km534 : ∀ g, m534 g 8 9 = m531 g 8 9 := fun g9 => by rw [hm534]; exact z_upd_o _ _ rfl
            refine X.retv i55_49 rfl t55 ?_
            show X (EE s) ((d - 1) - 1) 54 13 [(0, zr 0 8), (1, zi 22), (2, zi 0)] [] m534 _
            refine X.retv i54_13 rfl t54 ?_
            show X (EE s) (d - 1) 53 54 [] [] m534 _
            refine X.retv i53_54 rfl t53 ?_
            show X (EE s) d 136 35 [(0, zr g0 40), (1, zi a1)] [] m534 _
            refine X.aload_n 36 i136_35 rfl rfl rfl ?_
            refine X.getF 39 i136_36 rfl rfl (by decide) rfl rfl ?_
            refine X.getL 42 10 i136_39 rfl rfl (by decide) rfl rfl rfl ?_
            refine X.retl i136_42 rfl t136 ?_
            exact hQ (m534 0 8 10) m534 (by first | trivial | omega) (hJ535.up (by omega)) (fun g => by simp only [km504, km510, km527, km529, km531, km534]) 
      · refine X.aload_n 8 i53_7 rfl rfl rfl ?_
        refine X.getL 11 10 i53_8 rfl rfl (by decide) rfl rfl rfl ?_
        refine X.lconst (y := 0) 12 i53_11 rfl rfl rfl ?_
        refine X.lcmp 13 i53_12 rfl rfl (fun z536 hz536 => ?_)
        refine X.ifgt 20 16 i53_13 rfl rfl rfl (fun h537 => ?_) (fun h537 => ?_)
        · have h537c : (m504 0 8 10) > 0 := by omega
          clear h537 hz536
          refine X.iconst 21 i53_20 rfl rfl (by decide) ?_
          refine X.istore_n 22 [(0, zr 0 8), (1, zi 0)] i53_21 rfl rfl rfl ?_
          refine X.iload_n 23 i53_22 rfl rfl rfl ?_
          refine X.aload_n 24 i53_23 rfl rfl rfl ?_
          refine X.getZ 27 12 i53_24 rfl rfl (by decide) rfl rfl rfl (fun h538 => ?_)
          refine X.icmpeq 54 30 i53_27 rfl rfl rfl (fun h539 => ?_) (fun h539 => ?_)
          · refine X.cut [] i53_54 rfl ?_
            refine X.retv i53_54 rfl t53 ?_
            show X (EE s) d 136 35 [(0, zr g0 40), (1, zi a1)] [] m504 _
            refine X.aload_n 36 i136_35 rfl rfl rfl ?_
            refine X.getF 39 i136_36 rfl rfl (by decide) rfl rfl ?_
            refine X.getL 42 10 i136_39 rfl rfl (by decide) rfl rfl rfl ?_
            refine X.retl i136_42 rfl t136 ?_
            exact hQ (m504 0 8 10) m504 (by first | trivial | omega) (hJ505.up (by omega)) (fun g => by simp only [km504]) 
          · refine X.aload_n 31 i53_30 rfl rfl rfl ?_
            refine X.iload_n 32 i53_31 rfl rfl rfl ?_
            refine X.putZ' 35 12 i53_32 rfl rfl (by decide) rfl rfl rfl (by omega) (fun hrm540 m540 hm540 => ?_)
            have hJ541 := w8_12 hJ505 hm540 (by omega)
            have km540 : ∀ g, m540 g 8 9 = m504 g 8 9 := fun g9 => by rw [hm540]; exact z_upd_o _ _ rfl
            refine X.aload_n 36 i53_35 rfl rfl rfl ?_
            refine X.aload_n 37 i53_36 rfl rfl rfl ?_
            refine X.getZ 40 12 i53_37 rfl rfl (by decide) rfl rfl rfl (fun h542 => ?_)
            refine X.ifeq 48 43 i53_40 rfl rfl rfl (fun h543 => ?_) (fun h543 => ?_)
            · refine X.cut [] i53_48 rfl ?_
              refine X.bipush 50 i53_48 rfl rfl (by decide) ?_
              refine X.iconst 51 i53_50 rfl rfl (by decide) ?_
              refine X.callv 54 [zi 23, zi 0] [] [(0, zr 0 8), (1, zi 23), (2, zi 0)] i53_51 rfl (by decide) rfl rfl (by omega) rfl rfl (by decide) rfl t54 (Nat.le_of_ble_eq_true rfl) (Nat.le_of_ble_eq_true rfl) rfl ?_
              refine X.aload_n 1 i54_0 rfl rfl rfl ?_
              refine X.getR 4 i54_1 rfl rfl (by decide) rfl rfl ?_
              refine X.aload_n 5 i54_4 rfl rfl rfl ?_
              refine X.getI 8 9 i54_5 rfl rfl (by decide) rfl rfl rfl ?_
              have h544 := r8_9 hJ541 0
              refine X.iload_n 9 i54_8 rfl rfl rfl ?_
              refine X.iload_n 10 i54_9 rfl rfl rfl ?_
              refine X.callv 13 [zi (m540 0 8 9), zi 23, zi 0] [] [(0, zr 0 37), (1, zi (m540 0 8 9)), (2, zi 23), (3, zi 0)] i54_10 rfl (by decide) rfl rfl (by omega) rfl rfl (by decide) rfl t55 (Nat.le_of_ble_eq_true rfl) (Nat.le_of_ble_eq_true rfl) rfl ?_
              refine X.aload_n 1 i55_0 rfl rfl rfl ?_
              refine X.getI 4 1 i55_1 rfl rfl (by decide) rfl rfl rfl ?_
              have h545 := r37_1 hJ541 0
              refine X.bipush 6 i55_4 rfl rfl (by decide) ?_
              refine X.irem 7 i55_6 rfl rfl (by omega) ?_
              refine X.iconst 8 i55_7 rfl rfl (by decide) ?_
              refine X.imul 9 i55_8 rfl rfl (by omega) ?_
              refine X.istore 11 [(0, zr 0 37), (1, zi (m540 0 8 9)), (2, zi 23), (3, zi 0), (4, zi (((m540 0 37 1) % 40) * 3))] i55_9 rfl rfl rfl ?_
              refine X.aload_n 12 i55_11 rfl rfl rfl ?_
              refine X.getR 15 i55_12 rfl rfl (by decide) rfl rfl ?_
              refine X.iload 17 i55_15 rfl rfl rfl ?_
              refine X.iload_n 18 i55_17 rfl rfl rfl ?_
              refine X.iast' 19 i55_18 rfl rfl (by decide) rfl (by omega) (fun hrm546 m546 hm546 => ?_)
              have hJ547 := w38_0 hJ541 hm546 (by omega) hrm546
              have km546 : ∀ g, m546 g 8 9 = m540 g 8 9 := fun g9 => by rw [hm546]; exact z_upd_o _ _ rfl
              refine X.aload_n 20 i55_19 rfl rfl rfl ?_
              refine X.getR 23 i55_20 rfl rfl (by decide) rfl rfl ?_
              refine X.iload 25 i55_23 rfl rfl rfl ?_
              refine X.iconst 26 i55_25 rfl rfl (by decide) ?_
              refine X.iadd 27 i55_26 rfl rfl (by omega) ?_
              refine X.iload_n 28 i55_27 rfl rfl rfl ?_
              refine X.iast' 29 i55_28 rfl rfl (by decide) rfl (by omega) (fun hrm548 m548 hm548 => ?_)
              have hJ549 := w38_0 hJ547 hm548 (by omega) hrm548
              have km548 : ∀ g, m548 g 8 9 = m546 g 8 9 := fun g9 => by rw [hm548]; exact z_upd_o _ _ rfl
              refine X.aload_n 30 i55_29 rfl rfl rfl ?_
              refine X.getR 33 i55_30 rfl rfl (by decide) rfl rfl ?_
              refine X.iload 35 i55_33 rfl rfl rfl ?_
              refine X.iconst 36 i55_35 rfl rfl (by decide) ?_
              refine X.iadd 37 i55_36 rfl rfl (by omega) ?_
              refine X.iload_n 38 i55_37 rfl rfl rfl ?_
              refine X.iast' 39 i55_38 rfl rfl (by decide) rfl (by omega) (fun hrm550 m550 hm550 => ?_)
              have hJ551 := w38_0 hJ549 hm550 (by omega) hrm550
              have km550 : ∀ g, m550 g 8 9 = m548 g 8 9 := fun g9 => by rw [hm550]; exact z_upd_o _ _ rfl
              refine X.aload_n 40 i55_39 rfl rfl rfl ?_
              refine X.dup 41 i55_40 rfl rfl rfl ?_
              refine X.getI 44 1 i55_41 rfl rfl (by decide) rfl rfl rfl ?_
              have h552 := r37_1 hJ551 0
              refine X.iconst 45 i55_44 rfl rfl (by decide) ?_
              refine X.iadd 46 i55_45 rfl rfl (by omega) ?_
              refine X.putI' 49 1 i55_46 rfl rfl (by decide) rfl rfl rfl (fun hrm553 m553 hm553 => ?_)
              have hJ554 := w37_1 (hJ551.up (B' := B + 1) (by omega)) hm553 (by omega)
              have km553 : ∀ g, m553 g 8 9 = m550 g 8 9 := fun g9 => by rw [hm553]; exact z_upd_o _ _ rfl
              refine X.retv i55_49 rfl t55 ?_
              show X (EE s) ((d - 1) - 1) 54 13 [(0, zr 0 8), (1, zi 23), (2, zi 0)] [] m553 _
              refine X.retv i54_13 rfl t54 ?_
              show X (EE s) (d - 1) 53 54 [] [] m553 _
              refine X.retv i53_54 rfl t53 ?_
              show X (EE s) d 136 35 [(0, zr g0 40), (1, zi a1)] [] m553 _
              refine X.aload_n 36 i136_35 rfl rfl rfl ?_
              refine X.getF 39 i136_36 rfl rfl (by decide) rfl rfl ?_
              refine X.getL 42 10 i136_39 rfl rfl (by decide) rfl rfl rfl ?_
              refine X.retl i136_42 rfl t136 ?_
              exact hQ (m553 0 8 10) m553 (by first | trivial | omega) (hJ554.up (by omega)) (fun g => by simp only [km504, km540, km546, km548, km550, km553]) 
            · refine X.bipush 45 i53_43 rfl rfl (by decide) ?_
              refine X.goto 50 i53_45 rfl rfl ?_
              refine X.cut [] i53_50 rfl ?_
              refine X.iconst 51 i53_50 rfl rfl (by decide) ?_
              refine X.callv 54 [zi 22, zi 0] [] [(0, zr 0 8), (1, zi 22), (2, zi 0)] i53_51 rfl (by decide) rfl rfl (by omega) rfl rfl (by decide) rfl t54 (Nat.le_of_ble_eq_true rfl) (Nat.le_of_ble_eq_true rfl) rfl ?_
              refine X.aload_n 1 i54_0 rfl rfl rfl ?_
              refine X.getR 4 i54_1 rfl rfl (by decide) rfl rfl ?_
              refine X.aload_n 5 i54_4 rfl rfl rfl ?_
              refine X.getI 8 9 i54_5 rfl rfl (by decide) rfl rfl rfl ?_
              have h555 := r8_9 hJ541 0
              refine X.iload_n 9 i54_8 rfl rfl rfl ?_
              refine X.iload_n 10 i54_9 rfl rfl rfl ?_
              refine X.callv 13 [zi (m540 0 8 9), zi 22, zi 0] [] [(0, zr 0 37), (1, zi (m540 0 8 9)), (2, zi 22), (3, zi 0)] i54_10 rfl (by decide) rfl rfl (by omega) rfl rfl (by decide) rfl t55 (Nat.le_of_ble_eq_true rfl) (Nat.le_of_ble_eq_true rfl) rfl ?_
              refine X.aload_n 1 i55_0 rfl rfl rfl ?_
              refine X.getI 4 1 i55_1 rfl rfl (by decide) rfl rfl rfl ?_
              have h556 := r37_1 hJ541 0
              refine X.bipush 6 i55_4 rfl rfl (by decide) ?_
              refine X.irem 7 i55_6 rfl rfl (by omega) ?_
              refine X.iconst 8 i55_7 rfl rfl (by decide) ?_
              refine X.imul 9 i55_8 rfl rfl (by omega) ?_
              refine X.istore 11 [(0, zr 0 37), (1, zi (m540 0 8 9)), (2, zi 22), (3, zi 0), (4, zi (((m540 0 37 1) % 40) * 3))] i55_9 rfl rfl rfl ?_
              refine X.aload_n 12 i55_11 rfl rfl rfl ?_
              refine X.getR 15 i55_12 rfl rfl (by decide) rfl rfl ?_
              refine X.iload 17 i55_15 rfl rfl rfl ?_
              refine X.iload_n 18 i55_17 rfl rfl rfl ?_
              refine X.iast' 19 i55_18 rfl rfl (by decide) rfl (by omega) (fun hrm557 m557 hm557 => ?_)
              have hJ558 := w38_0 hJ541 hm557 (by omega) hrm557
              have km557 : ∀ g, m557 g 8 9 = m540 g 8 9 := fun g9 => by rw [hm557]; exact z_upd_o _ _ rfl
              refine X.aload_n 20 i55_19 rfl rfl rfl ?_
              refine X.getR 23 i55_20 rfl rfl (by decide) rfl rfl ?_
              refine X.iload 25 i55_23 rfl rfl rfl ?_
              refine X.iconst 26 i55_25 rfl rfl (by decide) ?_
              refine X.iadd 27 i55_26 rfl rfl (by omega) ?_
              refine X.iload_n 28 i55_27 rfl rfl rfl ?_
              refine X.iast' 29 i55_28 rfl rfl (by decide) rfl (by omega) (fun hrm559 m559 hm559 => ?_)
              have hJ560 := w38_0 hJ558 hm559 (by omega) hrm559
              have km559 : ∀ g, m559 g 8 9 = m557 g 8 9 := fun g9 => by rw [hm559]; exact z_upd_o _ _ rfl
              refine X.aload_n 30 i55_29 rfl rfl rfl ?_
              refine X.getR 33 i55_30 rfl rfl (by decide) rfl rfl ?_
              refine X.iload 35 i55_33 rfl rfl rfl ?_
              refine X.iconst 36 i55_35 rfl rfl (by decide) ?_
              refine X.iadd 37 i55_36 rfl rfl (by omega) ?_
              refine X.iload_n 38 i55_37 rfl rfl rfl ?_
              refine X.iast' 39 i55_38 rfl rfl (by decide) rfl (by omega) (fun hrm561 m561 hm561 => ?_)
              have hJ562 := w38_0 hJ560 hm561 (by omega) hrm561
              have km561 : ∀ g, m561 g 8 9 = m559 g 8 9 := fun g9 => by rw [hm561]; exact z_upd_o _ _ rfl
              refine X.aload_n 40 i55_39 rfl rfl rfl ?_
              refine X.dup 41 i55_40 rfl rfl rfl ?_
              refine X.getI 44 1 i55_41 rfl rfl (by decide) rfl rfl rfl ?_
              have h563 := r37_1 hJ562 0
              refine X.iconst 45 i55_44 rfl rfl (by decide) ?_
              refine X.iadd 46 i55_45 rfl rfl (by omega) ?_
              refine X.putI' 49 1 i55_46 rfl rfl (by decide) rfl rfl rfl (fun hrm564 m564 hm564 => ?_)
              have hJ565 := w37_1 (hJ562.up (B' := B + 1) (by omega)) hm564 (by omega)
              have km564 : ∀ g, m564 g 8 9 = m561 g 8 9 := fun g9 => by rw [hm564]; exact z_upd_o _ _ rfl
              refine X.retv i55_49 rfl t55 ?_
              show X (EE s) ((d - 1) - 1) 54 13 [(0, zr 0 8), (1, zi 22), (2, zi 0)] [] m564 _
              refine X.retv i54_13 rfl t54 ?_
              show X (EE s) (d - 1) 53 54 [] [] m564 _
              refine X.retv i53_54 rfl t53 ?_
              show X (EE s) d 136 35 [(0, zr g0 40), (1, zi a1)] [] m564 _
              refine X.aload_n 36 i136_35 rfl rfl rfl ?_
              refine X.getF 39 i136_36 rfl rfl (by decide) rfl rfl ?_
              refine X.getL 42 10 i136_39 rfl rfl (by decide) rfl rfl rfl ?_
              refine X.retl i136_42 rfl t136 ?_
              exact hQ (m564 0 8 10) m564 (by first | trivial | omega) (hJ565.up (by omega)) (fun g => by simp only [km504, km540, km557, km559, km561, km564]) 
        · have h537c : (m504 0 8 10) ≤ 0 := by omega
          clear h537 hz536
          refine X.iconst 17 i53_16 rfl rfl (by decide) ?_
          refine X.goto 21 i53_17 rfl rfl ?_
          refine X.istore_n 22 [(0, zr 0 8), (1, zi 1)] i53_21 rfl rfl rfl ?_
          refine X.iload_n 23 i53_22 rfl rfl rfl ?_
          refine X.aload_n 24 i53_23 rfl rfl rfl ?_
          refine X.getZ 27 12 i53_24 rfl rfl (by decide) rfl rfl rfl (fun h566 => ?_)
          refine X.icmpeq 54 30 i53_27 rfl rfl rfl (fun h567 => ?_) (fun h567 => ?_)
          · refine X.cut [] i53_54 rfl ?_
            refine X.retv i53_54 rfl t53 ?_
            show X (EE s) d 136 35 [(0, zr g0 40), (1, zi a1)] [] m504 _
            refine X.aload_n 36 i136_35 rfl rfl rfl ?_
            refine X.getF 39 i136_36 rfl rfl (by decide) rfl rfl ?_
            refine X.getL 42 10 i136_39 rfl rfl (by decide) rfl rfl rfl ?_
            refine X.retl i136_42 rfl t136 ?_
            exact hQ (m504 0 8 10) m504 (by first | trivial | omega) (hJ505.up (by omega)) (fun g => by simp only [km504]) 
          · refine X.aload_n 31 i53_30 rfl rfl rfl ?_
            refine X.iload_n 32 i53_31 rfl rfl rfl ?_
            refine X.putZ' 35 12 i53_32 rfl rfl (by decide) rfl rfl rfl (by omega) (fun hrm568 m568 hm568 => ?_)
            have hJ569 := w8_12 hJ505 hm568 (by omega)
            have km568 : ∀ g, m568 g 8 9 = m504 g 8 9 := fun g9 => by rw [hm568]; exact z_upd_o _ _ rfl
            refine X.aload_n 36 i53_35 rfl rfl rfl ?_
            refine X.aload_n 37 i53_36 rfl rfl rfl ?_
            refine X.getZ 40 12 i53_37 rfl rfl (by decide) rfl rfl rfl (fun h570 => ?_)
            refine X.ifeq 48 43 i53_40 rfl rfl rfl (fun h571 => ?_) (fun h571 => ?_)
            · refine X.cut [] i53_48 rfl ?_
              refine X.bipush 50 i53_48 rfl rfl (by decide) ?_
              refine X.iconst 51 i53_50 rfl rfl (by decide) ?_
              refine X.callv 54 [zi 23, zi 0] [] [(0, zr 0 8), (1, zi 23), (2, zi 0)] i53_51 rfl (by decide) rfl rfl (by omega) rfl rfl (by decide) rfl t54 (Nat.le_of_ble_eq_true rfl) (Nat.le_of_ble_eq_true rfl) rfl ?_
              refine X.aload_n 1 i54_0 rfl rfl rfl ?_
              refine X.getR 4 i54_1 rfl rfl (by decide) rfl rfl ?_
              refine X.aload_n 5 i54_4 rfl rfl rfl ?_
              refine X.getI 8 9 i54_5 rfl rfl (by decide) rfl rfl rfl ?_
              have h572 := r8_9 hJ569 0
              refine X.iload_n 9 i54_8 rfl rfl rfl ?_
              refine X.iload_n 10 i54_9 rfl rfl rfl ?_
              refine X.callv 13 [zi (m568 0 8 9), zi 23, zi 0] [] [(0, zr 0 37), (1, zi (m568 0 8 9)), (2, zi 23), (3, zi 0)] i54_10 rfl (by decide) rfl rfl (by omega) rfl rfl (by decide) rfl t55 (Nat.le_of_ble_eq_true rfl) (Nat.le_of_ble_eq_true rfl) rfl ?_
              refine X.aload_n 1 i55_0 rfl rfl rfl ?_
              refine X.getI 4 1 i55_1 rfl rfl (by decide) rfl rfl rfl ?_
              have h573 := r37_1 hJ569 0
              refine X.bipush 6 i55_4 rfl rfl (by decide) ?_
              refine X.irem 7 i55_6 rfl rfl (by omega) ?_
              refine X.iconst 8 i55_7 rfl rfl (by decide) ?_
              refine X.imul 9 i55_8 rfl rfl (by omega) ?_
              refine X.istore 11 [(0, zr 0 37), (1, zi (m568 0 8 9)), (2, zi 23), (3, zi 0), (4, zi (((m568 0 37 1) % 40) * 3))] i55_9 rfl rfl rfl ?_
              refine X.aload_n 12 i55_11 rfl rfl rfl ?_
              refine X.getR 15 i55_12 rfl rfl (by decide) rfl rfl ?_
              refine X.iload 17 i55_15 rfl rfl rfl ?_
              refine X.iload_n 18 i55_17 rfl rfl rfl ?_
              refine X.iast' 19 i55_18 rfl rfl (by decide) rfl (by omega) (fun hrm574 m574 hm574 => ?_)
              have hJ575 := w38_0 hJ569 hm574 (by omega) hrm574
              have km574 : ∀ g, m574 g 8 9 = m568 g 8 9 := fun g9 => by rw [hm574]; exact z_upd_o _ _ rfl
              refine X.aload_n 20 i55_19 rfl rfl rfl ?_
              refine X.getR 23 i55_20 rfl rfl (by decide) rfl rfl ?_
              refine X.iload 25 i55_23 rfl rfl rfl ?_
              refine X.iconst 26 i55_25 rfl rfl (by decide) ?_
              refine X.iadd 27 i55_26 rfl rfl (by omega) ?_
              refine X.iload_n 28 i55_27 rfl rfl rfl ?_
              refine X.iast' 29 i55_28 rfl rfl (by decide) rfl (by omega) (fun hrm576 m576 hm576 => ?_)
              have hJ577 := w38_0 hJ575 hm576 (by omega) hrm576
              have km576 : ∀ g, m576 g 8 9 = m574 g 8 9 := fun g9 => by rw [hm576]; exact z_upd_o _ _ rfl
              refine X.aload_n 30 i55_29 rfl rfl rfl ?_
              refine X.getR 33 i55_30 rfl rfl (by decide) rfl rfl ?_
              refine X.iload 35 i55_33 rfl rfl rfl ?_
              refine X.iconst 36 i55_35 rfl rfl (by decide) ?_
              refine X.iadd 37 i55_36 rfl rfl (by omega) ?_
              refine X.iload_n 38 i55_37 rfl rfl rfl ?_
              refine X.iast' 39 i55_38 rfl rfl (by decide) rfl (by omega) (fun hrm578 m578 hm578 => ?_)
              have hJ579 := w38_0 hJ577 hm578 (by omega) hrm578
              have km578 : ∀ g, m578 g 8 9 = m576 g 8 9 := fun g9 => by rw [hm578]; exact z_upd_o _ _ rfl
              refine X.aload_n 40 i55_39 rfl rfl rfl ?_
              refine X.dup 41 i55_40 rfl rfl rfl ?_
              refine X.getI 44 1 i55_41 rfl rfl (by decide) rfl rfl rfl ?_
              have h580 := r37_1 hJ579 0
              refine X.iconst 45 i55_44 rfl rfl (by decide) ?_
              refine X.iadd 46 i55_45 rfl rfl (by omega) ?_
              refine X.putI' 49 1 i55_46 rfl rfl (by decide) rfl rfl rfl (fun hrm581 m581 hm581 => ?_)
              have hJ582 := w37_1 (hJ579.up (B' := B + 1) (by omega)) hm581 (by omega)
              have km581 : ∀ g, m581 g 8 9 = m578 g 8 9 := fun g9 => by rw [hm581]; exact z_upd_o _ _ rfl
              refine X.retv i55_49 rfl t55 ?_
              show X (EE s) ((d - 1) - 1) 54 13 [(0, zr 0 8), (1, zi 23), (2, zi 0)] [] m581 _
              refine X.retv i54_13 rfl t54 ?_
              show X (EE s) (d - 1) 53 54 [] [] m581 _
              refine X.retv i53_54 rfl t53 ?_
              show X (EE s) d 136 35 [(0, zr g0 40), (1, zi a1)] [] m581 _
              refine X.aload_n 36 i136_35 rfl rfl rfl ?_
              refine X.getF 39 i136_36 rfl rfl (by decide) rfl rfl ?_
              refine X.getL 42 10 i136_39 rfl rfl (by decide) rfl rfl rfl ?_
              refine X.retl i136_42 rfl t136 ?_
              exact hQ (m581 0 8 10) m581 (by first | trivial | omega) (hJ582.up (by omega)) (fun g => by simp only [km504, km568, km574, km576, km578, km581]) 
            · refine X.bipush 45 i53_43 rfl rfl (by decide) ?_
              refine X.goto 50 i53_45 rfl rfl ?_
              refine X.cut [] i53_50 rfl ?_
              refine X.iconst 51 i53_50 rfl rfl (by decide) ?_
              refine X.callv 54 [zi 22, zi 0] [] [(0, zr 0 8), (1, zi 22), (2, zi 0)] i53_51 rfl (by decide) rfl rfl (by omega) rfl rfl (by decide) rfl t54 (Nat.le_of_ble_eq_true rfl) (Nat.le_of_ble_eq_true rfl) rfl ?_
              refine X.aload_n 1 i54_0 rfl rfl rfl ?_
              refine X.getR 4 i54_1 rfl rfl (by decide) rfl rfl ?_
              refine X.aload_n 5 i54_4 rfl rfl rfl ?_
              refine X.getI 8 9 i54_5 rfl rfl (by decide) rfl rfl rfl ?_
              have h583 := r8_9 hJ569 0
              refine X.iload_n 9 i54_8 rfl rfl rfl ?_
              refine X.iload_n 10 i54_9 rfl rfl rfl ?_
              refine X.callv 13 [zi (m568 0 8 9), zi 22, zi 0] [] [(0, zr 0 37), (1, zi (m568 0 8 9)), (2, zi 22), (3, zi 0)] i54_10 rfl (by decide) rfl rfl (by omega) rfl rfl (by decide) rfl t55 (Nat.le_of_ble_eq_true rfl) (Nat.le_of_ble_eq_true rfl) rfl ?_
              refine X.aload_n 1 i55_0 rfl rfl rfl ?_
              refine X.getI 4 1 i55_1 rfl rfl (by decide) rfl rfl rfl ?_
              have h584 := r37_1 hJ569 0
              refine X.bipush 6 i55_4 rfl rfl (by decide) ?_
              refine X.irem 7 i55_6 rfl rfl (by omega) ?_
              refine X.iconst 8 i55_7 rfl rfl (by decide) ?_
              refine X.imul 9 i55_8 rfl rfl (by omega) ?_
              refine X.istore 11 [(0, zr 0 37), (1, zi (m568 0 8 9)), (2, zi 22), (3, zi 0), (4, zi (((m568 0 37 1) % 40) * 3))] i55_9 rfl rfl rfl ?_
              refine X.aload_n 12 i55_11 rfl rfl rfl ?_
              refine X.getR 15 i55_12 rfl rfl (by decide) rfl rfl ?_
              refine X.iload 17 i55_15 rfl rfl rfl ?_
              refine X.iload_n 18 i55_17 rfl rfl rfl ?_
              refine X.iast' 19 i55_18 rfl rfl (by decide) rfl (by omega) (fun hrm585 m585 hm585 => ?_)
              have hJ586 := w38_0 hJ569 hm585 (by omega) hrm585
              have km585 : ∀ g, m585 g 8 9 = m568 g 8 9 := fun g9 => by rw [hm585]; exact z_upd_o _ _ rfl
              refine X.aload_n 20 i55_19 rfl rfl rfl ?_
              refine X.getR 23 i55_20 rfl rfl (by decide) rfl rfl ?_
              refine X.iload 25 i55_23 rfl rfl rfl ?_
              refine X.iconst 26 i55_25 rfl rfl (by decide) ?_
              refine X.iadd 27 i55_26 rfl rfl (by omega) ?_
              refine X.iload_n 28 i55_27 rfl rfl rfl ?_
              refine X.iast' 29 i55_28 rfl rfl (by decide) rfl (by omega) (fun hrm587 m587 hm587 => ?_)
              have hJ588 := w38_0 hJ586 hm587 (by omega) hrm587
              have km587 : ∀ g, m587 g 8 9 = m585 g 8 9 := fun g9 => by rw [hm587]; exact z_upd_o _ _ rfl
              refine X.aload_n 30 i55_29 rfl rfl rfl ?_
              refine X.getR 33 i55_30 rfl rfl (by decide) rfl rfl ?_
              refine X.iload 35 i55_33 rfl rfl rfl ?_
              refine X.iconst 36 i55_35 rfl rfl (by decide) ?_
              refine X.iadd 37 i55_36 rfl rfl (by omega) ?_
              refine X.iload_n 38 i55_37 rfl rfl rfl ?_
              refine X.iast' 39 i55_38 rfl rfl (by decide) rfl (by omega) (fun hrm589 m589 hm589 => ?_)
              have hJ590 := w38_0 hJ588 hm589 (by omega) hrm589
              have km589 : ∀ g, m589 g 8 9 = m587 g 8 9 := fun g9 => by rw [hm589]; exact z_upd_o _ _ rfl
              refine X.aload_n 40 i55_39 rfl rfl rfl ?_
              refine X.dup 41 i55_40 rfl rfl rfl ?_
              refine X.getI 44 1 i55_41 rfl rfl (by decide) rfl rfl rfl ?_
              have h591 := r37_1 hJ590 0
              refine X.iconst 45 i55_44 rfl rfl (by decide) ?_
              refine X.iadd 46 i55_45 rfl rfl (by omega) ?_
              refine X.putI' 49 1 i55_46 rfl rfl (by decide) rfl rfl rfl (fun hrm592 m592 hm592 => ?_)
              have hJ593 := w37_1 (hJ590.up (B' := B + 1) (by omega)) hm592 (by omega)
              have km592 : ∀ g, m592 g 8 9 = m589 g 8 9 := fun g9 => by rw [hm592]; exact z_upd_o _ _ rfl
              refine X.retv i55_49 rfl t55 ?_
              show X (EE s) ((d - 1) - 1) 54 13 [(0, zr 0 8), (1, zi 22), (2, zi 0)] [] m592 _
              refine X.retv i54_13 rfl t54 ?_
              show X (EE s) (d - 1) 53 54 [] [] m592 _
              refine X.retv i53_54 rfl t53 ?_
              show X (EE s) d 136 35 [(0, zr g0 40), (1, zi a1)] [] m592 _
              refine X.aload_n 36 i136_35 rfl rfl rfl ?_
              refine X.getF 39 i136_36 rfl rfl (by decide) rfl rfl ?_
              refine X.getL 42 10 i136_39 rfl rfl (by decide) rfl rfl rfl ?_
              refine X.retl i136_42 rfl t136 ?_
              exact hQ (m592 0 8 10) m592 (by first | trivial | omega) (hJ593.up (by omega)) (fun g => by simp only [km504, km568, km585, km587, km589, km592]) 
    · refine X.cut [] i136_10 rfl ?_
      refine X.ldc2 13 i136_10 rfl rfl (by decide) ?_
      refine X.retl i136_13 rfl t136 ?_
      exact hQ (-10000000000) m (by first | trivial | omega) (hJ.up (by omega)) (fun g => rfl) 
-- WorkMeterModel.pay
theorem c285_1 {s : Nat × (Nat → Int32)} {m0 m : zM} {B : Int} {d : Nat} {Q : Option zV → zM → Prop} (g0 : Nat) (a1 : Int) (hd : 15 ≤ d) (hJ : J m0 B m) (hB : B + 1 ≤ 1000000000) (ha1 : (-2147483648) ≤ a1 ∧ a1 ≤ 2147483647) (hQ : ∀ (v : Int) m', (True) → J m0 (B + 1) m' → (∀ g, m' g 8 9 = m g 8 9) → Q (some (zl v)) m') : X (EE s) d 285 0 [(0, zr g0 44), (1, zi a1)] [] m Q := by
  refine X.iload_n 1 i285_0 rfl rfl rfl ?_
  refine X.i2l 2 i285_1 rfl rfl ?_
  refine X.lconst (y := 0) 3 i285_2 rfl rfl rfl ?_
  refine X.ldc2 6 i285_3 rfl rfl (by decide) ?_
  refine X.calls 9 [zl a1, zl 0, zl 1000000000] [] [(0, zl a1), (2, zl 0), (4, zl 1000000000)] i285_6 (by decide) rfl rfl (by omega) rfl rfl t204 (Nat.le_of_ble_eq_true rfl) (Nat.le_of_ble_eq_true rfl) rfl ?_
  refine X.lload_n 1 i204_0 rfl rfl rfl ?_
  refine X.lload_n 2 i204_1 rfl rfl rfl ?_
  refine X.lcmp 3 i204_2 rfl rfl (fun z501 hz501 => ?_)
  refine X.iflt 17 6 i204_3 rfl rfl rfl (fun h502 => ?_) (fun h502 => ?_)
  · have h502c : a1 < 0 := by omega
    clear h502 hz501
    refine X.cut [] i204_17 rfl ?_
    refine X.iconst 18 i204_17 rfl rfl (by decide) ?_
    refine X.retz i204_18 rfl t204 (by omega) ?_
    show X (EE s) d 285 9 [(0, zr g0 44), (1, zi a1)] [zi 0] m _
    refine X.ifne 16 12 i285_9 rfl rfl rfl (fun h503 => (by exfalso; omega)) (fun h503 => ?_)
    refine X.ldc2 15 i285_12 rfl rfl (by decide) ?_
    refine X.retl i285_15 rfl t285 ?_
    exact hQ (-10000000000) m (by first | trivial | omega) (hJ.up (by omega)) (fun g => rfl) 
  · have h502c : a1 ≥ 0 := by omega
    clear h502 hz501
    refine X.lload_n 7 i204_6 rfl rfl rfl ?_
    refine X.lload 9 i204_7 rfl rfl rfl ?_
    refine X.lcmp 10 i204_9 rfl rfl (fun z504 hz504 => ?_)
    refine X.ifgt 17 13 i204_10 rfl rfl rfl (fun h505 => ?_) (fun h505 => ?_)
    · have h505c : a1 > 1000000000 := by omega
      clear h505 hz504
      refine X.cut [] i204_17 rfl ?_
      refine X.iconst 18 i204_17 rfl rfl (by decide) ?_
      refine X.retz i204_18 rfl t204 (by omega) ?_
      show X (EE s) d 285 9 [(0, zr g0 44), (1, zi a1)] [zi 0] m _
      refine X.ifne 16 12 i285_9 rfl rfl rfl (fun h506 => (by exfalso; omega)) (fun h506 => ?_)
      refine X.ldc2 15 i285_12 rfl rfl (by decide) ?_
      refine X.retl i285_15 rfl t285 ?_
      exact hQ (-10000000000) m (by first | trivial | omega) (hJ.up (by omega)) (fun g => rfl) 
    · have h505c : a1 ≤ 1000000000 := by omega
      clear h505 hz504
      refine X.iconst 14 i204_13 rfl rfl (by decide) ?_
      refine X.goto 18 i204_14 rfl rfl ?_
      refine X.cut [] i204_18 rfl ?_
      refine X.retz i204_18 rfl t204 (by omega) ?_
      show X (EE s) d 285 9 [(0, zr g0 44), (1, zi a1)] [zi 1] m _
      refine X.ifne 16 12 i285_9 rfl rfl rfl (fun h507 => ?_) (fun h507 => (by exfalso; omega))
      refine X.aload_n 17 i285_16 rfl rfl rfl ?_
      refine X.getF 20 i285_17 rfl rfl (by decide) rfl rfl ?_
      refine X.bipush 22 i285_20 rfl rfl (by decide) ?_
      refine X.dup2 23 i285_22 rfl rfl ?_
      refine X.lald 24 i285_23 rfl rfl (by decide) rfl (by omega) ?_
      refine X.iload_n 25 i285_24 rfl rfl rfl ?_
      refine X.i2l 26 i285_25 rfl rfl ?_
      refine X.llF 27 .ladd (fun x y => x + y) i285_26 rfl rfl rfl (fun _ _ => rfl) (fun z508 hz508 => ?_)
      refine X.last' 28 i285_27 rfl rfl (by decide) rfl (by omega) (fun hrm509 m509 hm509 => ?_)
      have hJ510 := w45_10 hJ hm509 hrm509
      have km509 : ∀ g, m509 g 8 9 = m g 8 9 := fun g9 => by rw [hm509]; exact z_upd_o _ _ rfl
      refine X.aload_n 29 i285_28 rfl rfl rfl ?_
      refine X.callv 32 [] [] [(0, zr g0 44)] i285_29 rfl (by decide) rfl rfl (by omega) rfl rfl (by decide) rfl t222 (Nat.le_of_ble_eq_true rfl) (Nat.le_of_ble_eq_true rfl) rfl ?_
      refine c222_1 (B := B) g0  (by omega) (hJ510.up (by omega)) (by omega)  (fun m511 hJ512 km511 => ?_)
      show X (EE s) d 285 32 [(0, zr g0 44), (1, zi a1)] [] m511 _
      refine X.aload_n 33 i285_32 rfl rfl rfl ?_
      refine X.getF 36 i285_33 rfl rfl (by decide) rfl rfl ?_
      refine X.bipush 38 i285_36 rfl rfl (by decide) ?_
      refine X.lald 39 i285_38 rfl rfl (by decide) rfl (by omega) ?_
      refine X.retl i285_39 rfl t285 ?_
      exact hQ (m511 4 45 10) m511 (by first | trivial | omega) (hJ512.up (by omega)) (fun g => by simp only [km509, km511]) 
theorem l139_14_1 {s : Nat × (Nat → Int32)} {m0 : zM} {d : Nat} {Q : Option zV → zM → Prop} (g0 g2 : Nat) (y1 y3 : Int) (T9 : Nat → Int) (BE : Int) (hE : BE ≤ 1000000000) (hd : 13 ≤ d) (hy1 : 0 ≤ y1 ∧ y1 ≤ 2000000000) (hy3 : 0 ≤ y3 ∧ y3 ≤ 165)
    (K65 : ∀ (m' : zM) (B' : Int), J m0 B' m' → B' ≤ BE → (∀ g, m' g 8 9 = T9 g) → X (EE s) d 139 65 [(0, zr g0 23), (1, zi y1), (2, zr g2 30), (3, zi y3)] [] m' Q) :
    ∀ (n : Nat) (y4 : Int) (m : zM) (B : Int), J m0 B m → B + 0 * (n : Int) ≤ BE → (∀ g, m g 8 9 = T9 g) → (0 ≤ y4 ∧ y4 ≤ 28) → 28 - y4 < (n : Int) → X (EE s) d 139 14 [(0, zr g0 23), (1, zi y1), (2, zr g2 30), (3, zi y3), (4, zi y4)] [] m Q := by
  intro n
  induction n with
  | zero =>
    intro y4 m B hJ hB hT hy4 hn
    exfalso
    omega
  | succ n ih =>
    intro y4 m B hJ hB hT hy4 hn
    refine X.iload 16 i139_14 rfl rfl rfl ?_
    refine X.bipush 18 i139_16 rfl rfl (by decide) ?_
    refine X.icmpge 65 21 i139_18 rfl rfl rfl (fun h507 => ?_) (fun h507 => ?_)
    · refine X.cut [(0, zr g0 23), (1, zi y1), (2, zr g2 30), (3, zi y3)] i139_65 rfl ?_
      exact K65  m (B) (hJ.up (by omega)) (by omega) (fun g => by simp only [hT]) 
    · refine X.aload_n 22 i139_21 rfl rfl rfl ?_
      refine X.getR 25 i139_22 rfl rfl (by decide) rfl rfl ?_
      refine X.iload_n 26 i139_25 rfl rfl rfl ?_
      refine X.iload 28 i139_26 rfl rfl rfl ?_
      refine X.iadd 29 i139_28 rfl rfl (by omega) ?_
      refine X.aload_n 30 i139_29 rfl rfl rfl ?_
      refine X.getR 33 i139_30 rfl rfl (by decide) rfl rfl ?_
      refine X.iload 35 i139_33 rfl rfl rfl ?_
      refine X.lald 36 i139_35 rfl rfl (by decide) rfl (by omega) ?_
      refine X.aload_n 37 i139_36 rfl rfl rfl ?_
      refine X.getR 40 i139_37 rfl rfl (by decide) rfl rfl ?_
      refine X.iload 42 i139_40 rfl rfl rfl ?_
      refine X.lald 43 i139_42 rfl rfl (by decide) rfl (by omega) ?_
      refine X.llF 44 .lsub (fun x y => x - y) i139_43 rfl rfl rfl (fun _ _ => rfl) (fun z508 hz508 => ?_)
      refine X.last' 45 i139_44 rfl rfl (by decide) rfl (by omega) (fun hrm509 m509 hm509 => ?_)
      have hJ510 := w26_0 hJ hm509 (by omega) hrm509
      have km509 : ∀ g, m509 g 8 9 = m g 8 9 := fun g9 => by rw [hm509]; exact z_upd_o _ _ rfl
      refine X.aload_n 46 i139_45 rfl rfl rfl ?_
      refine X.getR 49 i139_46 rfl rfl (by decide) rfl rfl ?_
      refine X.iload 51 i139_49 rfl rfl rfl ?_
      refine X.aload_n 52 i139_51 rfl rfl rfl ?_
      refine X.getR 55 i139_52 rfl rfl (by decide) rfl rfl ?_
      refine X.iload 57 i139_55 rfl rfl rfl ?_
      refine X.lald 58 i139_57 rfl rfl (by decide) rfl (by omega) ?_
      refine X.last' 59 i139_58 rfl rfl (by decide) rfl (by omega) (fun hrm511 m511 hm511 => ?_)
      have hJ512 := w25_0 hJ510 hm511 (by omega) hrm511
      have km511 : ∀ g, m511 g 8 9 = m509 g 8 9 := fun g9 => by rw [hm511]; exact z_upd_o _ _ rfl
      refine X.iinc 62 [(0, zr g0 23), (1, zi y1), (2, zr g2 30), (3, zi y3), (4, zi (y4 + 1))] i139_59 rfl rfl rfl (by omega) rfl ?_
      refine X.goto 14 i139_62 rfl rfl ?_
      exact ih (y4 + 1) m511 (B) (hJ512.up (by omega)) (by omega) (fun g => by simp only [km509, km511, hT]) (by omega) (by omega)
-- WorkMeter$Registers.keepBill
theorem c139_1 {s : Nat × (Nat → Int32)} {m0 m : zM} {B : Int} {d : Nat} {Q : Option zV → zM → Prop} (g0 g2 : Nat) (a1 : Int) (hd : 13 ≤ d) (hJ : J m0 B m) (hB : B + 1 ≤ 1000000000) (ha1 : 0 ≤ a1 ∧ a1 ≤ 2000000000) (hp0 : g0 ≤ 1) (hQ : ∀ (n0 : zM) m', J n0 (B + 1) m' → (∀ g, m' g 8 9 = m g 8 9) → (n0 = z_upd m0 g0 23 3 (m0 g0 23 3 + 1)) → Q none m') : X (EE s) d 139 0 [(0, zr g0 23), (1, zi a1), (2, zr g2 30)] [] m Q := by
  refine X.aload_n 1 i139_0 rfl rfl rfl ?_
  refine X.getI 4 3 i139_1 rfl rfl (by decide) rfl rfl rfl ?_
  have t501 := hJ.2 g0 23 3 (jt23 (by omega))
  have h502 := r23_3 hJ g0
  refine X.bipush 6 i139_4 rfl rfl (by decide) ?_
  refine X.irem 7 i139_6 rfl rfl (by omega) ?_
  refine X.bipush 9 i139_7 rfl rfl (by decide) ?_
  refine X.imul 10 i139_9 rfl rfl (by omega) ?_
  refine X.istore_n 11 [(0, zr g0 23), (1, zi a1), (2, zr g2 30), (3, zi (((m g0 23 3) % 6) * 33))] i139_10 rfl rfl rfl ?_
  refine X.iconst 12 i139_11 rfl rfl (by decide) ?_
  refine X.istore 14 [(0, zr g0 23), (1, zi a1), (2, zr g2 30), (3, zi (((m g0 23 3) % 6) * 33)), (4, zi 0)] i139_12 rfl rfl rfl ?_
  refine l139_14_1 (s := s) (m0 := m0) (d := d) g0 g2 a1 (((m g0 23 3) % 6) * 33) (fun g => m g 8 9) (BE := B + 0) (by omega) (by omega) (by omega) (by omega) (fun  m503 B504 hJ505 hBB504 hkm503 => ?_) ((28 - 0 : Int).toNat + 1) 0 m (B) (hJ.up (by omega)) (by omega) (fun g => rfl) (by omega) (by omega)
  refine X.aload_n 66 i139_65 rfl rfl rfl ?_
  refine X.getR 69 i139_66 rfl rfl (by decide) rfl rfl ?_
  refine X.iconst 70 i139_69 rfl rfl (by decide) ?_
  refine X.aload_n 71 i139_70 rfl rfl rfl ?_
  refine X.getR 74 i139_71 rfl rfl (by decide) rfl rfl ?_
  refine X.iload_n 75 i139_74 rfl rfl rfl ?_
  refine X.bipush 77 i139_75 rfl rfl (by decide) ?_
  refine X.iadd 78 i139_77 rfl rfl (by omega) ?_
  refine X.iconst 79 i139_78 rfl rfl (by decide) ?_
  refine X.cpL' 82 i139_79 rfl rfl (by omega) (Nat.le_of_ble_eq_true rfl) (by decide) (by decide) rfl rfl (by omega) (fun m506 hm506 => ?_)
  have hJ507 := J.cpyF hJ505 hm506 rfl rfl (fun _ => rfl)
  have km506 : ∀ g, m506 g 8 9 = m503 g 8 9 := fun g9 => by rw [hm506]; exact z_cpy_o rfl
  refine X.aload_n 83 i139_82 rfl rfl rfl ?_
  refine X.getR 86 i139_83 rfl rfl (by decide) rfl rfl ?_
  refine X.iload_n 87 i139_86 rfl rfl rfl ?_
  refine X.bipush 89 i139_87 rfl rfl (by decide) ?_
  refine X.iadd 90 i139_89 rfl rfl (by omega) ?_
  refine X.iload_n 91 i139_90 rfl rfl rfl ?_
  refine X.i2l 92 i139_91 rfl rfl ?_
  refine X.last' 93 i139_92 rfl rfl (by decide) rfl (by omega) (fun hrm508 m508 hm508 => ?_)
  have hJ509 := w26_0 hJ507 hm508 (by omega) hrm508
  have km508 : ∀ g, m508 g 8 9 = m506 g 8 9 := fun g9 => by rw [hm508]; exact z_upd_o _ _ rfl
  refine X.aload_n 94 i139_93 rfl rfl rfl ?_
  refine X.dup 95 i139_94 rfl rfl rfl ?_
  refine X.getI 98 3 i139_95 rfl rfl (by decide) rfl rfl rfl ?_
  have t510 := hJ509.2 g0 23 3 (jt23 (by omega))
  have h511 := r23_3 hJ509 g0
  refine X.iconst 99 i139_98 rfl rfl (by decide) ?_
  refine X.iadd 100 i139_99 rfl rfl (by omega) ?_
  refine X.putI' 103 3 i139_100 rfl rfl (by decide) rfl rfl rfl (fun hrm512 m512 hm512 => ?_)
  have hJ513 := v23_3 (hJ509.up (B' := B504 + 1) (by omega)) hm512 (by omega)
  have em512 : m512 g0 23 3 = ((m508 g0 23 3) + 1) := by rw [hm512]; exact z_upd_same _ _ _ _ _
  have km512 : ∀ g, m512 g 8 9 = m508 g 8 9 := fun g9 => by rw [hm512]; exact z_upd_o _ _ rfl
  refine X.retv i139_103 rfl t139 ?_
  exact hQ (z_upd m0 g0 23 3 ((m508 g0 23 3) + 1))  m512  (hJ513.up (by omega)) (fun g => by simp only [hkm503, km506, km508, km512]) (by exact congrArg _ (by omega)) 
theorem l11_6_2 {s : Nat × (Nat → Int32)} {m0 : zM} {d : Nat} {Q : Option zV → zM → Prop} (g0 : Nat) (y1 y4 : Int) (T9 : Nat → Int) (BE : Int) (hE : BE ≤ 1000000000) (hd : 13 ≤ d) (hy1 : (-1) ≤ y1 ∧ y1 ≤ (-1)) (hy4 : 4 ≤ y4 ∧ y4 ≤ 4)
    (K22 : ∀ (m' : zM) (B' : Int), J m0 B' m' → B' ≤ BE → (∀ g, m' g 8 9 = T9 g) → X (EE s) d 11 22 [] [] m' Q) :
    ∀ (n : Nat) (y3 : Int) (m : zM) (B : Int), J m0 B m → B + 0 * (n : Int) ≤ BE → (∀ g, m g 8 9 = T9 g) → (0 ≤ y3 ∧ y3 ≤ 4) → 4 - y3 < (n : Int) → X (EE s) d 11 6 [(0, zr g0 31), (1, zl y1), (3, zi y3), (4, zi y4)] [] m Q := by
  intro n
  induction n with
  | zero =>
    intro y3 m B hJ hB hT hy3 hn
    exfalso
    omega
  | succ n ih =>
    intro y3 m B hJ hB hT hy3 hn
    refine X.iload_n 7 i11_6 rfl rfl rfl ?_
    refine X.iload 9 i11_7 rfl rfl rfl ?_
    refine X.icmpge 22 12 i11_9 rfl rfl rfl (fun h504 => ?_) (fun h504 => ?_)
    · refine X.cut [] i11_22 rfl ?_
      exact K22  m (B) (hJ.up (by omega)) (by omega) (fun g => by simp only [hT]) 
    · refine X.aload_n 13 i11_12 rfl rfl rfl ?_
      refine X.iload_n 14 i11_13 rfl rfl rfl ?_
      refine X.lload_n 15 i11_14 rfl rfl rfl ?_
      refine X.last' 16 i11_15 rfl rfl (by decide) rfl (by omega) (fun hrm505 m505 hm505 => ?_)
      have hJ506 := w31_0 hJ hm505 (by omega) hrm505
      have km505 : ∀ g, m505 g 8 9 = m g 8 9 := fun g9 => by rw [hm505]; exact z_upd_o _ _ rfl
      refine X.iinc 19 [(0, zr g0 31), (1, zl y1), (3, zi (y3 + 1)), (4, zi y4)] i11_16 rfl rfl rfl (by omega) rfl ?_
      refine X.goto 6 i11_19 rfl rfl ?_
      exact ih (y3 + 1) m505 (B) (hJ506.up (by omega)) (by omega) (fun g => by simp only [km505, hT]) (by omega) (by omega)
-- java/util/Arrays.fill
theorem c11_2 {s : Nat × (Nat → Int32)} {m0 m : zM} {B : Int} {d : Nat} {Q : Option zV → zM → Prop} (g0 : Nat) (a1 : Int) (hd : 13 ≤ d) (hJ : J m0 B m) (hB : B + 0 ≤ 1000000000) (ha1 : (-1) ≤ a1 ∧ a1 ≤ (-1)) (hQ : ∀ m', J m0 (B) m' → (∀ g, m' g 8 9 = m g 8 9) → Q none m') : X (EE s) d 11 0 [(0, zr g0 31), (1, zl a1)] [] m Q := by
  refine X.iconst 1 i11_0 rfl rfl (by decide) ?_
  refine X.istore_n 2 [(0, zr g0 31), (1, zl a1), (3, zi 0)] i11_1 rfl rfl rfl ?_
  refine X.aload_n 3 i11_2 rfl rfl rfl ?_
  refine X.alen 4 i11_3 rfl rfl (by decide) rfl ?_
  show X (EE s) d 11 4 [(0, zr g0 31), (1, zl a1), (3, zi 0)] [zi 4] m _
  refine X.istore 6 [(0, zr g0 31), (1, zl a1), (3, zi 0), (4, zi 4)] i11_4 rfl rfl rfl ?_
  refine l11_6_2 (s := s) (m0 := m0) (d := d) g0 a1 4 (fun g => m g 8 9) (BE := B + 0) (by omega) (by omega) (by omega) (by omega) (fun  m501 B502 hJ503 hBB502 hkm501 => ?_) ((4 - 0 : Int).toNat + 1) 0 m (B) (hJ.up (by omega)) (by omega) (fun g => rfl) (by omega) (by omega)
  refine X.retv i11_22 rfl t11 ?_
  exact hQ  m501  (hJ503.up (by omega)) (fun g => by simp only [hkm501]) 
theorem l5_5_4 {s : Nat × (Nat → Int32)} {m0 : zM} {d : Nat} {Q : Option zV → zM → Prop} (g0 : Nat) (y1 y3 : Int) (T9 : Nat → Int) (BE : Int) (hE : BE ≤ 1000000000) (hd : 13 ≤ d) (hy1 : (-1) ≤ y1 ∧ y1 ≤ (-1)) (hy3 : 4 ≤ y3 ∧ y3 ≤ 4)
    (K20 : ∀ (m' : zM) (B' : Int), J m0 B' m' → B' ≤ BE → (∀ g, m' g 8 9 = T9 g) → X (EE s) d 5 20 [] [] m' Q) :
    ∀ (n : Nat) (y2 : Int) (m : zM) (B : Int), J m0 B m → B + 0 * (n : Int) ≤ BE → (∀ g, m g 8 9 = T9 g) → (0 ≤ y2 ∧ y2 ≤ 4) → 4 - y2 < (n : Int) → X (EE s) d 5 5 [(0, zr g0 32), (1, zi y1), (2, zi y2), (3, zi y3)] [] m Q := by
  intro n
  induction n with
  | zero =>
    intro y2 m B hJ hB hT hy2 hn
    exfalso
    omega
  | succ n ih =>
    intro y2 m B hJ hB hT hy2 hn
    refine X.iload_n 6 i5_5 rfl rfl rfl ?_
    refine X.iload_n 7 i5_6 rfl rfl rfl ?_
    refine X.icmpge 20 10 i5_7 rfl rfl rfl (fun h504 => ?_) (fun h504 => ?_)
    · refine X.cut [] i5_20 rfl ?_
      exact K20  m (B) (hJ.up (by omega)) (by omega) (fun g => by simp only [hT]) 
    · refine X.aload_n 11 i5_10 rfl rfl rfl ?_
      refine X.iload_n 12 i5_11 rfl rfl rfl ?_
      refine X.iload_n 13 i5_12 rfl rfl rfl ?_
      refine X.iast' 14 i5_13 rfl rfl (by decide) rfl (by omega) (fun hrm505 m505 hm505 => ?_)
      have hJ506 := w32_0 hJ hm505 (by omega) hrm505
      have km505 : ∀ g, m505 g 8 9 = m g 8 9 := fun g9 => by rw [hm505]; exact z_upd_o _ _ rfl
      refine X.iinc 17 [(0, zr g0 32), (1, zi y1), (2, zi (y2 + 1)), (3, zi y3)] i5_14 rfl rfl rfl (by omega) rfl ?_
      refine X.goto 5 i5_17 rfl rfl ?_
      exact ih (y2 + 1) m505 (B) (hJ506.up (by omega)) (by omega) (fun g => by simp only [km505, hT]) (by omega) (by omega)
-- java/util/Arrays.fill
theorem c5_4 {s : Nat × (Nat → Int32)} {m0 m : zM} {B : Int} {d : Nat} {Q : Option zV → zM → Prop} (g0 : Nat) (a1 : Int) (hd : 13 ≤ d) (hJ : J m0 B m) (hB : B + 0 ≤ 1000000000) (ha1 : (-1) ≤ a1 ∧ a1 ≤ (-1)) (hQ : ∀ m', J m0 (B) m' → (∀ g, m' g 8 9 = m g 8 9) → Q none m') : X (EE s) d 5 0 [(0, zr g0 32), (1, zi a1)] [] m Q := by
  refine X.iconst 1 i5_0 rfl rfl (by decide) ?_
  refine X.istore_n 2 [(0, zr g0 32), (1, zi a1), (2, zi 0)] i5_1 rfl rfl rfl ?_
  refine X.aload_n 3 i5_2 rfl rfl rfl ?_
  refine X.alen 4 i5_3 rfl rfl (by decide) rfl ?_
  show X (EE s) d 5 4 [(0, zr g0 32), (1, zi a1), (2, zi 0)] [zi 4] m _
  refine X.istore_n 5 [(0, zr g0 32), (1, zi a1), (2, zi 0), (3, zi 4)] i5_4 rfl rfl rfl ?_
  refine l5_5_4 (s := s) (m0 := m0) (d := d) g0 a1 4 (fun g => m g 8 9) (BE := B + 0) (by omega) (by omega) (by omega) (by omega) (fun  m501 B502 hJ503 hBB502 hkm501 => ?_) ((4 - 0 : Int).toNat + 1) 0 m (B) (hJ.up (by omega)) (by omega) (fun g => rfl) (by omega) (by omega)
  refine X.retv i5_20 rfl t5 ?_
  exact hQ  m501  (hJ503.up (by omega)) (fun g => by simp only [hkm501]) 
-- WorkMeter$Meter.makeBill
theorem c138_1 {s : Nat × (Nat → Int32)} {m0 m : zM} {B : Int} {d : Nat} {Q : Option zV → zM → Prop} (g0 : Nat) (hd : 15 ≤ d) (hJ : J m0 B m) (hB : B + 2 ≤ 1000000000) (hp0 : g0 ≤ 1) (hQ : ∀ (n0 : zM) m', J n0 (B + 2) m' → (∀ g, m' g 8 9 = m g 8 9) → (n0 = z_upd m0 g0 23 3 (m0 g0 23 3 + 1)) → Q none m') : X (EE s) d 138 0 [(0, zr g0 8)] [] m Q := by
  refine X.aload_n 1 i138_0 rfl rfl rfl ?_
  refine X.getR 4 i138_1 rfl rfl (by decide) rfl rfl ?_
  refine X.aload_n 5 i138_4 rfl rfl rfl ?_
  refine X.getI 8 9 i138_5 rfl rfl (by decide) rfl rfl rfl ?_
  have h501 := r8_9 hJ g0
  refine X.aload_n 9 i138_8 rfl rfl rfl ?_
  refine X.getR 12 i138_9 rfl rfl (by decide) rfl rfl ?_
  refine X.callv 15 [zi (m g0 8 9), zr g0 30] [] [(0, zr g0 23), (1, zi (m g0 8 9)), (2, zr g0 30)] i138_12 rfl (by decide) rfl rfl (by omega) rfl rfl (by decide) rfl t139 (Nat.le_of_ble_eq_true rfl) (Nat.le_of_ble_eq_true rfl) rfl ?_
  refine c139_1 (B := B) g0 g0 (m g0 8 9) (by omega) (hJ.up (by omega)) (by omega) (by omega) (by omega) (fun n0505 m502 hJ503 km502 pn0505 => ?_)
  show X (EE s) d 138 15 [(0, zr g0 8)] [] m502 _
  refine X.aload_n 16 i138_15 rfl rfl rfl ?_
  refine X.getR 19 i138_16 rfl rfl (by decide) rfl rfl ?_
  refine X.callv 22 [] [] [(0, zr g0 30)] i138_19 rfl (by decide) rfl rfl (by omega) rfl rfl (by decide) rfl t10 (Nat.le_of_ble_eq_true rfl) (Nat.le_of_ble_eq_true rfl) rfl ?_
  refine X.aload_n 1 i10_0 rfl rfl rfl ?_
  refine X.getR 4 i10_1 rfl rfl (by decide) rfl rfl ?_
  refine X.ldc2 7 i10_4 rfl rfl (by decide) ?_
  refine X.calls 10 [zr g0 31, zl (-1)] [] [(0, zr g0 31), (1, zl (-1))] i10_7 (by decide) rfl rfl (by omega) rfl rfl t11 (Nat.le_of_ble_eq_true rfl) (Nat.le_of_ble_eq_true rfl) rfl ?_
  refine c11_2 (B := B + 1) g0 (-1) (by omega) (hJ503.up (by omega)) (by omega) (by omega) (fun m506 hJ507 km506 => ?_)
  show X (EE s) (d - 1) 10 10 [(0, zr g0 30)] [] m506 _
  refine X.aload_n 11 i10_10 rfl rfl rfl ?_
  refine X.getR 14 i10_11 rfl rfl (by decide) rfl rfl ?_
  refine X.iconst 15 i10_14 rfl rfl (by decide) ?_
  refine X.calls 18 [zr g0 32, zi (-1)] [] [(0, zr g0 32), (1, zi (-1))] i10_15 (by decide) rfl rfl (by omega) rfl rfl t5 (Nat.le_of_ble_eq_true rfl) (Nat.le_of_ble_eq_true rfl) rfl ?_
  refine c5_4 (B := B + 1) g0 (-1) (by omega) (hJ507.up (by omega)) (by omega) (by omega) (fun m509 hJ510 km509 => ?_)
  show X (EE s) (d - 1) 10 18 [(0, zr g0 30)] [] m509 _
  refine X.retv i10_18 rfl t10 ?_
  show X (EE s) d 138 22 [(0, zr g0 8)] [] m509 _
  refine X.aload_n 23 i138_22 rfl rfl rfl ?_
  refine X.bipush 25 i138_23 rfl rfl (by decide) ?_
  refine X.iconst 26 i138_25 rfl rfl (by decide) ?_
  refine X.callv 29 [zi 24, zi 0] [] [(0, zr g0 8), (1, zi 24), (2, zi 0)] i138_26 rfl (by decide) rfl rfl (by omega) rfl rfl (by decide) rfl t54 (Nat.le_of_ble_eq_true rfl) (Nat.le_of_ble_eq_true rfl) rfl ?_
  refine X.aload_n 1 i54_0 rfl rfl rfl ?_
  refine X.getR 4 i54_1 rfl rfl (by decide) rfl rfl ?_
  refine X.aload_n 5 i54_4 rfl rfl rfl ?_
  refine X.getI 8 9 i54_5 rfl rfl (by decide) rfl rfl rfl ?_
  have h512 := r8_9 hJ510 g0
  refine X.iload_n 9 i54_8 rfl rfl rfl ?_
  refine X.iload_n 10 i54_9 rfl rfl rfl ?_
  refine X.callv 13 [zi (m509 g0 8 9), zi 24, zi 0] [] [(0, zr g0 37), (1, zi (m509 g0 8 9)), (2, zi 24), (3, zi 0)] i54_10 rfl (by decide) rfl rfl (by omega) rfl rfl (by decide) rfl t55 (Nat.le_of_ble_eq_true rfl) (Nat.le_of_ble_eq_true rfl) rfl ?_
  refine X.aload_n 1 i55_0 rfl rfl rfl ?_
  refine X.getI 4 1 i55_1 rfl rfl (by decide) rfl rfl rfl ?_
  have h513 := r37_1 hJ510 g0
  refine X.bipush 6 i55_4 rfl rfl (by decide) ?_
  refine X.irem 7 i55_6 rfl rfl (by omega) ?_
  refine X.iconst 8 i55_7 rfl rfl (by decide) ?_
  refine X.imul 9 i55_8 rfl rfl (by omega) ?_
  refine X.istore 11 [(0, zr g0 37), (1, zi (m509 g0 8 9)), (2, zi 24), (3, zi 0), (4, zi (((m509 g0 37 1) % 40) * 3))] i55_9 rfl rfl rfl ?_
  refine X.aload_n 12 i55_11 rfl rfl rfl ?_
  refine X.getR 15 i55_12 rfl rfl (by decide) rfl rfl ?_
  refine X.iload 17 i55_15 rfl rfl rfl ?_
  refine X.iload_n 18 i55_17 rfl rfl rfl ?_
  refine X.iast' 19 i55_18 rfl rfl (by decide) rfl (by omega) (fun hrm514 m514 hm514 => ?_)
  have hJ515 := w38_0 hJ510 hm514 (by omega) hrm514
  have km514 : ∀ g, m514 g 8 9 = m509 g 8 9 := fun g9 => by rw [hm514]; exact z_upd_o _ _ rfl
  refine X.aload_n 20 i55_19 rfl rfl rfl ?_
  refine X.getR 23 i55_20 rfl rfl (by decide) rfl rfl ?_
  refine X.iload 25 i55_23 rfl rfl rfl ?_
  refine X.iconst 26 i55_25 rfl rfl (by decide) ?_
  refine X.iadd 27 i55_26 rfl rfl (by omega) ?_
  refine X.iload_n 28 i55_27 rfl rfl rfl ?_
  refine X.iast' 29 i55_28 rfl rfl (by decide) rfl (by omega) (fun hrm516 m516 hm516 => ?_)
  have hJ517 := w38_0 hJ515 hm516 (by omega) hrm516
  have km516 : ∀ g, m516 g 8 9 = m514 g 8 9 := fun g9 => by rw [hm516]; exact z_upd_o _ _ rfl
  refine X.aload_n 30 i55_29 rfl rfl rfl ?_
  refine X.getR 33 i55_30 rfl rfl (by decide) rfl rfl ?_
  refine X.iload 35 i55_33 rfl rfl rfl ?_
  refine X.iconst 36 i55_35 rfl rfl (by decide) ?_
  refine X.iadd 37 i55_36 rfl rfl (by omega) ?_
  refine X.iload_n 38 i55_37 rfl rfl rfl ?_
  refine X.iast' 39 i55_38 rfl rfl (by decide) rfl (by omega) (fun hrm518 m518 hm518 => ?_)
  have hJ519 := w38_0 hJ517 hm518 (by omega) hrm518
  have km518 : ∀ g, m518 g 8 9 = m516 g 8 9 := fun g9 => by rw [hm518]; exact z_upd_o _ _ rfl
  refine X.aload_n 40 i55_39 rfl rfl rfl ?_
  refine X.dup 41 i55_40 rfl rfl rfl ?_
  refine X.getI 44 1 i55_41 rfl rfl (by decide) rfl rfl rfl ?_
  have h520 := r37_1 hJ519 g0
  refine X.iconst 45 i55_44 rfl rfl (by decide) ?_
  refine X.iadd 46 i55_45 rfl rfl (by omega) ?_
  refine X.putI' 49 1 i55_46 rfl rfl (by decide) rfl rfl rfl (fun hrm521 m521 hm521 => ?_)
  have hJ522 := w37_1 (hJ519.up (B' := B + 2) (by omega)) hm521 (by omega)
  have km521 : ∀ g, m521 g 8 9 = m518 g 8 9 := fun g9 => by rw [hm521]; exact z_upd_o _ _ rfl
  refine X.retv i55_49 rfl t55 ?_
  show X (EE s) (d - 1) 54 13 [(0, zr g0 8), (1, zi 24), (2, zi 0)] [] m521 _
  refine X.retv i54_13 rfl t54 ?_
  show X (EE s) d 138 29 [(0, zr g0 8)] [] m521 _
  refine X.retv i138_29 rfl t138 ?_
  exact hQ n0505  m521  (hJ522.up (by omega)) (fun g => by simp only [km502, km506, km509, km514, km516, km518, km521]) (by first | assumption | (subst_vars; rfl) | (subst_vars; exact congrArg _ (by omega))) 
-- WorkMeter.bill
theorem c137_1 {s : Nat × (Nat → Int32)} {m0 m : zM} {B : Int} {d : Nat} {Q : Option zV → zM → Prop} (g0 : Nat) (hd : 16 ≤ d) (hJ : J m0 B m) (hB : B + 2 ≤ 1000000000) (hQ : ∀ (n0 : zM) (v : Int) m', (0 ≤ v ∧ v ≤ 1000000000) → J n0 (B + 2) m' → (∀ g, m' g 8 9 = m g 8 9) → (v = m0 0 23 3 + 1 ∧ n0 = z_upd m0 0 23 3 (m0 0 23 3 + 1)) → Q (some (zi v)) m') : X (EE s) d 137 0 [(0, zr g0 40)] [] m Q := by
  have f0 := hJ.2 0 23 3 rfl
  refine X.aload_n 1 i137_0 rfl rfl rfl ?_
  refine X.getF 4 i137_1 rfl rfl (by decide) rfl rfl ?_
  refine X.callv 7 [] [] [(0, zr 0 8)] i137_4 rfl (by decide) rfl rfl (by omega) rfl rfl (by decide) rfl t138 (Nat.le_of_ble_eq_true rfl) (Nat.le_of_ble_eq_true rfl) rfl ?_
  refine c138_1 (B := B) 0  (by omega) (hJ.up (by omega)) (by omega) (by omega) (fun n0504 m501 hJ502 km501 pn0504 => ?_)
  have q505 := hJ502.2 0 23 3 rfl
  rw [pn0504, z_upd_same] at q505
  show X (EE s) d 137 7 [(0, zr g0 40)] [] m501 _
  refine X.aload_n 8 i137_7 rfl rfl rfl ?_
  refine X.getF 11 i137_8 rfl rfl (by decide) rfl rfl ?_
  refine X.getR 14 i137_11 rfl rfl (by decide) rfl rfl ?_
  refine X.getI 17 3 i137_14 rfl rfl (by decide) rfl rfl rfl ?_
  have t506 := hJ502.2 0 23 3 rfl
  rw [pn0504] at t506
  try simp only [z_upd_same] at t506
  try rw [z_upd_o _ _ rfl] at t506
  have h507 := r23_3 hJ502 0
  refine X.reti i137_17 rfl t137 ?_
  exact hQ n0504 (m501 0 23 3) m501 (by first | trivial | omega) (hJ502.up (by omega)) (fun g => by simp only [km501]) (by exact ⟨by omega, by assumption⟩) 
theorem l286_104_1 {s : Nat × (Nat → Int32)} {m0 : zM} {d : Nat} {Q : Option zV → zM → Prop} (g0 : Nat) (y1 : Int) (T9 : Nat → Int) (BE : Int) (hE : BE ≤ 1000000000) (hd : 13 ≤ d) (hy1 : 1172 ≤ y1 ∧ y1 ≤ 1442)
    (K135 : ∀ (m' : zM) (B' : Int), J m0 B' m' → B' ≤ BE → (∀ g, m' g 8 9 = T9 g) → X (EE s) d 286 135 [(0, zr g0 44), (1, zi y1)] [] m' Q) :
    ∀ (n : Nat) (y2 : Int) (m : zM) (B : Int), J m0 B m → B + 0 * (n : Int) ≤ BE → (∀ g, m g 8 9 = T9 g) → (0 ≤ y2 ∧ y2 ≤ 35) → 35 - y2 < (n : Int) → X (EE s) d 286 104 [(0, zr g0 44), (1, zi y1), (2, zi y2)] [] m Q := by
  intro n
  induction n with
  | zero =>
    intro y2 m B hJ hB hT hy2 hn
    exfalso
    omega
  | succ n ih =>
    intro y2 m B hJ hB hT hy2 hn
    refine X.iload_n 105 i286_104 rfl rfl rfl ?_
    refine X.bipush 107 i286_105 rfl rfl (by decide) ?_
    refine X.icmpge 135 110 i286_107 rfl rfl rfl (fun h504 => ?_) (fun h504 => ?_)
    · refine X.cut [(0, zr g0 44), (1, zi y1)] i286_135 rfl ?_
      exact K135  m (B) (hJ.up (by omega)) (by omega) (fun g => by simp only [hT]) 
    · refine X.aload_n 111 i286_110 rfl rfl rfl ?_
      refine X.getF 114 i286_111 rfl rfl (by decide) rfl rfl ?_
      refine X.iload_n 115 i286_114 rfl rfl rfl ?_
      refine X.iconst 116 i286_115 rfl rfl (by decide) ?_
      refine X.iadd 117 i286_116 rfl rfl (by omega) ?_
      refine X.iload_n 118 i286_117 rfl rfl rfl ?_
      refine X.iadd 119 i286_118 rfl rfl (by omega) ?_
      refine X.aload_n 120 i286_119 rfl rfl rfl ?_
      refine X.getF 123 i286_120 rfl rfl (by decide) rfl rfl ?_
      refine X.bipush 125 i286_123 rfl rfl (by decide) ?_
      refine X.iload_n 126 i286_125 rfl rfl rfl ?_
      refine X.iadd 127 i286_126 rfl rfl (by omega) ?_
      refine X.lald 128 i286_127 rfl rfl (by decide) rfl (by omega) ?_
      refine X.last' 129 i286_128 rfl rfl (by decide) rfl (by omega) (fun hrm505 m505 hm505 => ?_)
      have hJ506 := w45_788 hJ hm505 (by omega) hrm505
      have km505 : ∀ g, m505 g 8 9 = m g 8 9 := fun g9 => by rw [hm505]; exact z_upd_o _ _ rfl
      refine X.iinc 132 [(0, zr g0 44), (1, zi y1), (2, zi (y2 + 1))] i286_129 rfl rfl rfl (by omega) rfl ?_
      refine X.goto 104 i286_132 rfl rfl ?_
      exact ih (y2 + 1) m505 (B) (hJ506.up (by omega)) (by omega) (fun g => by simp only [km505, hT]) (by omega) (by omega)
theorem l286_137_1 {s : Nat × (Nat → Int32)} {m0 : zM} {d : Nat} {Q : Option zV → zM → Prop} (g0 : Nat) (y1 : Int) (T9 : Nat → Int) (BE : Int) (hE : BE ≤ 1000000000) (hd : 13 ≤ d) (hy1 : 1172 ≤ y1 ∧ y1 ≤ 1442)
    (K192 : ∀ (m' : zM) (B' : Int), J m0 B' m' → B' ≤ BE → (∀ g, m' g 8 9 = T9 g) → X (EE s) d 286 192 [(0, zr g0 44)] [] m' Q) :
    ∀ (n : Nat) (y2 : Int) (m : zM) (B : Int), J m0 B m → B + 0 * (n : Int) ≤ BE → (∀ g, m g 8 9 = T9 g) → (0 ≤ y2 ∧ y2 ≤ 4) → 4 - y2 < (n : Int) → X (EE s) d 286 137 [(0, zr g0 44), (1, zi y1), (2, zi y2)] [] m Q := by
  intro n
  induction n with
  | zero =>
    intro y2 m B hJ hB hT hy2 hn
    exfalso
    omega
  | succ n ih =>
    intro y2 m B hJ hB hT hy2 hn
    refine X.iload_n 138 i286_137 rfl rfl rfl ?_
    refine X.iconst 139 i286_138 rfl rfl (by decide) ?_
    refine X.icmpge 192 142 i286_139 rfl rfl rfl (fun h508 => ?_) (fun h508 => ?_)
    · refine X.cut [(0, zr g0 44)] i286_192 rfl ?_
      exact K192  m (B) (hJ.up (by omega)) (by omega) (fun g => by simp only [hT]) 
    · refine X.aload_n 143 i286_142 rfl rfl rfl ?_
      refine X.getF 146 i286_143 rfl rfl (by decide) rfl rfl ?_
      refine X.iload_n 147 i286_146 rfl rfl rfl ?_
      refine X.bipush 149 i286_147 rfl rfl (by decide) ?_
      refine X.iadd 150 i286_149 rfl rfl (by omega) ?_
      refine X.iload_n 151 i286_150 rfl rfl rfl ?_
      refine X.iadd 152 i286_151 rfl rfl (by omega) ?_
      refine X.aload_n 153 i286_152 rfl rfl rfl ?_
      refine X.getF 156 i286_153 rfl rfl (by decide) rfl rfl ?_
      refine X.bipush 158 i286_156 rfl rfl (by decide) ?_
      refine X.iload_n 159 i286_158 rfl rfl rfl ?_
      refine X.iadd 160 i286_159 rfl rfl (by omega) ?_
      refine X.lald 161 i286_160 rfl rfl (by decide) rfl (by omega) ?_
      refine X.last' 162 i286_161 rfl rfl (by decide) rfl (by omega) (fun hrm509 m509 hm509 => ?_)
      have hJ510 := w45_788 hJ hm509 (by omega) hrm509
      have km509 : ∀ g, m509 g 8 9 = m g 8 9 := fun g9 => by rw [hm509]; exact z_upd_o _ _ rfl
      refine X.aload_n 163 i286_162 rfl rfl rfl ?_
      refine X.getF 166 i286_163 rfl rfl (by decide) rfl rfl ?_
      refine X.bipush 168 i286_166 rfl rfl (by decide) ?_
      refine X.iload_n 169 i286_168 rfl rfl rfl ?_
      refine X.iadd 170 i286_169 rfl rfl (by omega) ?_
      refine X.ldc2 173 i286_170 rfl rfl (by decide) ?_
      refine X.last' 174 i286_173 rfl rfl (by decide) rfl (by omega) (fun hrm511 m511 hm511 => ?_)
      have hJ512 := w45_19 hJ510 hm511 (by omega) hrm511
      have km511 : ∀ g, m511 g 8 9 = m509 g 8 9 := fun g9 => by rw [hm511]; exact z_upd_o _ _ rfl
      refine X.aload_n 175 i286_174 rfl rfl rfl ?_
      refine X.getF 178 i286_175 rfl rfl (by decide) rfl rfl ?_
      refine X.bipush 180 i286_178 rfl rfl (by decide) ?_
      refine X.iload_n 181 i286_180 rfl rfl rfl ?_
      refine X.iadd 182 i286_181 rfl rfl (by omega) ?_
      refine X.ldc2 185 i286_182 rfl rfl (by decide) ?_
      refine X.last' 186 i286_185 rfl rfl (by decide) rfl (by omega) (fun hrm513 m513 hm513 => ?_)
      have hJ514 := w45_19 hJ512 hm513 (by omega) hrm513
      have km513 : ∀ g, m513 g 8 9 = m511 g 8 9 := fun g9 => by rw [hm513]; exact z_upd_o _ _ rfl
      refine X.iinc 189 [(0, zr g0 44), (1, zi y1), (2, zi (y2 + 1))] i286_186 rfl rfl rfl (by omega) rfl ?_
      refine X.goto 137 i286_189 rfl rfl ?_
      exact ih (y2 + 1) m513 (B) (hJ514.up (by omega)) (by omega) (fun g => by simp only [km509, km511, km513, hT]) (by omega) (by omega)
theorem l286_17_1 {s : Nat × (Nat → Int32)} {m0 : zM} {d : Nat} {Q : Option zV → zM → Prop} (g0 : Nat) (T9 : Nat → Int) (BE : Int) (hE : BE ≤ 1000000000) (hd : 13 ≤ d)
    (K53 : ∀ (m' : zM) (B' : Int), J m0 B' m' → B' ≤ BE → (∀ g, m' g 8 9 = T9 g) → X (EE s) d 286 53 [(0, zr g0 44)] [] m' Q) :
    ∀ (n : Nat) (y1 : Int) (m : zM) (B : Int), J m0 B m → B + 0 * (n : Int) ≤ BE → (∀ g, m g 8 9 = T9 g) → (45 ≤ y1 ∧ y1 ≤ 315) → 315 - y1 < (n : Int) → X (EE s) d 286 17 [(0, zr g0 44), (1, zi y1)] [] m Q := by
  intro n
  induction n with
  | zero =>
    intro y1 m B hJ hB hT hy1 hn
    exfalso
    omega
  | succ n ih =>
    intro y1 m B hJ hB hT hy1 hn
    refine X.iload_n 18 i286_17 rfl rfl rfl ?_
    refine X.sipush 21 i286_18 rfl rfl (by decide) ?_
    refine X.icmpge 53 24 i286_21 rfl rfl rfl (fun h504 => ?_) (fun h504 => ?_)
    · refine X.cut [(0, zr g0 44)] i286_53 rfl ?_
      exact K53  m (B) (hJ.up (by omega)) (by omega) (fun g => by simp only [hT]) 
    · refine X.aload_n 25 i286_24 rfl rfl rfl ?_
      refine X.getF 28 i286_25 rfl rfl (by decide) rfl rfl ?_
      refine X.sipush 31 i286_28 rfl rfl (by decide) ?_
      refine X.iload_n 32 i286_31 rfl rfl rfl ?_
      refine X.iadd 33 i286_32 rfl rfl (by omega) ?_
      refine X.bipush 35 i286_33 rfl rfl (by decide) ?_
      refine X.isub 36 i286_35 rfl rfl (by omega) ?_
      refine X.aload_n 37 i286_36 rfl rfl rfl ?_
      refine X.getF 40 i286_37 rfl rfl (by decide) rfl rfl ?_
      refine X.sipush 43 i286_40 rfl rfl (by decide) ?_
      refine X.iload_n 44 i286_43 rfl rfl rfl ?_
      refine X.iadd 45 i286_44 rfl rfl (by omega) ?_
      refine X.lald 46 i286_45 rfl rfl (by decide) rfl (by omega) ?_
      refine X.last' 47 i286_46 rfl rfl (by decide) rfl (by omega) (fun hrm505 m505 hm505 => ?_)
      have hJ506 := w45_788 hJ hm505 (by omega) hrm505
      have km505 : ∀ g, m505 g 8 9 = m g 8 9 := fun g9 => by rw [hm505]; exact z_upd_o _ _ rfl
      refine X.iinc 50 [(0, zr g0 44), (1, zi (y1 + 1))] i286_47 rfl rfl rfl (by omega) rfl ?_
      refine X.goto 17 i286_50 rfl rfl ?_
      exact ih (y1 + 1) m505 (B) (hJ506.up (by omega)) (by omega) (fun g => by simp only [km505, hT]) (by omega) (by omega)
-- WorkMeterModel.bill
theorem c286_1 {s : Nat × (Nat → Int32)} {m0 m : zM} {B : Int} {d : Nat} {Q : Option zV → zM → Prop} (g0 : Nat) (hd : 14 ≤ d) (hJ : J m0 B m) (hB : B + 2 ≤ 1000000000) (hQ : ∀ (n0 : zM) (v : Int) m', (0 ≤ v ∧ v ≤ 1000000000) → J n0 (B + 2) m' → (∀ g, m' g 8 9 = m g 8 9) → (v = m0 4 45 18 + 1 ∧ n0 = z_upd m0 4 45 18 (m0 4 45 18 + 1)) → Q (some (zi v)) m') : X (EE s) d 286 0 [(0, zr g0 44)] [] m Q := by
  have f0 := hJ.2 4 45 18 rfl
  refine X.aload_n 1 i286_0 rfl rfl rfl ?_
  refine X.getF 4 i286_1 rfl rfl (by decide) rfl rfl ?_
  refine X.bipush 6 i286_4 rfl rfl (by decide) ?_
  refine X.lald 7 i286_6 rfl rfl (by decide) rfl (by omega) ?_
  have t501 := hJ.2 4 45 18 rfl
  have h502 := r45_18 hJ 4
  refine X.ldc2 10 i286_7 rfl rfl (by decide) ?_
  refine X.lcmp 11 i286_10 rfl rfl (fun z503 hz503 => ?_)
  refine X.iflt 53 14 i286_11 rfl rfl rfl (fun h504 => ?_) (fun h504 => ?_)
  · have h504c : (m 4 45 18) < 7 := by omega
    clear h504 hz503
    refine X.sipush 56 i286_53 rfl rfl (by decide) ?_
    refine X.bipush 58 i286_56 rfl rfl (by decide) ?_
    refine X.aload_n 59 i286_58 rfl rfl rfl ?_
    refine X.callv 62 [] [zi 45, zi 1172] [(0, zr g0 44)] i286_59 rfl (by decide) rfl rfl (by omega) rfl rfl (by decide) rfl t287 (Nat.le_of_ble_eq_true rfl) (Nat.le_of_ble_eq_true rfl) rfl ?_
    refine X.aload_n 1 i287_0 rfl rfl rfl ?_
    refine X.getF 4 i287_1 rfl rfl (by decide) rfl rfl ?_
    refine X.bipush 6 i287_4 rfl rfl (by decide) ?_
    refine X.lald 7 i287_6 rfl rfl (by decide) rfl (by omega) ?_
    have t505 := hJ.2 4 45 18 rfl
    refine X.ldc2 10 i287_7 rfl rfl (by decide) ?_
    refine X.lcmp 11 i287_10 rfl rfl (fun z506 hz506 => ?_)
    refine X.ifge 24 14 i287_11 rfl rfl rfl (fun h507 => (by exfalso; omega)) (fun h507 => ?_)
    have h507c : (m 4 45 18) < 7 := by omega
    clear h507 hz506
    refine X.aload_n 15 i287_14 rfl rfl rfl ?_
    refine X.getF 18 i287_15 rfl rfl (by decide) rfl rfl ?_
    refine X.bipush 20 i287_18 rfl rfl (by decide) ?_
    refine X.lald 21 i287_20 rfl rfl (by decide) rfl (by omega) ?_
    have t508 := hJ.2 4 45 18 rfl
    refine X.goto 27 i287_21 rfl rfl ?_
    refine X.cut [] i287_27 rfl ?_
    refine X.l2i 28 i287_27 rfl rfl (by omega) ?_
    refine X.reti i287_28 rfl t287 ?_
    show X (EE s) d 286 62 [(0, zr g0 44)] [zi (m 4 45 18), zi 45, zi 1172] m _
    refine X.bipush 64 i286_62 rfl rfl (by decide) ?_
    refine X.icmpge 74 67 i286_64 rfl rfl rfl (fun h509 => (by exfalso; omega)) (fun h509 => ?_)
    refine X.aload_n 68 i286_67 rfl rfl rfl ?_
    refine X.callv 71 [] [zi 45, zi 1172] [(0, zr g0 44)] i286_68 rfl (by decide) rfl rfl (by omega) rfl rfl (by decide) rfl t287 (Nat.le_of_ble_eq_true rfl) (Nat.le_of_ble_eq_true rfl) rfl ?_
    refine X.aload_n 1 i287_0 rfl rfl rfl ?_
    refine X.getF 4 i287_1 rfl rfl (by decide) rfl rfl ?_
    refine X.bipush 6 i287_4 rfl rfl (by decide) ?_
    refine X.lald 7 i287_6 rfl rfl (by decide) rfl (by omega) ?_
    have t510 := hJ.2 4 45 18 rfl
    refine X.ldc2 10 i287_7 rfl rfl (by decide) ?_
    refine X.lcmp 11 i287_10 rfl rfl (fun z511 hz511 => ?_)
    refine X.ifge 24 14 i287_11 rfl rfl rfl (fun h512 => (by exfalso; omega)) (fun h512 => ?_)
    have h512c : (m 4 45 18) < 7 := by omega
    clear h512 hz511
    refine X.aload_n 15 i287_14 rfl rfl rfl ?_
    refine X.getF 18 i287_15 rfl rfl (by decide) rfl rfl ?_
    refine X.bipush 20 i287_18 rfl rfl (by decide) ?_
    refine X.lald 21 i287_20 rfl rfl (by decide) rfl (by omega) ?_
    have t513 := hJ.2 4 45 18 rfl
    refine X.goto 27 i287_21 rfl rfl ?_
    refine X.cut [] i287_27 rfl ?_
    refine X.l2i 28 i287_27 rfl rfl (by omega) ?_
    refine X.reti i287_28 rfl t287 ?_
    show X (EE s) d 286 71 [(0, zr g0 44)] [zi (m 4 45 18), zi 45, zi 1172] m _
    refine X.goto 76 i286_71 rfl rfl ?_
    refine X.imul 77 i286_76 rfl rfl (by omega) ?_
    refine X.iadd 78 i286_77 rfl rfl (by omega) ?_
    refine X.istore_n 79 [(0, zr g0 44), (1, zi (1172 + (45 * (m 4 45 18))))] i286_78 rfl rfl rfl ?_
    refine X.aload_n 80 i286_79 rfl rfl rfl ?_
    refine X.getF 83 i286_80 rfl rfl (by decide) rfl rfl ?_
    refine X.bipush 85 i286_83 rfl rfl (by decide) ?_
    refine X.dup2 86 i286_85 rfl rfl ?_
    refine X.lald 87 i286_86 rfl rfl (by decide) rfl (by omega) ?_
    have t514 := hJ.2 4 45 18 rfl
    refine X.lconst (y := 1) 88 i286_87 rfl rfl rfl ?_
    refine X.ladd 89 i286_88 rfl rfl (by omega) ?_
    refine X.last' 90 i286_89 rfl rfl (by decide) rfl (by omega) (fun hrm515 m515 hm515 => ?_)
    have hJ516 := v45_18 (hJ.up (B' := B + 1) (by omega)) hm515 (by omega)
    have em515 : m515 4 45 18 = ((m 4 45 18) + 1) := by rw [hm515]; exact z_upd_same _ _ _ _ _
    have km515 : ∀ g, m515 g 8 9 = m g 8 9 := fun g9 => by rw [hm515]; exact z_upd_o _ _ rfl
    refine X.aload_n 91 i286_90 rfl rfl rfl ?_
    refine X.getF 94 i286_91 rfl rfl (by decide) rfl rfl ?_
    refine X.iload_n 95 i286_94 rfl rfl rfl ?_
    refine X.aload_n 96 i286_95 rfl rfl rfl ?_
    refine X.getF 99 i286_96 rfl rfl (by decide) rfl rfl ?_
    refine X.iconst 100 i286_99 rfl rfl (by decide) ?_
    refine X.lald 101 i286_100 rfl rfl (by decide) rfl (by omega) ?_
    have h517 := r45_0 hJ516 4
    refine X.last' 102 i286_101 rfl rfl (by decide) rfl (by omega) (fun hrm518 m518 hm518 => ?_)
    have hJ519 := w45_788 hJ516 hm518 (by omega) hrm518
    have km518 : ∀ g, m518 g 8 9 = m515 g 8 9 := fun g9 => by rw [hm518]; exact z_upd_o _ _ rfl
    refine X.iconst 103 i286_102 rfl rfl (by decide) ?_
    refine X.istore_n 104 [(0, zr g0 44), (1, zi (1172 + (45 * (m 4 45 18)))), (2, zi 0)] i286_103 rfl rfl rfl ?_
    refine l286_104_1 (s := s) (m0 := (z_upd m0 4 45 18 ((m 4 45 18) + 1))) (d := d) g0 (1172 + (45 * (m 4 45 18))) (fun g => m g 8 9) (BE := B + 1) (by omega) (by omega) (by omega) (fun  m520 B521 hJ522 hBB521 hkm520 => ?_) ((35 - 0 : Int).toNat + 1) 0 m518 (B + 1) (hJ519.up (by omega)) (by omega) (fun g => by simp only [km515, km518]) (by omega) (by omega)
    refine X.iconst 136 i286_135 rfl rfl (by decide) ?_
    refine X.istore_n 137 [(0, zr g0 44), (1, zi (1172 + (45 * (m 4 45 18)))), (2, zi 0)] i286_136 rfl rfl rfl ?_
    refine l286_137_1 (s := s) (m0 := (z_upd m0 4 45 18 ((m 4 45 18) + 1))) (d := d) g0 (1172 + (45 * (m 4 45 18))) (fun g => m g 8 9) (BE := B521 + 0) (by omega) (by omega) (by omega) (fun  m523 B524 hJ525 hBB524 hkm523 => ?_) ((4 - 0 : Int).toNat + 1) 0 m520 (B521) (hJ522.up (by omega)) (by omega) (fun g => by simp only [hkm520]) (by omega) (by omega)
    refine X.aload_n 193 i286_192 rfl rfl rfl ?_
    refine X.bipush 195 i286_193 rfl rfl (by decide) ?_
    refine X.lconst (y := 0) 196 i286_195 rfl rfl rfl ?_
    refine X.callv 199 [zi 24, zl 0] [] [(0, zr g0 44), (1, zi 24), (2, zl 0)] i286_196 rfl (by decide) rfl rfl (by omega) rfl rfl (by decide) rfl t223 (Nat.le_of_ble_eq_true rfl) (Nat.le_of_ble_eq_true rfl) rfl ?_
    refine c223_1 (B := B524) g0 24 0 (by omega) (hJ525.up (by omega)) (by omega) (by omega) (by omega) (fun m526 hJ527 km526 => ?_)
    show X (EE s) d 286 199 [(0, zr g0 44)] [] m526 _
    refine X.aload_n 200 i286_199 rfl rfl rfl ?_
    refine X.getF 203 i286_200 rfl rfl (by decide) rfl rfl ?_
    refine X.bipush 205 i286_203 rfl rfl (by decide) ?_
    refine X.lald 206 i286_205 rfl rfl (by decide) rfl (by omega) ?_
    have t529 := hJ527.2 4 45 18 rfl
    try simp only [z_upd_same] at t529
    try rw [z_upd_o _ _ rfl] at t529
    have h530 := r45_18 hJ527 4
    refine X.l2i 207 i286_206 rfl rfl (by omega) ?_
    refine X.reti i286_207 rfl t286 ?_
    exact hQ (z_upd m0 4 45 18 ((m 4 45 18) + 1)) (m526 4 45 18) m526 (by first | trivial | omega) (hJ527.up (by omega)) (fun g => by simp only [hkm523, km526]) (by exact ⟨by omega, congrArg _ (by omega)⟩) 
  · have h504c : (m 4 45 18) ≥ 7 := by omega
    clear h504 hz503
    refine X.bipush 16 i286_14 rfl rfl (by decide) ?_
    refine X.istore_n 17 [(0, zr g0 44), (1, zi 45)] i286_16 rfl rfl rfl ?_
    refine l286_17_1 (s := s) (m0 := m0) (d := d) g0  (fun g => m g 8 9) (BE := B + 0) (by omega) (by omega) (fun  m531 B532 hJ533 hBB532 hkm531 => ?_) ((315 - 45 : Int).toNat + 1) 45 m (B) (hJ.up (by omega)) (by omega) (fun g => rfl) (by omega) (by omega)
    refine X.sipush 56 i286_53 rfl rfl (by decide) ?_
    refine X.bipush 58 i286_56 rfl rfl (by decide) ?_
    refine X.aload_n 59 i286_58 rfl rfl rfl ?_
    refine X.callv 62 [] [zi 45, zi 1172] [(0, zr g0 44)] i286_59 rfl (by decide) rfl rfl (by omega) rfl rfl (by decide) rfl t287 (Nat.le_of_ble_eq_true rfl) (Nat.le_of_ble_eq_true rfl) rfl ?_
    refine X.aload_n 1 i287_0 rfl rfl rfl ?_
    refine X.getF 4 i287_1 rfl rfl (by decide) rfl rfl ?_
    refine X.bipush 6 i287_4 rfl rfl (by decide) ?_
    refine X.lald 7 i287_6 rfl rfl (by decide) rfl (by omega) ?_
    have t534 := hJ533.2 4 45 18 rfl
    have h535 := r45_18 hJ533 4
    refine X.ldc2 10 i287_7 rfl rfl (by decide) ?_
    refine X.lcmp 11 i287_10 rfl rfl (fun z536 hz536 => ?_)
    refine X.ifge 24 14 i287_11 rfl rfl rfl (fun h537 => ?_) (fun h537 => ?_)
    · have h537c : (m531 4 45 18) ≥ 7 := by omega
      clear h537 hz536
      refine X.cut [] i287_24 rfl ?_
      refine X.ldc2 27 i287_24 rfl rfl (by decide) ?_
      refine X.l2i 28 i287_27 rfl rfl (by omega) ?_
      refine X.reti i287_28 rfl t287 ?_
      show X (EE s) d 286 62 [(0, zr g0 44)] [zi 7, zi 45, zi 1172] m531 _
      refine X.bipush 64 i286_62 rfl rfl (by decide) ?_
      refine X.icmpge 74 67 i286_64 rfl rfl rfl (fun h538 => ?_) (fun h538 => (by exfalso; omega))
      refine X.bipush 76 i286_74 rfl rfl (by decide) ?_
      refine X.imul 77 i286_76 rfl rfl (by omega) ?_
      refine X.iadd 78 i286_77 rfl rfl (by omega) ?_
      refine X.istore_n 79 [(0, zr g0 44), (1, zi (1172 + (45 * 6)))] i286_78 rfl rfl rfl ?_
      refine X.aload_n 80 i286_79 rfl rfl rfl ?_
      refine X.getF 83 i286_80 rfl rfl (by decide) rfl rfl ?_
      refine X.bipush 85 i286_83 rfl rfl (by decide) ?_
      refine X.dup2 86 i286_85 rfl rfl ?_
      refine X.lald 87 i286_86 rfl rfl (by decide) rfl (by omega) ?_
      have t539 := hJ533.2 4 45 18 rfl
      refine X.lconst (y := 1) 88 i286_87 rfl rfl rfl ?_
      refine X.ladd 89 i286_88 rfl rfl (by omega) ?_
      refine X.last' 90 i286_89 rfl rfl (by decide) rfl (by omega) (fun hrm540 m540 hm540 => ?_)
      have hJ541 := v45_18 (hJ533.up (B' := B532 + 1) (by omega)) hm540 (by omega)
      have em540 : m540 4 45 18 = ((m531 4 45 18) + 1) := by rw [hm540]; exact z_upd_same _ _ _ _ _
      have km540 : ∀ g, m540 g 8 9 = m531 g 8 9 := fun g9 => by rw [hm540]; exact z_upd_o _ _ rfl
      refine X.aload_n 91 i286_90 rfl rfl rfl ?_
      refine X.getF 94 i286_91 rfl rfl (by decide) rfl rfl ?_
      refine X.iload_n 95 i286_94 rfl rfl rfl ?_
      refine X.aload_n 96 i286_95 rfl rfl rfl ?_
      refine X.getF 99 i286_96 rfl rfl (by decide) rfl rfl ?_
      refine X.iconst 100 i286_99 rfl rfl (by decide) ?_
      refine X.lald 101 i286_100 rfl rfl (by decide) rfl (by omega) ?_
      have h542 := r45_0 hJ541 4
      refine X.last' 102 i286_101 rfl rfl (by decide) rfl (by omega) (fun hrm543 m543 hm543 => ?_)
      have hJ544 := w45_788 hJ541 hm543 (by omega) hrm543
      have km543 : ∀ g, m543 g 8 9 = m540 g 8 9 := fun g9 => by rw [hm543]; exact z_upd_o _ _ rfl
      refine X.iconst 103 i286_102 rfl rfl (by decide) ?_
      refine X.istore_n 104 [(0, zr g0 44), (1, zi (1172 + (45 * 6))), (2, zi 0)] i286_103 rfl rfl rfl ?_
      refine l286_104_1 (s := s) (m0 := (z_upd m0 4 45 18 ((m531 4 45 18) + 1))) (d := d) g0 (1172 + (45 * 6)) (fun g => m g 8 9) (BE := B532 + 1) (by omega) (by omega) (by omega) (fun  m545 B546 hJ547 hBB546 hkm545 => ?_) ((35 - 0 : Int).toNat + 1) 0 m543 (B532 + 1) (hJ544.up (by omega)) (by omega) (fun g => by simp only [hkm531, km540, km543]) (by omega) (by omega)
      refine X.iconst 136 i286_135 rfl rfl (by decide) ?_
      refine X.istore_n 137 [(0, zr g0 44), (1, zi (1172 + (45 * 6))), (2, zi 0)] i286_136 rfl rfl rfl ?_
      refine l286_137_1 (s := s) (m0 := (z_upd m0 4 45 18 ((m531 4 45 18) + 1))) (d := d) g0 (1172 + (45 * 6)) (fun g => m g 8 9) (BE := B546 + 0) (by omega) (by omega) (by omega) (fun  m548 B549 hJ550 hBB549 hkm548 => ?_) ((4 - 0 : Int).toNat + 1) 0 m545 (B546) (hJ547.up (by omega)) (by omega) (fun g => by simp only [hkm545]) (by omega) (by omega)
      refine X.aload_n 193 i286_192 rfl rfl rfl ?_
      refine X.bipush 195 i286_193 rfl rfl (by decide) ?_
      refine X.lconst (y := 0) 196 i286_195 rfl rfl rfl ?_
      refine X.callv 199 [zi 24, zl 0] [] [(0, zr g0 44), (1, zi 24), (2, zl 0)] i286_196 rfl (by decide) rfl rfl (by omega) rfl rfl (by decide) rfl t223 (Nat.le_of_ble_eq_true rfl) (Nat.le_of_ble_eq_true rfl) rfl ?_
      refine c223_1 (B := B549) g0 24 0 (by omega) (hJ550.up (by omega)) (by omega) (by omega) (by omega) (fun m551 hJ552 km551 => ?_)
      show X (EE s) d 286 199 [(0, zr g0 44)] [] m551 _
      refine X.aload_n 200 i286_199 rfl rfl rfl ?_
      refine X.getF 203 i286_200 rfl rfl (by decide) rfl rfl ?_
      refine X.bipush 205 i286_203 rfl rfl (by decide) ?_
      refine X.lald 206 i286_205 rfl rfl (by decide) rfl (by omega) ?_
      have t554 := hJ552.2 4 45 18 rfl
      try simp only [z_upd_same] at t554
      try rw [z_upd_o _ _ rfl] at t554
      have h555 := r45_18 hJ552 4
      refine X.l2i 207 i286_206 rfl rfl (by omega) ?_
      refine X.reti i286_207 rfl t286 ?_
      exact hQ (z_upd m0 4 45 18 ((m531 4 45 18) + 1)) (m551 4 45 18) m551 (by first | trivial | omega) (hJ552.up (by omega)) (fun g => by simp only [hkm548, km551]) (by exact ⟨by omega, congrArg _ (by omega)⟩) 
    · have h537c : (m531 4 45 18) < 7 := by omega
      clear h537 hz536
      refine X.aload_n 15 i287_14 rfl rfl rfl ?_
      refine X.getF 18 i287_15 rfl rfl (by decide) rfl rfl ?_
      refine X.bipush 20 i287_18 rfl rfl (by decide) ?_
      refine X.lald 21 i287_20 rfl rfl (by decide) rfl (by omega) ?_
      have t556 := hJ533.2 4 45 18 rfl
      refine X.goto 27 i287_21 rfl rfl ?_
      refine X.cut [] i287_27 rfl ?_
      refine X.l2i 28 i287_27 rfl rfl (by omega) ?_
      refine X.reti i287_28 rfl t287 ?_
      show X (EE s) d 286 62 [(0, zr g0 44)] [zi (m531 4 45 18), zi 45, zi 1172] m531 _
      refine X.bipush 64 i286_62 rfl rfl (by decide) ?_
      refine X.icmpge 74 67 i286_64 rfl rfl rfl (fun h557 => (by exfalso; omega)) (fun h557 => ?_)
      refine X.aload_n 68 i286_67 rfl rfl rfl ?_
      refine X.callv 71 [] [zi 45, zi 1172] [(0, zr g0 44)] i286_68 rfl (by decide) rfl rfl (by omega) rfl rfl (by decide) rfl t287 (Nat.le_of_ble_eq_true rfl) (Nat.le_of_ble_eq_true rfl) rfl ?_
      refine X.aload_n 1 i287_0 rfl rfl rfl ?_
      refine X.getF 4 i287_1 rfl rfl (by decide) rfl rfl ?_
      refine X.bipush 6 i287_4 rfl rfl (by decide) ?_
      refine X.lald 7 i287_6 rfl rfl (by decide) rfl (by omega) ?_
      have t558 := hJ533.2 4 45 18 rfl
      refine X.ldc2 10 i287_7 rfl rfl (by decide) ?_
      refine X.lcmp 11 i287_10 rfl rfl (fun z559 hz559 => ?_)
      refine X.ifge 24 14 i287_11 rfl rfl rfl (fun h560 => (by exfalso; omega)) (fun h560 => ?_)
      have h560c : (m531 4 45 18) < 7 := by omega
      clear h560 hz559
      refine X.aload_n 15 i287_14 rfl rfl rfl ?_
      refine X.getF 18 i287_15 rfl rfl (by decide) rfl rfl ?_
      refine X.bipush 20 i287_18 rfl rfl (by decide) ?_
      refine X.lald 21 i287_20 rfl rfl (by decide) rfl (by omega) ?_
      have t561 := hJ533.2 4 45 18 rfl
      refine X.goto 27 i287_21 rfl rfl ?_
      refine X.cut [] i287_27 rfl ?_
      refine X.l2i 28 i287_27 rfl rfl (by omega) ?_
      refine X.reti i287_28 rfl t287 ?_
      show X (EE s) d 286 71 [(0, zr g0 44)] [zi (m531 4 45 18), zi 45, zi 1172] m531 _
      refine X.goto 76 i286_71 rfl rfl ?_
      refine X.imul 77 i286_76 rfl rfl (by omega) ?_
      refine X.iadd 78 i286_77 rfl rfl (by omega) ?_
      refine X.istore_n 79 [(0, zr g0 44), (1, zi (1172 + (45 * (m531 4 45 18))))] i286_78 rfl rfl rfl ?_
      refine X.aload_n 80 i286_79 rfl rfl rfl ?_
      refine X.getF 83 i286_80 rfl rfl (by decide) rfl rfl ?_
      refine X.bipush 85 i286_83 rfl rfl (by decide) ?_
      refine X.dup2 86 i286_85 rfl rfl ?_
      refine X.lald 87 i286_86 rfl rfl (by decide) rfl (by omega) ?_
      have t562 := hJ533.2 4 45 18 rfl
      refine X.lconst (y := 1) 88 i286_87 rfl rfl rfl ?_
      refine X.ladd 89 i286_88 rfl rfl (by omega) ?_
      refine X.last' 90 i286_89 rfl rfl (by decide) rfl (by omega) (fun hrm563 m563 hm563 => ?_)
      have hJ564 := v45_18 (hJ533.up (B' := B532 + 1) (by omega)) hm563 (by omega)
      have em563 : m563 4 45 18 = ((m531 4 45 18) + 1) := by rw [hm563]; exact z_upd_same _ _ _ _ _
      have km563 : ∀ g, m563 g 8 9 = m531 g 8 9 := fun g9 => by rw [hm563]; exact z_upd_o _ _ rfl
      refine X.aload_n 91 i286_90 rfl rfl rfl ?_
      refine X.getF 94 i286_91 rfl rfl (by decide) rfl rfl ?_
      refine X.iload_n 95 i286_94 rfl rfl rfl ?_
      refine X.aload_n 96 i286_95 rfl rfl rfl ?_
      refine X.getF 99 i286_96 rfl rfl (by decide) rfl rfl ?_
      refine X.iconst 100 i286_99 rfl rfl (by decide) ?_
      refine X.lald 101 i286_100 rfl rfl (by decide) rfl (by omega) ?_
      have h565 := r45_0 hJ564 4
      refine X.last' 102 i286_101 rfl rfl (by decide) rfl (by omega) (fun hrm566 m566 hm566 => ?_)
      have hJ567 := w45_788 hJ564 hm566 (by omega) hrm566
      have km566 : ∀ g, m566 g 8 9 = m563 g 8 9 := fun g9 => by rw [hm566]; exact z_upd_o _ _ rfl
      refine X.iconst 103 i286_102 rfl rfl (by decide) ?_
      refine X.istore_n 104 [(0, zr g0 44), (1, zi (1172 + (45 * (m531 4 45 18)))), (2, zi 0)] i286_103 rfl rfl rfl ?_
      refine l286_104_1 (s := s) (m0 := (z_upd m0 4 45 18 ((m531 4 45 18) + 1))) (d := d) g0 (1172 + (45 * (m531 4 45 18))) (fun g => m g 8 9) (BE := B532 + 1) (by omega) (by omega) (by omega) (fun  m568 B569 hJ570 hBB569 hkm568 => ?_) ((35 - 0 : Int).toNat + 1) 0 m566 (B532 + 1) (hJ567.up (by omega)) (by omega) (fun g => by simp only [hkm531, km563, km566]) (by omega) (by omega)
      refine X.iconst 136 i286_135 rfl rfl (by decide) ?_
      refine X.istore_n 137 [(0, zr g0 44), (1, zi (1172 + (45 * (m531 4 45 18)))), (2, zi 0)] i286_136 rfl rfl rfl ?_
      refine l286_137_1 (s := s) (m0 := (z_upd m0 4 45 18 ((m531 4 45 18) + 1))) (d := d) g0 (1172 + (45 * (m531 4 45 18))) (fun g => m g 8 9) (BE := B569 + 0) (by omega) (by omega) (by omega) (fun  m571 B572 hJ573 hBB572 hkm571 => ?_) ((4 - 0 : Int).toNat + 1) 0 m568 (B569) (hJ570.up (by omega)) (by omega) (fun g => by simp only [hkm568]) (by omega) (by omega)
      refine X.aload_n 193 i286_192 rfl rfl rfl ?_
      refine X.bipush 195 i286_193 rfl rfl (by decide) ?_
      refine X.lconst (y := 0) 196 i286_195 rfl rfl rfl ?_
      refine X.callv 199 [zi 24, zl 0] [] [(0, zr g0 44), (1, zi 24), (2, zl 0)] i286_196 rfl (by decide) rfl rfl (by omega) rfl rfl (by decide) rfl t223 (Nat.le_of_ble_eq_true rfl) (Nat.le_of_ble_eq_true rfl) rfl ?_
      refine c223_1 (B := B572) g0 24 0 (by omega) (hJ573.up (by omega)) (by omega) (by omega) (by omega) (fun m574 hJ575 km574 => ?_)
      show X (EE s) d 286 199 [(0, zr g0 44)] [] m574 _
      refine X.aload_n 200 i286_199 rfl rfl rfl ?_
      refine X.getF 203 i286_200 rfl rfl (by decide) rfl rfl ?_
      refine X.bipush 205 i286_203 rfl rfl (by decide) ?_
      refine X.lald 206 i286_205 rfl rfl (by decide) rfl (by omega) ?_
      have t577 := hJ575.2 4 45 18 rfl
      try simp only [z_upd_same] at t577
      try rw [z_upd_o _ _ rfl] at t577
      have h578 := r45_18 hJ575 4
      refine X.l2i 207 i286_206 rfl rfl (by omega) ?_
      refine X.reti i286_207 rfl t286 ?_
      exact hQ (z_upd m0 4 45 18 ((m531 4 45 18) + 1)) (m574 4 45 18) m574 (by first | trivial | omega) (hJ575.up (by omega)) (fun g => by simp only [hkm571, km574]) (by exact ⟨by omega, congrArg _ (by omega)⟩) 
-- WorkMeter$Wave.apparentOf
theorem c23_2 {s : Nat × (Nat → Int32)} {m0 m : zM} {B : Int} {d : Nat} {Q : Option zV → zM → Prop} (g0 : Nat) (a1 : Int) (hd : 14 ≤ d) (hJ : J m0 B m) (hB : B + 0 ≤ 1000000000) (ha1 : 0 ≤ a1 ∧ a1 ≤ 2) (hQ : ∀ (v : Int), (True) → Q (some (zl v)) m) : X (EE s) d 23 0 [(0, zr g0 19), (1, zi a1)] [] m Q := by
  refine X.aload_n 1 i23_0 rfl rfl rfl ?_
  refine X.getR 4 i23_1 rfl rfl (by decide) rfl rfl ?_
  refine X.iconst 5 i23_4 rfl rfl (by decide) ?_
  refine X.iload_n 6 i23_5 rfl rfl rfl ?_
  refine X.iadd 7 i23_6 rfl rfl (by omega) ?_
  refine X.lald 8 i23_7 rfl rfl (by decide) rfl (by omega) ?_
  refine X.lstore_n 9 [(0, zr g0 19), (1, zi a1), (2, zl (m g0 22 (0 + a1)))] i23_8 rfl rfl rfl ?_
  refine X.aload_n 10 i23_9 rfl rfl rfl ?_
  refine X.getR 13 i23_10 rfl rfl (by decide) rfl rfl ?_
  refine X.iconst 14 i23_13 rfl rfl (by decide) ?_
  refine X.iload_n 15 i23_14 rfl rfl rfl ?_
  refine X.iadd 16 i23_15 rfl rfl (by omega) ?_
  refine X.lald 17 i23_16 rfl rfl (by decide) rfl (by omega) ?_
  refine X.lstore 19 [(0, zr g0 19), (1, zi a1), (2, zl (m g0 22 (0 + a1))), (4, zl (m g0 22 (4 + a1)))] i23_17 rfl rfl rfl ?_
  refine X.lload_n 20 i23_19 rfl rfl rfl ?_
  refine X.lload_n 21 i23_20 rfl rfl rfl ?_
  refine X.llF 22 .lmul (fun x y => x * y) i23_21 rfl rfl rfl (fun _ _ => rfl) (fun z501 hz501 => ?_)
  refine X.lload 24 i23_22 rfl rfl rfl ?_
  refine X.lload 26 i23_24 rfl rfl rfl ?_
  refine X.llF 27 .lmul (fun x y => x * y) i23_26 rfl rfl rfl (fun _ _ => rfl) (fun z502 hz502 => ?_)
  refine X.llF 28 .ladd (fun x y => x + y) i23_27 rfl rfl rfl (fun _ _ => rfl) (fun z503 hz503 => ?_)
  refine X.calls 31 [zl z503] [] [(0, zl z503)] i23_28 (by decide) rfl rfl (by omega) rfl rfl t24 (Nat.le_of_ble_eq_true rfl) (Nat.le_of_ble_eq_true rfl) rfl ?_
  refine c24_1 (B := B)  z503 (by omega) (hJ.up (by omega)) (by omega)  (fun v506 hv506 => ?_)
  show X (EE s) d 23 31 [(0, zr g0 19), (1, zi a1), (2, zl (m g0 22 (0 + a1))), (4, zl (m g0 22 (4 + a1)))] [zl v506] m _
  refine X.retl i23_31 rfl t23 ?_
  exact hQ v506 (by first | trivial | omega) 
theorem l142_5_1 {s : Nat × (Nat → Int32)} {m0 m : zM} {B : Int} {d : Nat} {Q : Option zV → zM → Prop} (g0 : Nat) (y1 y2 : Int) (hd : 13 ≤ d) (hJ : J m0 B m) (hB9 : B ≤ 1000000000) (hy1 : 2 ≤ y1 ∧ y1 ≤ 2) (hy2 : 0 ≤ y2 ∧ y2 ≤ 2)
    (K47 : ∀ (x3 : Int) , (0 ≤ x3) → X (EE s) d 142 47 [(0, zr g0 19), (3, zl x3)] [] m Q) :
    ∀ (n : Nat) (y3 y5 : Int) , (0 ≤ y3) → (0 ≤ y5 ∧ y5 ≤ 3) → 3 - y5 < (n : Int) → X (EE s) d 142 5 [(0, zr g0 19), (1, zi y1), (2, zi y2), (3, zl y3), (5, zi y5)] [] m Q := by
  intro n
  induction n with
  | zero =>
    intro y3 y5 hy3 hy5 hn
    exfalso
    omega
  | succ n ih =>
    intro y3 y5 hy3 hy5 hn
    refine X.iload 7 i142_5 rfl rfl rfl ?_
    refine X.aload_n 8 i142_7 rfl rfl rfl ?_
    refine X.getI 11 3 i142_8 rfl rfl (by decide) rfl rfl rfl ?_
    have h510 := r19_3 hJ g0
    refine X.icmpge 47 14 i142_11 rfl rfl rfl (fun h511 => ?_) (fun h511 => ?_)
    · refine X.cut [(0, zr g0 19), (3, zl y3)] i142_47 rfl ?_
      exact K47 y3 (by first | trivial | omega)
    · refine X.iload_n 15 i142_14 rfl rfl rfl ?_
      refine X.iconst 16 i142_15 rfl rfl (by decide) ?_
      refine X.icmpeq 25 19 i142_16 rfl rfl rfl (fun h512 => (by exfalso; omega)) (fun h512 => ?_)
      refine X.iload_n 20 i142_19 rfl rfl rfl ?_
      refine X.iload 22 i142_20 rfl rfl rfl ?_
      refine X.icmpne 41 25 i142_22 rfl rfl rfl (fun h513 => ?_) (fun h513 => ?_)
      · refine X.iinc 44 [(0, zr g0 19), (1, zi y1), (2, zi y2), (3, zl y3), (5, zi (y5 + 1))] i142_41 rfl rfl rfl (by omega) rfl ?_
        refine X.goto 5 i142_44 rfl rfl ?_
        exact ih y3 (y5 + 1) (by omega) (by omega) (by omega)
      · refine X.lload_n 26 i142_25 rfl rfl rfl ?_
        refine X.aload_n 27 i142_26 rfl rfl rfl ?_
        refine X.getR 30 i142_27 rfl rfl (by decide) rfl rfl ?_
        refine X.iload_n 31 i142_30 rfl rfl rfl ?_
        refine X.iconst 32 i142_31 rfl rfl (by decide) ?_
        refine X.imul 33 i142_32 rfl rfl (by omega) ?_
        refine X.iload 35 i142_33 rfl rfl rfl ?_
        refine X.iadd 36 i142_35 rfl rfl (by omega) ?_
        refine X.lald 37 i142_36 rfl rfl (by decide) rfl (by omega) ?_
        refine X.maxL 40 i142_37 rfl rfl (by omega) (Nat.le_of_ble_eq_true rfl) ?_
        refine X.lstore_n 41 [(0, zr g0 19), (1, zi y1), (2, zi y2), (3, zl (max y3 (m g0 22 ((y1 * 4) + y5)))), (5, zi y5)] i142_40 rfl rfl rfl ?_
        refine X.iinc 44 [(0, zr g0 19), (1, zi y1), (2, zi y2), (3, zl (max y3 (m g0 22 ((y1 * 4) + y5)))), (5, zi (y5 + 1))] i142_41 rfl rfl rfl (by omega) rfl ?_
        refine X.goto 5 i142_44 rfl rfl ?_
        exact ih (max y3 (m g0 22 ((y1 * 4) + y5))) (y5 + 1) (by omega) (by omega) (by omega)
-- WorkMeter$Wave.rootMean
theorem c142_1 {s : Nat × (Nat → Int32)} {m0 m : zM} {B : Int} {d : Nat} {Q : Option zV → zM → Prop} (g0 : Nat) (a1 a2 : Int) (hd : 14 ≤ d) (hJ : J m0 B m) (hB : B + 0 ≤ 1000000000) (ha1 : 2 ≤ a1 ∧ a1 ≤ 2) (ha2 : 0 ≤ a2 ∧ a2 ≤ 2) (hQ : ∀ (v : Int), (True) → Q (some (zl v)) m) : X (EE s) d 142 0 [(0, zr g0 19), (1, zi a1), (2, zi a2)] [] m Q := by
  refine X.lconst (y := 0) 1 i142_0 rfl rfl rfl ?_
  refine X.lstore_n 2 [(0, zr g0 19), (1, zi a1), (2, zi a2), (3, zl 0)] i142_1 rfl rfl rfl ?_
  refine X.iconst 3 i142_2 rfl rfl (by decide) ?_
  refine X.istore 5 [(0, zr g0 19), (1, zi a1), (2, zi a2), (3, zl 0), (5, zi 0)] i142_3 rfl rfl rfl ?_
  refine l142_5_1 (s := s) (m0 := m0) (m := m) (B := B) (d := d) g0 a1 a2 (by omega) (hJ.up (by omega)) (by omega) (by omega) (by omega) (fun y501 hby501 => ?_) ((3 - 0 : Int).toNat + 1) 0 0 (by omega) (by omega) (by omega)
  refine X.lload_n 48 i142_47 rfl rfl rfl ?_
  refine X.iconst 49 i142_48 rfl rfl (by decide) ?_
  refine X.aload_n 50 i142_49 rfl rfl rfl ?_
  refine X.getI 53 4 i142_50 rfl rfl (by decide) rfl rfl rfl ?_
  have h505 := r19_4 hJ g0
  refine X.maxI 56 i142_53 rfl rfl (by omega) (Nat.le_of_ble_eq_true rfl) ?_
  refine X.i2l 57 i142_56 rfl rfl ?_
  refine X.ldivF 58 i142_57 rfl rfl (by omega) (fun z506 => ?_)
  refine X.calls 61 [zl z506] [] [(0, zl z506)] i142_58 (by decide) rfl rfl (by omega) rfl rfl t24 (Nat.le_of_ble_eq_true rfl) (Nat.le_of_ble_eq_true rfl) rfl ?_
  refine c24_1 (B := B)  z506 (by omega) (hJ.up (by omega)) (by omega)  (fun v509 hv509 => ?_)
  show X (EE s) d 142 61 [(0, zr g0 19), (3, zl y501)] [zl v509] m _
  refine X.retl i142_61 rfl t142 ?_
  exact hQ v509 (by first | trivial | omega) 
theorem l142_5_2 {s : Nat × (Nat → Int32)} {m0 m : zM} {B : Int} {d : Nat} {Q : Option zV → zM → Prop} (g0 : Nat) (y1 y2 : Int) (hd : 13 ≤ d) (hJ : J m0 B m) (hB9 : B ≤ 1000000000) (hy1 : 3 ≤ y1 ∧ y1 ≤ 3) (hy2 : 0 ≤ y2 ∧ y2 ≤ 2)
    (K47 : ∀ (x3 : Int) , (0 ≤ x3) → X (EE s) d 142 47 [(0, zr g0 19), (3, zl x3)] [] m Q) :
    ∀ (n : Nat) (y3 y5 : Int) , (0 ≤ y3) → (0 ≤ y5 ∧ y5 ≤ 3) → 3 - y5 < (n : Int) → X (EE s) d 142 5 [(0, zr g0 19), (1, zi y1), (2, zi y2), (3, zl y3), (5, zi y5)] [] m Q := by
  intro n
  induction n with
  | zero =>
    intro y3 y5 hy3 hy5 hn
    exfalso
    omega
  | succ n ih =>
    intro y3 y5 hy3 hy5 hn
    refine X.iload 7 i142_5 rfl rfl rfl ?_
    refine X.aload_n 8 i142_7 rfl rfl rfl ?_
    refine X.getI 11 3 i142_8 rfl rfl (by decide) rfl rfl rfl ?_
    have h510 := r19_3 hJ g0
    refine X.icmpge 47 14 i142_11 rfl rfl rfl (fun h511 => ?_) (fun h511 => ?_)
    · refine X.cut [(0, zr g0 19), (3, zl y3)] i142_47 rfl ?_
      exact K47 y3 (by first | trivial | omega)
    · refine X.iload_n 15 i142_14 rfl rfl rfl ?_
      refine X.iconst 16 i142_15 rfl rfl (by decide) ?_
      refine X.icmpeq 25 19 i142_16 rfl rfl rfl (fun h512 => (by exfalso; omega)) (fun h512 => ?_)
      refine X.iload_n 20 i142_19 rfl rfl rfl ?_
      refine X.iload 22 i142_20 rfl rfl rfl ?_
      refine X.icmpne 41 25 i142_22 rfl rfl rfl (fun h513 => ?_) (fun h513 => ?_)
      · refine X.iinc 44 [(0, zr g0 19), (1, zi y1), (2, zi y2), (3, zl y3), (5, zi (y5 + 1))] i142_41 rfl rfl rfl (by omega) rfl ?_
        refine X.goto 5 i142_44 rfl rfl ?_
        exact ih y3 (y5 + 1) (by omega) (by omega) (by omega)
      · refine X.lload_n 26 i142_25 rfl rfl rfl ?_
        refine X.aload_n 27 i142_26 rfl rfl rfl ?_
        refine X.getR 30 i142_27 rfl rfl (by decide) rfl rfl ?_
        refine X.iload_n 31 i142_30 rfl rfl rfl ?_
        refine X.iconst 32 i142_31 rfl rfl (by decide) ?_
        refine X.imul 33 i142_32 rfl rfl (by omega) ?_
        refine X.iload 35 i142_33 rfl rfl rfl ?_
        refine X.iadd 36 i142_35 rfl rfl (by omega) ?_
        refine X.lald 37 i142_36 rfl rfl (by decide) rfl (by omega) ?_
        refine X.maxL 40 i142_37 rfl rfl (by omega) (Nat.le_of_ble_eq_true rfl) ?_
        refine X.lstore_n 41 [(0, zr g0 19), (1, zi y1), (2, zi y2), (3, zl (max y3 (m g0 22 ((y1 * 4) + y5)))), (5, zi y5)] i142_40 rfl rfl rfl ?_
        refine X.iinc 44 [(0, zr g0 19), (1, zi y1), (2, zi y2), (3, zl (max y3 (m g0 22 ((y1 * 4) + y5)))), (5, zi (y5 + 1))] i142_41 rfl rfl rfl (by omega) rfl ?_
        refine X.goto 5 i142_44 rfl rfl ?_
        exact ih (max y3 (m g0 22 ((y1 * 4) + y5))) (y5 + 1) (by omega) (by omega) (by omega)
-- WorkMeter$Wave.rootMean
theorem c142_2 {s : Nat × (Nat → Int32)} {m0 m : zM} {B : Int} {d : Nat} {Q : Option zV → zM → Prop} (g0 : Nat) (a1 a2 : Int) (hd : 14 ≤ d) (hJ : J m0 B m) (hB : B + 0 ≤ 1000000000) (ha1 : 3 ≤ a1 ∧ a1 ≤ 3) (ha2 : 0 ≤ a2 ∧ a2 ≤ 2) (hQ : ∀ (v : Int), (True) → Q (some (zl v)) m) : X (EE s) d 142 0 [(0, zr g0 19), (1, zi a1), (2, zi a2)] [] m Q := by
  refine X.lconst (y := 0) 1 i142_0 rfl rfl rfl ?_
  refine X.lstore_n 2 [(0, zr g0 19), (1, zi a1), (2, zi a2), (3, zl 0)] i142_1 rfl rfl rfl ?_
  refine X.iconst 3 i142_2 rfl rfl (by decide) ?_
  refine X.istore 5 [(0, zr g0 19), (1, zi a1), (2, zi a2), (3, zl 0), (5, zi 0)] i142_3 rfl rfl rfl ?_
  refine l142_5_2 (s := s) (m0 := m0) (m := m) (B := B) (d := d) g0 a1 a2 (by omega) (hJ.up (by omega)) (by omega) (by omega) (by omega) (fun y501 hby501 => ?_) ((3 - 0 : Int).toNat + 1) 0 0 (by omega) (by omega) (by omega)
  refine X.lload_n 48 i142_47 rfl rfl rfl ?_
  refine X.iconst 49 i142_48 rfl rfl (by decide) ?_
  refine X.aload_n 50 i142_49 rfl rfl rfl ?_
  refine X.getI 53 4 i142_50 rfl rfl (by decide) rfl rfl rfl ?_
  have h505 := r19_4 hJ g0
  refine X.maxI 56 i142_53 rfl rfl (by omega) (Nat.le_of_ble_eq_true rfl) ?_
  refine X.i2l 57 i142_56 rfl rfl ?_
  refine X.ldivF 58 i142_57 rfl rfl (by omega) (fun z506 => ?_)
  refine X.calls 61 [zl z506] [] [(0, zl z506)] i142_58 (by decide) rfl rfl (by omega) rfl rfl t24 (Nat.le_of_ble_eq_true rfl) (Nat.le_of_ble_eq_true rfl) rfl ?_
  refine c24_1 (B := B)  z506 (by omega) (hJ.up (by omega)) (by omega)  (fun v509 hv509 => ?_)
  show X (EE s) d 142 61 [(0, zr g0 19), (3, zl y501)] [zl v509] m _
  refine X.retl i142_61 rfl t142 ?_
  exact hQ v509 (by first | trivial | omega) 
theorem l142_5_3 {s : Nat × (Nat → Int32)} {m0 m : zM} {B : Int} {d : Nat} {Q : Option zV → zM → Prop} (g0 : Nat) (y1 y2 : Int) (hd : 13 ≤ d) (hJ : J m0 B m) (hB9 : B ≤ 1000000000) (hy1 : 2 ≤ y1 ∧ y1 ≤ 2) (hy2 : (-1) ≤ y2 ∧ y2 ≤ (-1))
    (K47 : ∀ (x3 : Int) , (0 ≤ x3) → X (EE s) d 142 47 [(0, zr g0 19), (3, zl x3)] [] m Q) :
    ∀ (n : Nat) (y3 y5 : Int) , (0 ≤ y3) → (0 ≤ y5 ∧ y5 ≤ 3) → 3 - y5 < (n : Int) → X (EE s) d 142 5 [(0, zr g0 19), (1, zi y1), (2, zi y2), (3, zl y3), (5, zi y5)] [] m Q := by
  intro n
  induction n with
  | zero =>
    intro y3 y5 hy3 hy5 hn
    exfalso
    omega
  | succ n ih =>
    intro y3 y5 hy3 hy5 hn
    refine X.iload 7 i142_5 rfl rfl rfl ?_
    refine X.aload_n 8 i142_7 rfl rfl rfl ?_
    refine X.getI 11 3 i142_8 rfl rfl (by decide) rfl rfl rfl ?_
    have h508 := r19_3 hJ g0
    refine X.icmpge 47 14 i142_11 rfl rfl rfl (fun h509 => ?_) (fun h509 => ?_)
    · refine X.cut [(0, zr g0 19), (3, zl y3)] i142_47 rfl ?_
      exact K47 y3 (by first | trivial | omega)
    · refine X.iload_n 15 i142_14 rfl rfl rfl ?_
      refine X.iconst 16 i142_15 rfl rfl (by decide) ?_
      refine X.icmpeq 25 19 i142_16 rfl rfl rfl (fun h510 => ?_) (fun h510 => (by exfalso; omega))
      refine X.lload_n 26 i142_25 rfl rfl rfl ?_
      refine X.aload_n 27 i142_26 rfl rfl rfl ?_
      refine X.getR 30 i142_27 rfl rfl (by decide) rfl rfl ?_
      refine X.iload_n 31 i142_30 rfl rfl rfl ?_
      refine X.iconst 32 i142_31 rfl rfl (by decide) ?_
      refine X.imul 33 i142_32 rfl rfl (by omega) ?_
      refine X.iload 35 i142_33 rfl rfl rfl ?_
      refine X.iadd 36 i142_35 rfl rfl (by omega) ?_
      refine X.lald 37 i142_36 rfl rfl (by decide) rfl (by omega) ?_
      refine X.maxL 40 i142_37 rfl rfl (by omega) (Nat.le_of_ble_eq_true rfl) ?_
      refine X.lstore_n 41 [(0, zr g0 19), (1, zi y1), (2, zi y2), (3, zl (max y3 (m g0 22 ((y1 * 4) + y5)))), (5, zi y5)] i142_40 rfl rfl rfl ?_
      refine X.iinc 44 [(0, zr g0 19), (1, zi y1), (2, zi y2), (3, zl (max y3 (m g0 22 ((y1 * 4) + y5)))), (5, zi (y5 + 1))] i142_41 rfl rfl rfl (by omega) rfl ?_
      refine X.goto 5 i142_44 rfl rfl ?_
      exact ih (max y3 (m g0 22 ((y1 * 4) + y5))) (y5 + 1) (by omega) (by omega) (by omega)
-- WorkMeter$Wave.rootMean
theorem c142_3 {s : Nat × (Nat → Int32)} {m0 m : zM} {B : Int} {d : Nat} {Q : Option zV → zM → Prop} (g0 : Nat) (a1 a2 : Int) (hd : 14 ≤ d) (hJ : J m0 B m) (hB : B + 0 ≤ 1000000000) (ha1 : 2 ≤ a1 ∧ a1 ≤ 2) (ha2 : (-1) ≤ a2 ∧ a2 ≤ (-1)) (hQ : ∀ (v : Int), (True) → Q (some (zl v)) m) : X (EE s) d 142 0 [(0, zr g0 19), (1, zi a1), (2, zi a2)] [] m Q := by
  refine X.lconst (y := 0) 1 i142_0 rfl rfl rfl ?_
  refine X.lstore_n 2 [(0, zr g0 19), (1, zi a1), (2, zi a2), (3, zl 0)] i142_1 rfl rfl rfl ?_
  refine X.iconst 3 i142_2 rfl rfl (by decide) ?_
  refine X.istore 5 [(0, zr g0 19), (1, zi a1), (2, zi a2), (3, zl 0), (5, zi 0)] i142_3 rfl rfl rfl ?_
  refine l142_5_3 (s := s) (m0 := m0) (m := m) (B := B) (d := d) g0 a1 a2 (by omega) (hJ.up (by omega)) (by omega) (by omega) (by omega) (fun y501 hby501 => ?_) ((3 - 0 : Int).toNat + 1) 0 0 (by omega) (by omega) (by omega)
  refine X.lload_n 48 i142_47 rfl rfl rfl ?_
  refine X.iconst 49 i142_48 rfl rfl (by decide) ?_
  refine X.aload_n 50 i142_49 rfl rfl rfl ?_
  refine X.getI 53 4 i142_50 rfl rfl (by decide) rfl rfl rfl ?_
  have h505 := r19_4 hJ g0
  refine X.maxI 56 i142_53 rfl rfl (by omega) (Nat.le_of_ble_eq_true rfl) ?_
  refine X.i2l 57 i142_56 rfl rfl ?_
  refine X.ldivF 58 i142_57 rfl rfl (by omega) (fun z506 => ?_)
  refine X.calls 61 [zl z506] [] [(0, zl z506)] i142_58 (by decide) rfl rfl (by omega) rfl rfl t24 (Nat.le_of_ble_eq_true rfl) (Nat.le_of_ble_eq_true rfl) rfl ?_
  refine c24_1 (B := B)  z506 (by omega) (hJ.up (by omega)) (by omega)  (fun v509 hv509 => ?_)
  show X (EE s) d 142 61 [(0, zr g0 19), (3, zl y501)] [zl v509] m _
  refine X.retl i142_61 rfl t142 ?_
  exact hQ v509 (by first | trivial | omega) 
theorem l142_5_4 {s : Nat × (Nat → Int32)} {m0 m : zM} {B : Int} {d : Nat} {Q : Option zV → zM → Prop} (g0 : Nat) (y1 y2 : Int) (hd : 13 ≤ d) (hJ : J m0 B m) (hB9 : B ≤ 1000000000) (hy1 : 3 ≤ y1 ∧ y1 ≤ 3) (hy2 : (-1) ≤ y2 ∧ y2 ≤ (-1))
    (K47 : ∀ (x3 : Int) , (0 ≤ x3) → X (EE s) d 142 47 [(0, zr g0 19), (3, zl x3)] [] m Q) :
    ∀ (n : Nat) (y3 y5 : Int) , (0 ≤ y3) → (0 ≤ y5 ∧ y5 ≤ 3) → 3 - y5 < (n : Int) → X (EE s) d 142 5 [(0, zr g0 19), (1, zi y1), (2, zi y2), (3, zl y3), (5, zi y5)] [] m Q := by
  intro n
  induction n with
  | zero =>
    intro y3 y5 hy3 hy5 hn
    exfalso
    omega
  | succ n ih =>
    intro y3 y5 hy3 hy5 hn
    refine X.iload 7 i142_5 rfl rfl rfl ?_
    refine X.aload_n 8 i142_7 rfl rfl rfl ?_
    refine X.getI 11 3 i142_8 rfl rfl (by decide) rfl rfl rfl ?_
    have h508 := r19_3 hJ g0
    refine X.icmpge 47 14 i142_11 rfl rfl rfl (fun h509 => ?_) (fun h509 => ?_)
    · refine X.cut [(0, zr g0 19), (3, zl y3)] i142_47 rfl ?_
      exact K47 y3 (by first | trivial | omega)
    · refine X.iload_n 15 i142_14 rfl rfl rfl ?_
      refine X.iconst 16 i142_15 rfl rfl (by decide) ?_
      refine X.icmpeq 25 19 i142_16 rfl rfl rfl (fun h510 => ?_) (fun h510 => (by exfalso; omega))
      refine X.lload_n 26 i142_25 rfl rfl rfl ?_
      refine X.aload_n 27 i142_26 rfl rfl rfl ?_
      refine X.getR 30 i142_27 rfl rfl (by decide) rfl rfl ?_
      refine X.iload_n 31 i142_30 rfl rfl rfl ?_
      refine X.iconst 32 i142_31 rfl rfl (by decide) ?_
      refine X.imul 33 i142_32 rfl rfl (by omega) ?_
      refine X.iload 35 i142_33 rfl rfl rfl ?_
      refine X.iadd 36 i142_35 rfl rfl (by omega) ?_
      refine X.lald 37 i142_36 rfl rfl (by decide) rfl (by omega) ?_
      refine X.maxL 40 i142_37 rfl rfl (by omega) (Nat.le_of_ble_eq_true rfl) ?_
      refine X.lstore_n 41 [(0, zr g0 19), (1, zi y1), (2, zi y2), (3, zl (max y3 (m g0 22 ((y1 * 4) + y5)))), (5, zi y5)] i142_40 rfl rfl rfl ?_
      refine X.iinc 44 [(0, zr g0 19), (1, zi y1), (2, zi y2), (3, zl (max y3 (m g0 22 ((y1 * 4) + y5)))), (5, zi (y5 + 1))] i142_41 rfl rfl rfl (by omega) rfl ?_
      refine X.goto 5 i142_44 rfl rfl ?_
      exact ih (max y3 (m g0 22 ((y1 * 4) + y5))) (y5 + 1) (by omega) (by omega) (by omega)
-- WorkMeter$Wave.rootMean
theorem c142_4 {s : Nat × (Nat → Int32)} {m0 m : zM} {B : Int} {d : Nat} {Q : Option zV → zM → Prop} (g0 : Nat) (a1 a2 : Int) (hd : 14 ≤ d) (hJ : J m0 B m) (hB : B + 0 ≤ 1000000000) (ha1 : 3 ≤ a1 ∧ a1 ≤ 3) (ha2 : (-1) ≤ a2 ∧ a2 ≤ (-1)) (hQ : ∀ (v : Int), (True) → Q (some (zl v)) m) : X (EE s) d 142 0 [(0, zr g0 19), (1, zi a1), (2, zi a2)] [] m Q := by
  refine X.lconst (y := 0) 1 i142_0 rfl rfl rfl ?_
  refine X.lstore_n 2 [(0, zr g0 19), (1, zi a1), (2, zi a2), (3, zl 0)] i142_1 rfl rfl rfl ?_
  refine X.iconst 3 i142_2 rfl rfl (by decide) ?_
  refine X.istore 5 [(0, zr g0 19), (1, zi a1), (2, zi a2), (3, zl 0), (5, zi 0)] i142_3 rfl rfl rfl ?_
  refine l142_5_4 (s := s) (m0 := m0) (m := m) (B := B) (d := d) g0 a1 a2 (by omega) (hJ.up (by omega)) (by omega) (by omega) (by omega) (fun y501 hby501 => ?_) ((3 - 0 : Int).toNat + 1) 0 0 (by omega) (by omega) (by omega)
  refine X.lload_n 48 i142_47 rfl rfl rfl ?_
  refine X.iconst 49 i142_48 rfl rfl (by decide) ?_
  refine X.aload_n 50 i142_49 rfl rfl rfl ?_
  refine X.getI 53 4 i142_50 rfl rfl (by decide) rfl rfl rfl ?_
  have h505 := r19_4 hJ g0
  refine X.maxI 56 i142_53 rfl rfl (by omega) (Nat.le_of_ble_eq_true rfl) ?_
  refine X.i2l 57 i142_56 rfl rfl ?_
  refine X.ldivF 58 i142_57 rfl rfl (by omega) (fun z506 => ?_)
  refine X.calls 61 [zl z506] [] [(0, zl z506)] i142_58 (by decide) rfl rfl (by omega) rfl rfl t24 (Nat.le_of_ble_eq_true rfl) (Nat.le_of_ble_eq_true rfl) rfl ?_
  refine c24_1 (B := B)  z506 (by omega) (hJ.up (by omega)) (by omega)  (fun v509 hv509 => ?_)
  show X (EE s) d 142 61 [(0, zr g0 19), (3, zl y501)] [zl v509] m _
  refine X.retl i142_61 rfl t142 ?_
  exact hQ v509 (by first | trivial | omega) 
