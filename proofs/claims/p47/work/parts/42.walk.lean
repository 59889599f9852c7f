theorem l224_2_1 {s : Nat × (Nat → Int32)} {m0 : zM} {d : Nat} {Q : Option zV → zM → Prop} (g0 : Nat) (T9 : Nat → Int) (BE : Int) (hE : BE ≤ 1000000000) (hd : 15 ≤ d)
    (K142 : ∀ (m' : zM) (B' : Int), J m0 B' m' → B' ≤ BE → (∀ g, m' g 8 9 = T9 g) → X (EE s) d 224 142 [(0, zr g0 44)] [] m' Q) :
    ∀ (n : Nat) (y1 : Int) (m : zM) (B : Int), J m0 B m → B + 2 * (n : Int) ≤ BE → (∀ g, m g 8 9 = T9 g) → (2 ≤ y1 ∧ y1 ≤ 5) → 5 - y1 < (n : Int) → X (EE s) d 224 2 [(0, zr g0 44), (1, zi y1)] [] m Q := by
  intro n
  induction n with
  | zero =>
    intro y1 m B hJ hB hT hy1 hn
    exfalso
    omega
  | succ n ih =>
    intro y1 m B hJ hB hT hy1 hn
    refine X.iload_n 3 i224_2 rfl rfl rfl ?_
    refine X.iconst 4 i224_3 rfl rfl (by decide) ?_
    refine X.icmpge 142 7 i224_4 rfl rfl rfl (fun h666 => ?_) (fun h666 => ?_)
    · refine X.cut [(0, zr g0 44)] i224_142 rfl ?_
      exact K142  m (B) (hJ.up (by omega)) (by omega) (fun g => by simp only [hT]) 
    · refine X.iload_n 8 i224_7 rfl rfl rfl ?_
      refine X.iconst 9 i224_8 rfl rfl (by decide) ?_
      refine X.icmpne 19 12 i224_9 rfl rfl rfl (fun h667 => ?_) (fun h667 => ?_)
      · refine X.iload_n 20 i224_19 rfl rfl rfl ?_
        refine X.iconst 21 i224_20 rfl rfl (by decide) ?_
        refine X.icmpne 31 24 i224_21 rfl rfl rfl (fun h668 => ?_) (fun h668 => ?_)
        · refine X.aload_n 32 i224_31 rfl rfl rfl ?_
          refine X.callv 35 [] [] [(0, zr g0 44)] i224_32 rfl (by decide) rfl rfl (by omega) rfl rfl (by decide) rfl t227 (Nat.le_of_ble_eq_true rfl) (Nat.le_of_ble_eq_true rfl) rfl ?_
          refine c227_1 (B := B) g0  (by omega) (hJ.up (by omega)) (by omega)  (fun v671 hv671 => ?_)
          show X (EE s) d 224 35 [(0, zr g0 44), (1, zi y1)] [zi v671] m _
          refine X.istore_n 36 [(0, zr g0 44), (1, zi y1), (2, zi v671)] i224_35 rfl rfl rfl ?_
          refine X.aload_n 37 i224_36 rfl rfl rfl ?_
          refine X.getF 40 i224_37 rfl rfl (by decide) rfl rfl ?_
          refine X.bipush 42 i224_40 rfl rfl (by decide) ?_
          refine X.iload_n 43 i224_42 rfl rfl rfl ?_
          refine X.iadd 44 i224_43 rfl rfl (by omega) ?_
          refine X.iload_n 45 i224_44 rfl rfl rfl ?_
          refine X.ifeq 62 48 i224_45 rfl rfl rfl (fun h672 => ?_) (fun h672 => ?_)
          · refine X.lconst (y := 0) 63 i224_62 rfl rfl rfl ?_
            refine X.last' 64 i224_63 rfl rfl (by decide) rfl (by omega) (fun hrm673 m673 hm673 => ?_)
            have hJ674 := w45_19 hJ hm673 (by omega) hrm673
            have km673 : ∀ g, m673 g 8 9 = m g 8 9 := fun g9 => by rw [hm673]; exact z_upd_o _ _ rfl
            refine X.aload_n 65 i224_64 rfl rfl rfl ?_
            refine X.getF 68 i224_65 rfl rfl (by decide) rfl rfl ?_
            refine X.bipush 70 i224_68 rfl rfl (by decide) ?_
            refine X.iload_n 71 i224_70 rfl rfl rfl ?_
            refine X.iadd 72 i224_71 rfl rfl (by omega) ?_
            refine X.lald 73 i224_72 rfl rfl (by decide) rfl (by omega) ?_
            refine X.aload_n 74 i224_73 rfl rfl rfl ?_
            refine X.getF 77 i224_74 rfl rfl (by decide) rfl rfl ?_
            refine X.bipush 79 i224_77 rfl rfl (by decide) ?_
            refine X.lald 80 i224_79 rfl rfl (by decide) rfl (by omega) ?_
            refine X.lcmp 81 i224_80 rfl rfl (fun z675 hz675 => ?_)
            refine X.ifle 88 84 i224_81 rfl rfl rfl (fun h676 => ?_) (fun h676 => ?_)
            · have h676c : (m673 4 45 (55 + y1)) ≤ (m673 4 45 7) := by omega
              clear h676 hz675
              refine X.iconst 89 i224_88 rfl rfl (by decide) ?_
              refine X.istore_n 90 [(0, zr g0 44), (1, zi y1), (2, zi v671), (3, zi 0)] i224_89 rfl rfl rfl ?_
              refine X.iload_n 91 i224_90 rfl rfl rfl ?_
              refine X.ifeq 113 94 i224_91 rfl rfl rfl (fun h677 => ?_) (fun h677 => (by exfalso; omega))
              refine X.cut [(0, zr g0 44), (1, zi y1), (2, zi v671)] i224_113 rfl ?_
              refine X.iload_n 114 i224_113 rfl rfl rfl ?_
              refine X.ifne 136 117 i224_114 rfl rfl rfl (fun h678 => (by exfalso; omega)) (fun h678 => ?_)
              refine X.aload_n 118 i224_117 rfl rfl rfl ?_
              refine X.getF 121 i224_118 rfl rfl (by decide) rfl rfl ?_
              refine X.bipush 123 i224_121 rfl rfl (by decide) ?_
              refine X.iload_n 124 i224_123 rfl rfl rfl ?_
              refine X.iadd 125 i224_124 rfl rfl (by omega) ?_
              refine X.lald 126 i224_125 rfl rfl (by decide) rfl (by omega) ?_
              refine X.lconst (y := 1) 127 i224_126 rfl rfl rfl ?_
              refine X.lcmp 128 i224_127 rfl rfl (fun z679 hz679 => ?_)
              refine X.ifne 136 131 i224_128 rfl rfl rfl (fun h680 => ?_) (fun h680 => ?_)
              · have h680c : (m673 4 45 (40 + y1)) ≠ 1 := by omega
                clear h680 hz679
                refine X.cut [(0, zr g0 44), (1, zi y1)] i224_136 rfl ?_
                refine X.iinc 139 [(0, zr g0 44), (1, zi (y1 + 1))] i224_136 rfl rfl rfl (by omega) rfl ?_
                refine X.goto 2 i224_139 rfl rfl ?_
                exact ih (y1 + 1) m673 (B) (hJ674.up (by omega)) (by omega) (fun g => by simp only [km673, hT]) (by omega) (by omega)
              · have h680c : (m673 4 45 (40 + y1)) = 1 := by omega
                clear h680 hz679
                refine X.aload_n 132 i224_131 rfl rfl rfl ?_
                refine X.iload_n 133 i224_132 rfl rfl rfl ?_
                refine X.callv 136 [zi y1] [] [(0, zr g0 44), (1, zi y1)] i224_133 rfl (by decide) rfl rfl (by omega) rfl rfl (by decide) rfl t229 (Nat.le_of_ble_eq_true rfl) (Nat.le_of_ble_eq_true rfl) rfl ?_
                refine X.aload_n 1 i229_0 rfl rfl rfl ?_
                refine X.getF 4 i229_1 rfl rfl (by decide) rfl rfl ?_
                refine X.bipush 6 i229_4 rfl rfl (by decide) ?_
                refine X.iload_n 7 i229_6 rfl rfl rfl ?_
                refine X.iadd 8 i229_7 rfl rfl (by omega) ?_
                refine X.lconst (y := 0) 9 i229_8 rfl rfl rfl ?_
                refine X.last' 10 i229_9 rfl rfl (by decide) rfl (by omega) (fun hrm681 m681 hm681 => ?_)
                have hJ682 := w45_19 hJ674 hm681 (by omega) hrm681
                have km681 : ∀ g, m681 g 8 9 = m673 g 8 9 := fun g9 => by rw [hm681]; exact z_upd_o _ _ rfl
                refine X.aload_n 11 i229_10 rfl rfl rfl ?_
                refine X.bipush 13 i229_11 rfl rfl (by decide) ?_
                refine X.iload_n 14 i229_13 rfl rfl rfl ?_
                refine X.iadd 15 i229_14 rfl rfl (by omega) ?_
                refine X.lconst (y := 0) 16 i229_15 rfl rfl rfl ?_
                refine X.callv 19 [zi (10 + y1), zl 0] [] [(0, zr g0 44), (1, zi (10 + y1)), (2, zl 0)] i229_16 rfl (by decide) rfl rfl (by omega) rfl rfl (by decide) rfl t223 (Nat.le_of_ble_eq_true rfl) (Nat.le_of_ble_eq_true rfl) rfl ?_
                refine c223_1 (B := B) g0 (10 + y1) 0 (by omega) (hJ682.up (by omega)) (by omega) (by omega) (by omega) (fun m683 hJ684 km683 => ?_)
                show X (EE s) (d - 1) 229 19 [(0, zr g0 44), (1, zi y1)] [] m683 _
                refine X.retv i229_19 rfl t229 ?_
                show X (EE s) d 224 136 [(0, zr g0 44), (1, zi y1), (2, zi v671)] [] m683 _
                refine X.cut [(0, zr g0 44), (1, zi y1)] i224_136 rfl ?_
                refine X.iinc 139 [(0, zr g0 44), (1, zi (y1 + 1))] i224_136 rfl rfl rfl (by omega) rfl ?_
                refine X.goto 2 i224_139 rfl rfl ?_
                exact ih (y1 + 1) m683 (B + 1) (hJ684.up (by omega)) (by omega) (fun g => by simp only [km673, km681, km683, hT]) (by omega) (by omega)
            · have h676c : (m673 4 45 (55 + y1)) > (m673 4 45 7) := by omega
              clear h676 hz675
              refine X.iconst 85 i224_84 rfl rfl (by decide) ?_
              refine X.goto 89 i224_85 rfl rfl ?_
              refine X.istore_n 90 [(0, zr g0 44), (1, zi y1), (2, zi v671), (3, zi 1)] i224_89 rfl rfl rfl ?_
              refine X.iload_n 91 i224_90 rfl rfl rfl ?_
              refine X.ifeq 113 94 i224_91 rfl rfl rfl (fun h686 => (by exfalso; omega)) (fun h686 => ?_)
              refine X.aload_n 95 i224_94 rfl rfl rfl ?_
              refine X.getF 98 i224_95 rfl rfl (by decide) rfl rfl ?_
              refine X.bipush 100 i224_98 rfl rfl (by decide) ?_
              refine X.iload_n 101 i224_100 rfl rfl rfl ?_
              refine X.iadd 102 i224_101 rfl rfl (by omega) ?_
              refine X.lald 103 i224_102 rfl rfl (by decide) rfl (by omega) ?_
              refine X.lconst (y := 0) 104 i224_103 rfl rfl rfl ?_
              refine X.lcmp 105 i224_104 rfl rfl (fun z687 hz687 => ?_)
              refine X.ifne 113 108 i224_105 rfl rfl rfl (fun h688 => ?_) (fun h688 => ?_)
              · have h688c : (m673 4 45 (40 + y1)) ≠ 0 := by omega
                clear h688 hz687
                refine X.cut [(0, zr g0 44), (1, zi y1), (2, zi v671)] i224_113 rfl ?_
                refine X.iload_n 114 i224_113 rfl rfl rfl ?_
                refine X.ifne 136 117 i224_114 rfl rfl rfl (fun h689 => (by exfalso; omega)) (fun h689 => ?_)
                refine X.aload_n 118 i224_117 rfl rfl rfl ?_
                refine X.getF 121 i224_118 rfl rfl (by decide) rfl rfl ?_
                refine X.bipush 123 i224_121 rfl rfl (by decide) ?_
                refine X.iload_n 124 i224_123 rfl rfl rfl ?_
                refine X.iadd 125 i224_124 rfl rfl (by omega) ?_
                refine X.lald 126 i224_125 rfl rfl (by decide) rfl (by omega) ?_
                refine X.lconst (y := 1) 127 i224_126 rfl rfl rfl ?_
                refine X.lcmp 128 i224_127 rfl rfl (fun z690 hz690 => ?_)
                refine X.ifne 136 131 i224_128 rfl rfl rfl (fun h691 => ?_) (fun h691 => ?_)
                · have h691c : (m673 4 45 (40 + y1)) ≠ 1 := by omega
                  clear h691 hz690
                  refine X.cut [(0, zr g0 44), (1, zi y1)] i224_136 rfl ?_
                  refine X.iinc 139 [(0, zr g0 44), (1, zi (y1 + 1))] i224_136 rfl rfl rfl (by omega) rfl ?_
                  refine X.goto 2 i224_139 rfl rfl ?_
                  exact ih (y1 + 1) m673 (B) (hJ674.up (by omega)) (by omega) (fun g => by simp only [km673, hT]) (by omega) (by omega)
                · have h691c : (m673 4 45 (40 + y1)) = 1 := by omega
                  clear h691 hz690
                  refine X.aload_n 132 i224_131 rfl rfl rfl ?_
                  refine X.iload_n 133 i224_132 rfl rfl rfl ?_
                  refine X.callv 136 [zi y1] [] [(0, zr g0 44), (1, zi y1)] i224_133 rfl (by decide) rfl rfl (by omega) rfl rfl (by decide) rfl t229 (Nat.le_of_ble_eq_true rfl) (Nat.le_of_ble_eq_true rfl) rfl ?_
                  refine X.aload_n 1 i229_0 rfl rfl rfl ?_
                  refine X.getF 4 i229_1 rfl rfl (by decide) rfl rfl ?_
                  refine X.bipush 6 i229_4 rfl rfl (by decide) ?_
                  refine X.iload_n 7 i229_6 rfl rfl rfl ?_
                  refine X.iadd 8 i229_7 rfl rfl (by omega) ?_
                  refine X.lconst (y := 0) 9 i229_8 rfl rfl rfl ?_
                  refine X.last' 10 i229_9 rfl rfl (by decide) rfl (by omega) (fun hrm692 m692 hm692 => ?_)
                  have hJ693 := w45_19 hJ674 hm692 (by omega) hrm692
                  have km692 : ∀ g, m692 g 8 9 = m673 g 8 9 := fun g9 => by rw [hm692]; exact z_upd_o _ _ rfl
                  refine X.aload_n 11 i229_10 rfl rfl rfl ?_
                  refine X.bipush 13 i229_11 rfl rfl (by decide) ?_
                  refine X.iload_n 14 i229_13 rfl rfl rfl ?_
                  refine X.iadd 15 i229_14 rfl rfl (by omega) ?_
                  refine X.lconst (y := 0) 16 i229_15 rfl rfl rfl ?_
                  refine X.callv 19 [zi (10 + y1), zl 0] [] [(0, zr g0 44), (1, zi (10 + y1)), (2, zl 0)] i229_16 rfl (by decide) rfl rfl (by omega) rfl rfl (by decide) rfl t223 (Nat.le_of_ble_eq_true rfl) (Nat.le_of_ble_eq_true rfl) rfl ?_
                  refine c223_1 (B := B) g0 (10 + y1) 0 (by omega) (hJ693.up (by omega)) (by omega) (by omega) (by omega) (fun m694 hJ695 km694 => ?_)
                  show X (EE s) (d - 1) 229 19 [(0, zr g0 44), (1, zi y1)] [] m694 _
                  refine X.retv i229_19 rfl t229 ?_
                  show X (EE s) d 224 136 [(0, zr g0 44), (1, zi y1), (2, zi v671)] [] m694 _
                  refine X.cut [(0, zr g0 44), (1, zi y1)] i224_136 rfl ?_
                  refine X.iinc 139 [(0, zr g0 44), (1, zi (y1 + 1))] i224_136 rfl rfl rfl (by omega) rfl ?_
                  refine X.goto 2 i224_139 rfl rfl ?_
                  exact ih (y1 + 1) m694 (B + 1) (hJ695.up (by omega)) (by omega) (fun g => by simp only [km673, km692, km694, hT]) (by omega) (by omega)
              · have h688c : (m673 4 45 (40 + y1)) = 0 := by omega
                clear h688 hz687
                refine X.aload_n 109 i224_108 rfl rfl rfl ?_
                refine X.iload_n 110 i224_109 rfl rfl rfl ?_
                refine X.callv 113 [zi y1] [] [(0, zr g0 44), (1, zi y1)] i224_110 rfl (by decide) rfl rfl (by omega) rfl rfl (by decide) rfl t228 (Nat.le_of_ble_eq_true rfl) (Nat.le_of_ble_eq_true rfl) rfl ?_
                refine c228_1 (B := B) g0 y1 (by omega) (hJ674.up (by omega)) (by omega) (by omega) (fun m697 hJ698 km697 => ?_)
                show X (EE s) d 224 113 [(0, zr g0 44), (1, zi y1), (2, zi v671), (3, zi 1)] [] m697 _
                refine X.cut [(0, zr g0 44), (1, zi y1), (2, zi v671)] i224_113 rfl ?_
                refine X.iload_n 114 i224_113 rfl rfl rfl ?_
                refine X.ifne 136 117 i224_114 rfl rfl rfl (fun h700 => (by exfalso; omega)) (fun h700 => ?_)
                refine X.aload_n 118 i224_117 rfl rfl rfl ?_
                refine X.getF 121 i224_118 rfl rfl (by decide) rfl rfl ?_
                refine X.bipush 123 i224_121 rfl rfl (by decide) ?_
                refine X.iload_n 124 i224_123 rfl rfl rfl ?_
                refine X.iadd 125 i224_124 rfl rfl (by omega) ?_
                refine X.lald 126 i224_125 rfl rfl (by decide) rfl (by omega) ?_
                refine X.lconst (y := 1) 127 i224_126 rfl rfl rfl ?_
                refine X.lcmp 128 i224_127 rfl rfl (fun z701 hz701 => ?_)
                refine X.ifne 136 131 i224_128 rfl rfl rfl (fun h702 => ?_) (fun h702 => ?_)
                · have h702c : (m697 4 45 (40 + y1)) ≠ 1 := by omega
                  clear h702 hz701
                  refine X.cut [(0, zr g0 44), (1, zi y1)] i224_136 rfl ?_
                  refine X.iinc 139 [(0, zr g0 44), (1, zi (y1 + 1))] i224_136 rfl rfl rfl (by omega) rfl ?_
                  refine X.goto 2 i224_139 rfl rfl ?_
                  exact ih (y1 + 1) m697 (B + 1) (hJ698.up (by omega)) (by omega) (fun g => by simp only [km673, km697, hT]) (by omega) (by omega)
                · have h702c : (m697 4 45 (40 + y1)) = 1 := by omega
                  clear h702 hz701
                  refine X.aload_n 132 i224_131 rfl rfl rfl ?_
                  refine X.iload_n 133 i224_132 rfl rfl rfl ?_
                  refine X.callv 136 [zi y1] [] [(0, zr g0 44), (1, zi y1)] i224_133 rfl (by decide) rfl rfl (by omega) rfl rfl (by decide) rfl t229 (Nat.le_of_ble_eq_true rfl) (Nat.le_of_ble_eq_true rfl) rfl ?_
                  refine X.aload_n 1 i229_0 rfl rfl rfl ?_
                  refine X.getF 4 i229_1 rfl rfl (by decide) rfl rfl ?_
                  refine X.bipush 6 i229_4 rfl rfl (by decide) ?_
                  refine X.iload_n 7 i229_6 rfl rfl rfl ?_
                  refine X.iadd 8 i229_7 rfl rfl (by omega) ?_
                  refine X.lconst (y := 0) 9 i229_8 rfl rfl rfl ?_
                  refine X.last' 10 i229_9 rfl rfl (by decide) rfl (by omega) (fun hrm703 m703 hm703 => ?_)
                  have hJ704 := w45_19 hJ698 hm703 (by omega) hrm703
                  have km703 : ∀ g, m703 g 8 9 = m697 g 8 9 := fun g9 => by rw [hm703]; exact z_upd_o _ _ rfl
                  refine X.aload_n 11 i229_10 rfl rfl rfl ?_
                  refine X.bipush 13 i229_11 rfl rfl (by decide) ?_
                  refine X.iload_n 14 i229_13 rfl rfl rfl ?_
                  refine X.iadd 15 i229_14 rfl rfl (by omega) ?_
                  refine X.lconst (y := 0) 16 i229_15 rfl rfl rfl ?_
                  refine X.callv 19 [zi (10 + y1), zl 0] [] [(0, zr g0 44), (1, zi (10 + y1)), (2, zl 0)] i229_16 rfl (by decide) rfl rfl (by omega) rfl rfl (by decide) rfl t223 (Nat.le_of_ble_eq_true rfl) (Nat.le_of_ble_eq_true rfl) rfl ?_
                  refine c223_1 (B := B + 1) g0 (10 + y1) 0 (by omega) (hJ704.up (by omega)) (by omega) (by omega) (by omega) (fun m705 hJ706 km705 => ?_)
                  show X (EE s) (d - 1) 229 19 [(0, zr g0 44), (1, zi y1)] [] m705 _
                  refine X.retv i229_19 rfl t229 ?_
                  show X (EE s) d 224 136 [(0, zr g0 44), (1, zi y1), (2, zi v671)] [] m705 _
                  refine X.cut [(0, zr g0 44), (1, zi y1)] i224_136 rfl ?_
                  refine X.iinc 139 [(0, zr g0 44), (1, zi (y1 + 1))] i224_136 rfl rfl rfl (by omega) rfl ?_
                  refine X.goto 2 i224_139 rfl rfl ?_
                  exact ih (y1 + 1) m705 (B + 2) (hJ706.up (by omega)) (by omega) (fun g => by simp only [km673, km697, km703, km705, hT]) (by omega) (by omega)
          · refine X.aload_n 49 i224_48 rfl rfl rfl ?_
            refine X.getF 52 i224_49 rfl rfl (by decide) rfl rfl ?_
            refine X.bipush 54 i224_52 rfl rfl (by decide) ?_
            refine X.iload_n 55 i224_54 rfl rfl rfl ?_
            refine X.iadd 56 i224_55 rfl rfl (by omega) ?_
            refine X.lald 57 i224_56 rfl rfl (by decide) rfl (by omega) ?_
            refine X.lconst (y := 1) 58 i224_57 rfl rfl rfl ?_
            refine X.llF 59 .ladd (fun x y => x + y) i224_58 rfl rfl rfl (fun _ _ => rfl) (fun z708 hz708 => ?_)
            refine X.goto 63 i224_59 rfl rfl ?_
            refine X.last' 64 i224_63 rfl rfl (by decide) rfl (by omega) (fun hrm709 m709 hm709 => ?_)
            have hJ710 := w45_19 hJ hm709 (by omega) hrm709
            have km709 : ∀ g, m709 g 8 9 = m g 8 9 := fun g9 => by rw [hm709]; exact z_upd_o _ _ rfl
            refine X.aload_n 65 i224_64 rfl rfl rfl ?_
            refine X.getF 68 i224_65 rfl rfl (by decide) rfl rfl ?_
            refine X.bipush 70 i224_68 rfl rfl (by decide) ?_
            refine X.iload_n 71 i224_70 rfl rfl rfl ?_
            refine X.iadd 72 i224_71 rfl rfl (by omega) ?_
            refine X.lald 73 i224_72 rfl rfl (by decide) rfl (by omega) ?_
            refine X.aload_n 74 i224_73 rfl rfl rfl ?_
            refine X.getF 77 i224_74 rfl rfl (by decide) rfl rfl ?_
            refine X.bipush 79 i224_77 rfl rfl (by decide) ?_
            refine X.lald 80 i224_79 rfl rfl (by decide) rfl (by omega) ?_
            refine X.lcmp 81 i224_80 rfl rfl (fun z711 hz711 => ?_)
            refine X.ifle 88 84 i224_81 rfl rfl rfl (fun h712 => ?_) (fun h712 => ?_)
            · have h712c : (m709 4 45 (55 + y1)) ≤ (m709 4 45 7) := by omega
              clear h712 hz711
              refine X.iconst 89 i224_88 rfl rfl (by decide) ?_
              refine X.istore_n 90 [(0, zr g0 44), (1, zi y1), (2, zi v671), (3, zi 0)] i224_89 rfl rfl rfl ?_
              refine X.iload_n 91 i224_90 rfl rfl rfl ?_
              refine X.ifeq 113 94 i224_91 rfl rfl rfl (fun h713 => ?_) (fun h713 => (by exfalso; omega))
              refine X.cut [(0, zr g0 44), (1, zi y1), (2, zi v671)] i224_113 rfl ?_
              refine X.iload_n 114 i224_113 rfl rfl rfl ?_
              refine X.ifne 136 117 i224_114 rfl rfl rfl (fun h714 => ?_) (fun h714 => (by exfalso; omega))
              refine X.cut [(0, zr g0 44), (1, zi y1)] i224_136 rfl ?_
              refine X.iinc 139 [(0, zr g0 44), (1, zi (y1 + 1))] i224_136 rfl rfl rfl (by omega) rfl ?_
              refine X.goto 2 i224_139 rfl rfl ?_
              exact ih (y1 + 1) m709 (B) (hJ710.up (by omega)) (by omega) (fun g => by simp only [km709, hT]) (by omega) (by omega)
            · have h712c : (m709 4 45 (55 + y1)) > (m709 4 45 7) := by omega
              clear h712 hz711
              refine X.iconst 85 i224_84 rfl rfl (by decide) ?_
              refine X.goto 89 i224_85 rfl rfl ?_
              refine X.istore_n 90 [(0, zr g0 44), (1, zi y1), (2, zi v671), (3, zi 1)] i224_89 rfl rfl rfl ?_
              refine X.iload_n 91 i224_90 rfl rfl rfl ?_
              refine X.ifeq 113 94 i224_91 rfl rfl rfl (fun h715 => (by exfalso; omega)) (fun h715 => ?_)
              refine X.aload_n 95 i224_94 rfl rfl rfl ?_
              refine X.getF 98 i224_95 rfl rfl (by decide) rfl rfl ?_
              refine X.bipush 100 i224_98 rfl rfl (by decide) ?_
              refine X.iload_n 101 i224_100 rfl rfl rfl ?_
              refine X.iadd 102 i224_101 rfl rfl (by omega) ?_
              refine X.lald 103 i224_102 rfl rfl (by decide) rfl (by omega) ?_
              refine X.lconst (y := 0) 104 i224_103 rfl rfl rfl ?_
              refine X.lcmp 105 i224_104 rfl rfl (fun z716 hz716 => ?_)
              refine X.ifne 113 108 i224_105 rfl rfl rfl (fun h717 => ?_) (fun h717 => ?_)
              · have h717c : (m709 4 45 (40 + y1)) ≠ 0 := by omega
                clear h717 hz716
                refine X.cut [(0, zr g0 44), (1, zi y1), (2, zi v671)] i224_113 rfl ?_
                refine X.iload_n 114 i224_113 rfl rfl rfl ?_
                refine X.ifne 136 117 i224_114 rfl rfl rfl (fun h718 => ?_) (fun h718 => (by exfalso; omega))
                refine X.cut [(0, zr g0 44), (1, zi y1)] i224_136 rfl ?_
                refine X.iinc 139 [(0, zr g0 44), (1, zi (y1 + 1))] i224_136 rfl rfl rfl (by omega) rfl ?_
                refine X.goto 2 i224_139 rfl rfl ?_
                exact ih (y1 + 1) m709 (B) (hJ710.up (by omega)) (by omega) (fun g => by simp only [km709, hT]) (by omega) (by omega)
              · have h717c : (m709 4 45 (40 + y1)) = 0 := by omega
                clear h717 hz716
                refine X.aload_n 109 i224_108 rfl rfl rfl ?_
                refine X.iload_n 110 i224_109 rfl rfl rfl ?_
                refine X.callv 113 [zi y1] [] [(0, zr g0 44), (1, zi y1)] i224_110 rfl (by decide) rfl rfl (by omega) rfl rfl (by decide) rfl t228 (Nat.le_of_ble_eq_true rfl) (Nat.le_of_ble_eq_true rfl) rfl ?_
                refine c228_1 (B := B) g0 y1 (by omega) (hJ710.up (by omega)) (by omega) (by omega) (fun m719 hJ720 km719 => ?_)
                show X (EE s) d 224 113 [(0, zr g0 44), (1, zi y1), (2, zi v671), (3, zi 1)] [] m719 _
                refine X.cut [(0, zr g0 44), (1, zi y1), (2, zi v671)] i224_113 rfl ?_
                refine X.iload_n 114 i224_113 rfl rfl rfl ?_
                refine X.ifne 136 117 i224_114 rfl rfl rfl (fun h722 => ?_) (fun h722 => (by exfalso; omega))
                refine X.cut [(0, zr g0 44), (1, zi y1)] i224_136 rfl ?_
                refine X.iinc 139 [(0, zr g0 44), (1, zi (y1 + 1))] i224_136 rfl rfl rfl (by omega) rfl ?_
                refine X.goto 2 i224_139 rfl rfl ?_
                exact ih (y1 + 1) m719 (B + 1) (hJ720.up (by omega)) (by omega) (fun g => by simp only [km709, km719, hT]) (by omega) (by omega)
        · refine X.aload_n 25 i224_24 rfl rfl rfl ?_
          refine X.callv 28 [] [] [(0, zr g0 44)] i224_25 rfl (by decide) rfl rfl (by omega) rfl rfl (by decide) rfl t226 (Nat.le_of_ble_eq_true rfl) (Nat.le_of_ble_eq_true rfl) rfl ?_
          refine c226_1 (B := B) g0  (by omega) (hJ.up (by omega)) (by omega)  (fun v725 hv725 => ?_)
          show X (EE s) d 224 28 [(0, zr g0 44), (1, zi y1)] [zi v725] m _
          refine X.goto 35 i224_28 rfl rfl ?_
          refine X.istore_n 36 [(0, zr g0 44), (1, zi y1), (2, zi v725)] i224_35 rfl rfl rfl ?_
          refine X.aload_n 37 i224_36 rfl rfl rfl ?_
          refine X.getF 40 i224_37 rfl rfl (by decide) rfl rfl ?_
          refine X.bipush 42 i224_40 rfl rfl (by decide) ?_
          refine X.iload_n 43 i224_42 rfl rfl rfl ?_
          refine X.iadd 44 i224_43 rfl rfl (by omega) ?_
          refine X.iload_n 45 i224_44 rfl rfl rfl ?_
          refine X.ifeq 62 48 i224_45 rfl rfl rfl (fun h726 => ?_) (fun h726 => ?_)
          · refine X.lconst (y := 0) 63 i224_62 rfl rfl rfl ?_
            refine X.last' 64 i224_63 rfl rfl (by decide) rfl (by omega) (fun hrm727 m727 hm727 => ?_)
            have hJ728 := w45_19 hJ hm727 (by omega) hrm727
            have km727 : ∀ g, m727 g 8 9 = m g 8 9 := fun g9 => by rw [hm727]; exact z_upd_o _ _ rfl
            refine X.aload_n 65 i224_64 rfl rfl rfl ?_
            refine X.getF 68 i224_65 rfl rfl (by decide) rfl rfl ?_
            refine X.bipush 70 i224_68 rfl rfl (by decide) ?_
            refine X.iload_n 71 i224_70 rfl rfl rfl ?_
            refine X.iadd 72 i224_71 rfl rfl (by omega) ?_
            refine X.lald 73 i224_72 rfl rfl (by decide) rfl (by omega) ?_
            refine X.aload_n 74 i224_73 rfl rfl rfl ?_
            refine X.getF 77 i224_74 rfl rfl (by decide) rfl rfl ?_
            refine X.bipush 79 i224_77 rfl rfl (by decide) ?_
            refine X.lald 80 i224_79 rfl rfl (by decide) rfl (by omega) ?_
            refine X.lcmp 81 i224_80 rfl rfl (fun z729 hz729 => ?_)
            refine X.ifle 88 84 i224_81 rfl rfl rfl (fun h730 => ?_) (fun h730 => ?_)
            · have h730c : (m727 4 45 (55 + y1)) ≤ (m727 4 45 7) := by omega
              clear h730 hz729
              refine X.iconst 89 i224_88 rfl rfl (by decide) ?_
              refine X.istore_n 90 [(0, zr g0 44), (1, zi y1), (2, zi v725), (3, zi 0)] i224_89 rfl rfl rfl ?_
              refine X.iload_n 91 i224_90 rfl rfl rfl ?_
              refine X.ifeq 113 94 i224_91 rfl rfl rfl (fun h731 => ?_) (fun h731 => (by exfalso; omega))
              refine X.cut [(0, zr g0 44), (1, zi y1), (2, zi v725)] i224_113 rfl ?_
              refine X.iload_n 114 i224_113 rfl rfl rfl ?_
              refine X.ifne 136 117 i224_114 rfl rfl rfl (fun h732 => (by exfalso; omega)) (fun h732 => ?_)
              refine X.aload_n 118 i224_117 rfl rfl rfl ?_
              refine X.getF 121 i224_118 rfl rfl (by decide) rfl rfl ?_
              refine X.bipush 123 i224_121 rfl rfl (by decide) ?_
              refine X.iload_n 124 i224_123 rfl rfl rfl ?_
              refine X.iadd 125 i224_124 rfl rfl (by omega) ?_
              refine X.lald 126 i224_125 rfl rfl (by decide) rfl (by omega) ?_
              refine X.lconst (y := 1) 127 i224_126 rfl rfl rfl ?_
              refine X.lcmp 128 i224_127 rfl rfl (fun z733 hz733 => ?_)
              refine X.ifne 136 131 i224_128 rfl rfl rfl (fun h734 => ?_) (fun h734 => ?_)
              · have h734c : (m727 4 45 (40 + y1)) ≠ 1 := by omega
                clear h734 hz733
                refine X.cut [(0, zr g0 44), (1, zi y1)] i224_136 rfl ?_
                refine X.iinc 139 [(0, zr g0 44), (1, zi (y1 + 1))] i224_136 rfl rfl rfl (by omega) rfl ?_
                refine X.goto 2 i224_139 rfl rfl ?_
                exact ih (y1 + 1) m727 (B) (hJ728.up (by omega)) (by omega) (fun g => by simp only [km727, hT]) (by omega) (by omega)
              · have h734c : (m727 4 45 (40 + y1)) = 1 := by omega
                clear h734 hz733
                refine X.aload_n 132 i224_131 rfl rfl rfl ?_
                refine X.iload_n 133 i224_132 rfl rfl rfl ?_
                refine X.callv 136 [zi y1] [] [(0, zr g0 44), (1, zi y1)] i224_133 rfl (by decide) rfl rfl (by omega) rfl rfl (by decide) rfl t229 (Nat.le_of_ble_eq_true rfl) (Nat.le_of_ble_eq_true rfl) rfl ?_
                refine X.aload_n 1 i229_0 rfl rfl rfl ?_
                refine X.getF 4 i229_1 rfl rfl (by decide) rfl rfl ?_
                refine X.bipush 6 i229_4 rfl rfl (by decide) ?_
                refine X.iload_n 7 i229_6 rfl rfl rfl ?_
                refine X.iadd 8 i229_7 rfl rfl (by omega) ?_
                refine X.lconst (y := 0) 9 i229_8 rfl rfl rfl ?_
                refine X.last' 10 i229_9 rfl rfl (by decide) rfl (by omega) (fun hrm735 m735 hm735 => ?_)
                have hJ736 := w45_19 hJ728 hm735 (by omega) hrm735
                have km735 : ∀ g, m735 g 8 9 = m727 g 8 9 := fun g9 => by rw [hm735]; exact z_upd_o _ _ rfl
                refine X.aload_n 11 i229_10 rfl rfl rfl ?_
                refine X.bipush 13 i229_11 rfl rfl (by decide) ?_
                refine X.iload_n 14 i229_13 rfl rfl rfl ?_
                refine X.iadd 15 i229_14 rfl rfl (by omega) ?_
                refine X.lconst (y := 0) 16 i229_15 rfl rfl rfl ?_
                refine X.callv 19 [zi (10 + y1), zl 0] [] [(0, zr g0 44), (1, zi (10 + y1)), (2, zl 0)] i229_16 rfl (by decide) rfl rfl (by omega) rfl rfl (by decide) rfl t223 (Nat.le_of_ble_eq_true rfl) (Nat.le_of_ble_eq_true rfl) rfl ?_
                refine c223_1 (B := B) g0 (10 + y1) 0 (by omega) (hJ736.up (by omega)) (by omega) (by omega) (by omega) (fun m737 hJ738 km737 => ?_)
                show X (EE s) (d - 1) 229 19 [(0, zr g0 44), (1, zi y1)] [] m737 _
                refine X.retv i229_19 rfl t229 ?_
                show X (EE s) d 224 136 [(0, zr g0 44), (1, zi y1), (2, zi v725)] [] m737 _
                refine X.cut [(0, zr g0 44), (1, zi y1)] i224_136 rfl ?_
                refine X.iinc 139 [(0, zr g0 44), (1, zi (y1 + 1))] i224_136 rfl rfl rfl (by omega) rfl ?_
                refine X.goto 2 i224_139 rfl rfl ?_
                exact ih (y1 + 1) m737 (B + 1) (hJ738.up (by omega)) (by omega) (fun g => by simp only [km727, km735, km737, hT]) (by omega) (by omega)
            · have h730c : (m727 4 45 (55 + y1)) > (m727 4 45 7) := by omega
              clear h730 hz729
              refine X.iconst 85 i224_84 rfl rfl (by decide) ?_
              refine X.goto 89 i224_85 rfl rfl ?_
              refine X.istore_n 90 [(0, zr g0 44), (1, zi y1), (2, zi v725), (3, zi 1)] i224_89 rfl rfl rfl ?_
              refine X.iload_n 91 i224_90 rfl rfl rfl ?_
              refine X.ifeq 113 94 i224_91 rfl rfl rfl (fun h740 => (by exfalso; omega)) (fun h740 => ?_)
              refine X.aload_n 95 i224_94 rfl rfl rfl ?_
              refine X.getF 98 i224_95 rfl rfl (by decide) rfl rfl ?_
              refine X.bipush 100 i224_98 rfl rfl (by decide) ?_
              refine X.iload_n 101 i224_100 rfl rfl rfl ?_
              refine X.iadd 102 i224_101 rfl rfl (by omega) ?_
              refine X.lald 103 i224_102 rfl rfl (by decide) rfl (by omega) ?_
              refine X.lconst (y := 0) 104 i224_103 rfl rfl rfl ?_
              refine X.lcmp 105 i224_104 rfl rfl (fun z741 hz741 => ?_)
              refine X.ifne 113 108 i224_105 rfl rfl rfl (fun h742 => ?_) (fun h742 => ?_)
              · have h742c : (m727 4 45 (40 + y1)) ≠ 0 := by omega
                clear h742 hz741
                refine X.cut [(0, zr g0 44), (1, zi y1), (2, zi v725)] i224_113 rfl ?_
                refine X.iload_n 114 i224_113 rfl rfl rfl ?_
                refine X.ifne 136 117 i224_114 rfl rfl rfl (fun h743 => (by exfalso; omega)) (fun h743 => ?_)
                refine X.aload_n 118 i224_117 rfl rfl rfl ?_
                refine X.getF 121 i224_118 rfl rfl (by decide) rfl rfl ?_
                refine X.bipush 123 i224_121 rfl rfl (by decide) ?_
                refine X.iload_n 124 i224_123 rfl rfl rfl ?_
                refine X.iadd 125 i224_124 rfl rfl (by omega) ?_
                refine X.lald 126 i224_125 rfl rfl (by decide) rfl (by omega) ?_
                refine X.lconst (y := 1) 127 i224_126 rfl rfl rfl ?_
                refine X.lcmp 128 i224_127 rfl rfl (fun z744 hz744 => ?_)
                refine X.ifne 136 131 i224_128 rfl rfl rfl (fun h745 => ?_) (fun h745 => ?_)
                · have h745c : (m727 4 45 (40 + y1)) ≠ 1 := by omega
                  clear h745 hz744
                  refine X.cut [(0, zr g0 44), (1, zi y1)] i224_136 rfl ?_
                  refine X.iinc 139 [(0, zr g0 44), (1, zi (y1 + 1))] i224_136 rfl rfl rfl (by omega) rfl ?_
                  refine X.goto 2 i224_139 rfl rfl ?_
                  exact ih (y1 + 1) m727 (B) (hJ728.up (by omega)) (by omega) (fun g => by simp only [km727, hT]) (by omega) (by omega)
                · have h745c : (m727 4 45 (40 + y1)) = 1 := by omega
                  clear h745 hz744
                  refine X.aload_n 132 i224_131 rfl rfl rfl ?_
                  refine X.iload_n 133 i224_132 rfl rfl rfl ?_
                  refine X.callv 136 [zi y1] [] [(0, zr g0 44), (1, zi y1)] i224_133 rfl (by decide) rfl rfl (by omega) rfl rfl (by decide) rfl t229 (Nat.le_of_ble_eq_true rfl) (Nat.le_of_ble_eq_true rfl) rfl ?_
                  refine X.aload_n 1 i229_0 rfl rfl rfl ?_
                  refine X.getF 4 i229_1 rfl rfl (by decide) rfl rfl ?_
                  refine X.bipush 6 i229_4 rfl rfl (by decide) ?_
                  refine X.iload_n 7 i229_6 rfl rfl rfl ?_
                  refine X.iadd 8 i229_7 rfl rfl (by omega) ?_
                  refine X.lconst (y := 0) 9 i229_8 rfl rfl rfl ?_
                  refine X.last' 10 i229_9 rfl rfl (by decide) rfl (by omega) (fun hrm746 m746 hm746 => ?_)
                  have hJ747 := w45_19 hJ728 hm746 (by omega) hrm746
                  have km746 : ∀ g, m746 g 8 9 = m727 g 8 9 := fun g9 => by rw [hm746]; exact z_upd_o _ _ rfl
                  refine X.aload_n 11 i229_10 rfl rfl rfl ?_
                  refine X.bipush 13 i229_11 rfl rfl (by decide) ?_
                  refine X.iload_n 14 i229_13 rfl rfl rfl ?_
                  refine X.iadd 15 i229_14 rfl rfl (by omega) ?_
                  refine X.lconst (y := 0) 16 i229_15 rfl rfl rfl ?_
                  refine X.callv 19 [zi (10 + y1), zl 0] [] [(0, zr g0 44), (1, zi (10 + y1)), (2, zl 0)] i229_16 rfl (by decide) rfl rfl (by omega) rfl rfl (by decide) rfl t223 (Nat.le_of_ble_eq_true rfl) (Nat.le_of_ble_eq_true rfl) rfl ?_
                  refine c223_1 (B := B) g0 (10 + y1) 0 (by omega) (hJ747.up (by omega)) (by omega) (by omega) (by omega) (fun m748 hJ749 km748 => ?_)
                  show X (EE s) (d - 1) 229 19 [(0, zr g0 44), (1, zi y1)] [] m748 _
                  refine X.retv i229_19 rfl t229 ?_
                  show X (EE s) d 224 136 [(0, zr g0 44), (1, zi y1), (2, zi v725)] [] m748 _
                  refine X.cut [(0, zr g0 44), (1, zi y1)] i224_136 rfl ?_
                  refine X.iinc 139 [(0, zr g0 44), (1, zi (y1 + 1))] i224_136 rfl rfl rfl (by omega) rfl ?_
                  refine X.goto 2 i224_139 rfl rfl ?_
                  exact ih (y1 + 1) m748 (B + 1) (hJ749.up (by omega)) (by omega) (fun g => by simp only [km727, km746, km748, hT]) (by omega) (by omega)
              · have h742c : (m727 4 45 (40 + y1)) = 0 := by omega
                clear h742 hz741
                refine X.aload_n 109 i224_108 rfl rfl rfl ?_
                refine X.iload_n 110 i224_109 rfl rfl rfl ?_
                refine X.callv 113 [zi y1] [] [(0, zr g0 44), (1, zi y1)] i224_110 rfl (by decide) rfl rfl (by omega) rfl rfl (by decide) rfl t228 (Nat.le_of_ble_eq_true rfl) (Nat.le_of_ble_eq_true rfl) rfl ?_
                refine c228_2 (B := B) g0 y1 (by omega) (hJ728.up (by omega)) (by omega) (by omega) (fun m751 hJ752 km751 => ?_)
                show X (EE s) d 224 113 [(0, zr g0 44), (1, zi y1), (2, zi v725), (3, zi 1)] [] m751 _
                refine X.cut [(0, zr g0 44), (1, zi y1), (2, zi v725)] i224_113 rfl ?_
                refine X.iload_n 114 i224_113 rfl rfl rfl ?_
                refine X.ifne 136 117 i224_114 rfl rfl rfl (fun h754 => (by exfalso; omega)) (fun h754 => ?_)
                refine X.aload_n 118 i224_117 rfl rfl rfl ?_
                refine X.getF 121 i224_118 rfl rfl (by decide) rfl rfl ?_
                refine X.bipush 123 i224_121 rfl rfl (by decide) ?_
                refine X.iload_n 124 i224_123 rfl rfl rfl ?_
                refine X.iadd 125 i224_124 rfl rfl (by omega) ?_
                refine X.lald 126 i224_125 rfl rfl (by decide) rfl (by omega) ?_
                refine X.lconst (y := 1) 127 i224_126 rfl rfl rfl ?_
                refine X.lcmp 128 i224_127 rfl rfl (fun z755 hz755 => ?_)
                refine X.ifne 136 131 i224_128 rfl rfl rfl (fun h756 => ?_) (fun h756 => ?_)
                · have h756c : (m751 4 45 (40 + y1)) ≠ 1 := by omega
                  clear h756 hz755
                  refine X.cut [(0, zr g0 44), (1, zi y1)] i224_136 rfl ?_
                  refine X.iinc 139 [(0, zr g0 44), (1, zi (y1 + 1))] i224_136 rfl rfl rfl (by omega) rfl ?_
                  refine X.goto 2 i224_139 rfl rfl ?_
                  exact ih (y1 + 1) m751 (B + 1) (hJ752.up (by omega)) (by omega) (fun g => by simp only [km727, km751, hT]) (by omega) (by omega)
                · have h756c : (m751 4 45 (40 + y1)) = 1 := by omega
                  clear h756 hz755
                  refine X.aload_n 132 i224_131 rfl rfl rfl ?_
                  refine X.iload_n 133 i224_132 rfl rfl rfl ?_
                  refine X.callv 136 [zi y1] [] [(0, zr g0 44), (1, zi y1)] i224_133 rfl (by decide) rfl rfl (by omega) rfl rfl (by decide) rfl t229 (Nat.le_of_ble_eq_true rfl) (Nat.le_of_ble_eq_true rfl) rfl ?_
                  refine X.aload_n 1 i229_0 rfl rfl rfl ?_
                  refine X.getF 4 i229_1 rfl rfl (by decide) rfl rfl ?_
                  refine X.bipush 6 i229_4 rfl rfl (by decide) ?_
                  refine X.iload_n 7 i229_6 rfl rfl rfl ?_
                  refine X.iadd 8 i229_7 rfl rfl (by omega) ?_
                  refine X.lconst (y := 0) 9 i229_8 rfl rfl rfl ?_
                  refine X.last' 10 i229_9 rfl rfl (by decide) rfl (by omega) (fun hrm757 m757 hm757 => ?_)
                  have hJ758 := w45_19 hJ752 hm757 (by omega) hrm757
                  have km757 : ∀ g, m757 g 8 9 = m751 g 8 9 := fun g9 => by rw [hm757]; exact z_upd_o _ _ rfl
                  refine X.aload_n 11 i229_10 rfl rfl rfl ?_
                  refine X.bipush 13 i229_11 rfl rfl (by decide) ?_
                  refine X.iload_n 14 i229_13 rfl rfl rfl ?_
                  refine X.iadd 15 i229_14 rfl rfl (by omega) ?_
                  refine X.lconst (y := 0) 16 i229_15 rfl rfl rfl ?_
                  refine X.callv 19 [zi (10 + y1), zl 0] [] [(0, zr g0 44), (1, zi (10 + y1)), (2, zl 0)] i229_16 rfl (by decide) rfl rfl (by omega) rfl rfl (by decide) rfl t223 (Nat.le_of_ble_eq_true rfl) (Nat.le_of_ble_eq_true rfl) rfl ?_
                  refine c223_1 (B := B + 1) g0 (10 + y1) 0 (by omega) (hJ758.up (by omega)) (by omega) (by omega) (by omega) (fun m759 hJ760 km759 => ?_)
                  show X (EE s) (d - 1) 229 19 [(0, zr g0 44), (1, zi y1)] [] m759 _
                  refine X.retv i229_19 rfl t229 ?_
                  show X (EE s) d 224 136 [(0, zr g0 44), (1, zi y1), (2, zi v725)] [] m759 _
                  refine X.cut [(0, zr g0 44), (1, zi y1)] i224_136 rfl ?_
                  refine X.iinc 139 [(0, zr g0 44), (1, zi (y1 + 1))] i224_136 rfl rfl rfl (by omega) rfl ?_
                  refine X.goto 2 i224_139 rfl rfl ?_
                  exact ih (y1 + 1) m759 (B + 2) (hJ760.up (by omega)) (by omega) (fun g => by simp only [km727, km751, km757, km759, hT]) (by omega) (by omega)
          · refine X.aload_n 49 i224_48 rfl rfl rfl ?_
            refine X.getF 52 i224_49 rfl rfl (by decide) rfl rfl ?_
            refine X.bipush 54 i224_52 rfl rfl (by decide) ?_
            refine X.iload_n 55 i224_54 rfl rfl rfl ?_
            refine X.iadd 56 i224_55 rfl rfl (by omega) ?_
            refine X.lald 57 i224_56 rfl rfl (by decide) rfl (by omega) ?_
            refine X.lconst (y := 1) 58 i224_57 rfl rfl rfl ?_
            refine X.llF 59 .ladd (fun x y => x + y) i224_58 rfl rfl rfl (fun _ _ => rfl) (fun z762 hz762 => ?_)
            refine X.goto 63 i224_59 rfl rfl ?_
            refine X.last' 64 i224_63 rfl rfl (by decide) rfl (by omega) (fun hrm763 m763 hm763 => ?_)
            have hJ764 := w45_19 hJ hm763 (by omega) hrm763
            have km763 : ∀ g, m763 g 8 9 = m g 8 9 := fun g9 => by rw [hm763]; exact z_upd_o _ _ rfl
            refine X.aload_n 65 i224_64 rfl rfl rfl ?_
            refine X.getF 68 i224_65 rfl rfl (by decide) rfl rfl ?_
            refine X.bipush 70 i224_68 rfl rfl (by decide) ?_
            refine X.iload_n 71 i224_70 rfl rfl rfl ?_
            refine X.iadd 72 i224_71 rfl rfl (by omega) ?_
            refine X.lald 73 i224_72 rfl rfl (by decide) rfl (by omega) ?_
            refine X.aload_n 74 i224_73 rfl rfl rfl ?_
            refine X.getF 77 i224_74 rfl rfl (by decide) rfl rfl ?_
            refine X.bipush 79 i224_77 rfl rfl (by decide) ?_
            refine X.lald 80 i224_79 rfl rfl (by decide) rfl (by omega) ?_
            refine X.lcmp 81 i224_80 rfl rfl (fun z765 hz765 => ?_)
            refine X.ifle 88 84 i224_81 rfl rfl rfl (fun h766 => ?_) (fun h766 => ?_)
            · have h766c : (m763 4 45 (55 + y1)) ≤ (m763 4 45 7) := by omega
              clear h766 hz765
              refine X.iconst 89 i224_88 rfl rfl (by decide) ?_
              refine X.istore_n 90 [(0, zr g0 44), (1, zi y1), (2, zi v725), (3, zi 0)] i224_89 rfl rfl rfl ?_
              refine X.iload_n 91 i224_90 rfl rfl rfl ?_
              refine X.ifeq 113 94 i224_91 rfl rfl rfl (fun h767 => ?_) (fun h767 => (by exfalso; omega))
              refine X.cut [(0, zr g0 44), (1, zi y1), (2, zi v725)] i224_113 rfl ?_
              refine X.iload_n 114 i224_113 rfl rfl rfl ?_
              refine X.ifne 136 117 i224_114 rfl rfl rfl (fun h768 => ?_) (fun h768 => (by exfalso; omega))
              refine X.cut [(0, zr g0 44), (1, zi y1)] i224_136 rfl ?_
              refine X.iinc 139 [(0, zr g0 44), (1, zi (y1 + 1))] i224_136 rfl rfl rfl (by omega) rfl ?_
              refine X.goto 2 i224_139 rfl rfl ?_
              exact ih (y1 + 1) m763 (B) (hJ764.up (by omega)) (by omega) (fun g => by simp only [km763, hT]) (by omega) (by omega)
            · have h766c : (m763 4 45 (55 + y1)) > (m763 4 45 7) := by omega
              clear h766 hz765
              refine X.iconst 85 i224_84 rfl rfl (by decide) ?_
              refine X.goto 89 i224_85 rfl rfl ?_
              refine X.istore_n 90 [(0, zr g0 44), (1, zi y1), (2, zi v725), (3, zi 1)] i224_89 rfl rfl rfl ?_
              refine X.iload_n 91 i224_90 rfl rfl rfl ?_
              refine X.ifeq 113 94 i224_91 rfl rfl rfl (fun h769 => (by exfalso; omega)) (fun h769 => ?_)
              refine X.aload_n 95 i224_94 rfl rfl rfl ?_
              refine X.getF 98 i224_95 rfl rfl (by decide) rfl rfl ?_
              refine X.bipush 100 i224_98 rfl rfl (by decide) ?_
              refine X.iload_n 101 i224_100 rfl rfl rfl ?_
              refine X.iadd 102 i224_101 rfl rfl (by omega) ?_
              refine X.lald 103 i224_102 rfl rfl (by decide) rfl (by omega) ?_
              refine X.lconst (y := 0) 104 i224_103 rfl rfl rfl ?_
              refine X.lcmp 105 i224_104 rfl rfl (fun z770 hz770 => ?_)
              refine X.ifne 113 108 i224_105 rfl rfl rfl (fun h771 => ?_) (fun h771 => ?_)
              · have h771c : (m763 4 45 (40 + y1)) ≠ 0 := by omega
                clear h771 hz770
                refine X.cut [(0, zr g0 44), (1, zi y1), (2, zi v725)] i224_113 rfl ?_
                refine X.iload_n 114 i224_113 rfl rfl rfl ?_
                refine X.ifne 136 117 i224_114 rfl rfl rfl (fun h772 => ?_) (fun h772 => (by exfalso; omega))
                refine X.cut [(0, zr g0 44), (1, zi y1)] i224_136 rfl ?_
                refine X.iinc 139 [(0, zr g0 44), (1, zi (y1 + 1))] i224_136 rfl rfl rfl (by omega) rfl ?_
                refine X.goto 2 i224_139 rfl rfl ?_
                exact ih (y1 + 1) m763 (B) (hJ764.up (by omega)) (by omega) (fun g => by simp only [km763, hT]) (by omega) (by omega)
              · have h771c : (m763 4 45 (40 + y1)) = 0 := by omega
                clear h771 hz770
                refine X.aload_n 109 i224_108 rfl rfl rfl ?_
                refine X.iload_n 110 i224_109 rfl rfl rfl ?_
                refine X.callv 113 [zi y1] [] [(0, zr g0 44), (1, zi y1)] i224_110 rfl (by decide) rfl rfl (by omega) rfl rfl (by decide) rfl t228 (Nat.le_of_ble_eq_true rfl) (Nat.le_of_ble_eq_true rfl) rfl ?_
                refine c228_2 (B := B) g0 y1 (by omega) (hJ764.up (by omega)) (by omega) (by omega) (fun m773 hJ774 km773 => ?_)
                show X (EE s) d 224 113 [(0, zr g0 44), (1, zi y1), (2, zi v725), (3, zi 1)] [] m773 _
                refine X.cut [(0, zr g0 44), (1, zi y1), (2, zi v725)] i224_113 rfl ?_
                refine X.iload_n 114 i224_113 rfl rfl rfl ?_
                refine X.ifne 136 117 i224_114 rfl rfl rfl (fun h776 => ?_) (fun h776 => (by exfalso; omega))
                refine X.cut [(0, zr g0 44), (1, zi y1)] i224_136 rfl ?_
                refine X.iinc 139 [(0, zr g0 44), (1, zi (y1 + 1))] i224_136 rfl rfl rfl (by omega) rfl ?_
                refine X.goto 2 i224_139 rfl rfl ?_
                exact ih (y1 + 1) m773 (B + 1) (hJ774.up (by omega)) (by omega) (fun g => by simp only [km763, km773, hT]) (by omega) (by omega)
      · refine X.aload_n 13 i224_12 rfl rfl rfl ?_
        refine X.callv 16 [] [] [(0, zr g0 44)] i224_13 rfl (by decide) rfl rfl (by omega) rfl rfl (by decide) rfl t225 (Nat.le_of_ble_eq_true rfl) (Nat.le_of_ble_eq_true rfl) rfl ?_
        refine c225_1 (B := B) g0  (by omega) (hJ.up (by omega)) (by omega)  (fun v779 hv779 => ?_)
        show X (EE s) d 224 16 [(0, zr g0 44), (1, zi y1)] [zi v779] m _
        refine X.goto 35 i224_16 rfl rfl ?_
        refine X.istore_n 36 [(0, zr g0 44), (1, zi y1), (2, zi v779)] i224_35 rfl rfl rfl ?_
        refine X.aload_n 37 i224_36 rfl rfl rfl ?_
        refine X.getF 40 i224_37 rfl rfl (by decide) rfl rfl ?_
        refine X.bipush 42 i224_40 rfl rfl (by decide) ?_
        refine X.iload_n 43 i224_42 rfl rfl rfl ?_
        refine X.iadd 44 i224_43 rfl rfl (by omega) ?_
        refine X.iload_n 45 i224_44 rfl rfl rfl ?_
        refine X.ifeq 62 48 i224_45 rfl rfl rfl (fun h780 => ?_) (fun h780 => ?_)
        · refine X.lconst (y := 0) 63 i224_62 rfl rfl rfl ?_
          refine X.last' 64 i224_63 rfl rfl (by decide) rfl (by omega) (fun hrm781 m781 hm781 => ?_)
          have hJ782 := w45_19 hJ hm781 (by omega) hrm781
          have km781 : ∀ g, m781 g 8 9 = m g 8 9 := fun g9 => by rw [hm781]; exact z_upd_o _ _ rfl
          refine X.aload_n 65 i224_64 rfl rfl rfl ?_
          refine X.getF 68 i224_65 rfl rfl (by decide) rfl rfl ?_
          refine X.bipush 70 i224_68 rfl rfl (by decide) ?_
          refine X.iload_n 71 i224_70 rfl rfl rfl ?_
          refine X.iadd 72 i224_71 rfl rfl (by omega) ?_
          refine X.lald 73 i224_72 rfl rfl (by decide) rfl (by omega) ?_
          refine X.aload_n 74 i224_73 rfl rfl rfl ?_
          refine X.getF 77 i224_74 rfl rfl (by decide) rfl rfl ?_
          refine X.bipush 79 i224_77 rfl rfl (by decide) ?_
          refine X.lald 80 i224_79 rfl rfl (by decide) rfl (by omega) ?_
          refine X.lcmp 81 i224_80 rfl rfl (fun z783 hz783 => ?_)
          refine X.ifle 88 84 i224_81 rfl rfl rfl (fun h784 => ?_) (fun h784 => ?_)
          · have h784c : (m781 4 45 (55 + y1)) ≤ (m781 4 45 7) := by omega
            clear h784 hz783
            refine X.iconst 89 i224_88 rfl rfl (by decide) ?_
            refine X.istore_n 90 [(0, zr g0 44), (1, zi y1), (2, zi v779), (3, zi 0)] i224_89 rfl rfl rfl ?_
            refine X.iload_n 91 i224_90 rfl rfl rfl ?_
            refine X.ifeq 113 94 i224_91 rfl rfl rfl (fun h785 => ?_) (fun h785 => (by exfalso; omega))
            refine X.cut [(0, zr g0 44), (1, zi y1), (2, zi v779)] i224_113 rfl ?_
            refine X.iload_n 114 i224_113 rfl rfl rfl ?_
            refine X.ifne 136 117 i224_114 rfl rfl rfl (fun h786 => (by exfalso; omega)) (fun h786 => ?_)
            refine X.aload_n 118 i224_117 rfl rfl rfl ?_
            refine X.getF 121 i224_118 rfl rfl (by decide) rfl rfl ?_
            refine X.bipush 123 i224_121 rfl rfl (by decide) ?_
            refine X.iload_n 124 i224_123 rfl rfl rfl ?_
            refine X.iadd 125 i224_124 rfl rfl (by omega) ?_
            refine X.lald 126 i224_125 rfl rfl (by decide) rfl (by omega) ?_
            refine X.lconst (y := 1) 127 i224_126 rfl rfl rfl ?_
            refine X.lcmp 128 i224_127 rfl rfl (fun z787 hz787 => ?_)
            refine X.ifne 136 131 i224_128 rfl rfl rfl (fun h788 => ?_) (fun h788 => ?_)
            · have h788c : (m781 4 45 (40 + y1)) ≠ 1 := by omega
              clear h788 hz787
              refine X.cut [(0, zr g0 44), (1, zi y1)] i224_136 rfl ?_
              refine X.iinc 139 [(0, zr g0 44), (1, zi (y1 + 1))] i224_136 rfl rfl rfl (by omega) rfl ?_
              refine X.goto 2 i224_139 rfl rfl ?_
              exact ih (y1 + 1) m781 (B) (hJ782.up (by omega)) (by omega) (fun g => by simp only [km781, hT]) (by omega) (by omega)
            · have h788c : (m781 4 45 (40 + y1)) = 1 := by omega
              clear h788 hz787
              refine X.aload_n 132 i224_131 rfl rfl rfl ?_
              refine X.iload_n 133 i224_132 rfl rfl rfl ?_
              refine X.callv 136 [zi y1] [] [(0, zr g0 44), (1, zi y1)] i224_133 rfl (by decide) rfl rfl (by omega) rfl rfl (by decide) rfl t229 (Nat.le_of_ble_eq_true rfl) (Nat.le_of_ble_eq_true rfl) rfl ?_
              refine X.aload_n 1 i229_0 rfl rfl rfl ?_
              refine X.getF 4 i229_1 rfl rfl (by decide) rfl rfl ?_
              refine X.bipush 6 i229_4 rfl rfl (by decide) ?_
              refine X.iload_n 7 i229_6 rfl rfl rfl ?_
              refine X.iadd 8 i229_7 rfl rfl (by omega) ?_
              refine X.lconst (y := 0) 9 i229_8 rfl rfl rfl ?_
              refine X.last' 10 i229_9 rfl rfl (by decide) rfl (by omega) (fun hrm789 m789 hm789 => ?_)
              have hJ790 := w45_19 hJ782 hm789 (by omega) hrm789
              have km789 : ∀ g, m789 g 8 9 = m781 g 8 9 := fun g9 => by rw [hm789]; exact z_upd_o _ _ rfl
              refine X.aload_n 11 i229_10 rfl rfl rfl ?_
              refine X.bipush 13 i229_11 rfl rfl (by decide) ?_
              refine X.iload_n 14 i229_13 rfl rfl rfl ?_
              refine X.iadd 15 i229_14 rfl rfl (by omega) ?_
              refine X.lconst (y := 0) 16 i229_15 rfl rfl rfl ?_
              refine X.callv 19 [zi (10 + y1), zl 0] [] [(0, zr g0 44), (1, zi (10 + y1)), (2, zl 0)] i229_16 rfl (by decide) rfl rfl (by omega) rfl rfl (by decide) rfl t223 (Nat.le_of_ble_eq_true rfl) (Nat.le_of_ble_eq_true rfl) rfl ?_
              refine c223_1 (B := B) g0 (10 + y1) 0 (by omega) (hJ790.up (by omega)) (by omega) (by omega) (by omega) (fun m791 hJ792 km791 => ?_)
              show X (EE s) (d - 1) 229 19 [(0, zr g0 44), (1, zi y1)] [] m791 _
              refine X.retv i229_19 rfl t229 ?_
              show X (EE s) d 224 136 [(0, zr g0 44), (1, zi y1), (2, zi v779)] [] m791 _
              refine X.cut [(0, zr g0 44), (1, zi y1)] i224_136 rfl ?_
              refine X.iinc 139 [(0, zr g0 44), (1, zi (y1 + 1))] i224_136 rfl rfl rfl (by omega) rfl ?_
              refine X.goto 2 i224_139 rfl rfl ?_
              exact ih (y1 + 1) m791 (B + 1) (hJ792.up (by omega)) (by omega) (fun g => by simp only [km781, km789, km791, hT]) (by omega) (by omega)
          · have h784c : (m781 4 45 (55 + y1)) > (m781 4 45 7) := by omega
            clear h784 hz783
            refine X.iconst 85 i224_84 rfl rfl (by decide) ?_
            refine X.goto 89 i224_85 rfl rfl ?_
            refine X.istore_n 90 [(0, zr g0 44), (1, zi y1), (2, zi v779), (3, zi 1)] i224_89 rfl rfl rfl ?_
            refine X.iload_n 91 i224_90 rfl rfl rfl ?_
            refine X.ifeq 113 94 i224_91 rfl rfl rfl (fun h794 => (by exfalso; omega)) (fun h794 => ?_)
            refine X.aload_n 95 i224_94 rfl rfl rfl ?_
            refine X.getF 98 i224_95 rfl rfl (by decide) rfl rfl ?_
            refine X.bipush 100 i224_98 rfl rfl (by decide) ?_
            refine X.iload_n 101 i224_100 rfl rfl rfl ?_
            refine X.iadd 102 i224_101 rfl rfl (by omega) ?_
            refine X.lald 103 i224_102 rfl rfl (by decide) rfl (by omega) ?_
            refine X.lconst (y := 0) 104 i224_103 rfl rfl rfl ?_
            refine X.lcmp 105 i224_104 rfl rfl (fun z795 hz795 => ?_)
            refine X.ifne 113 108 i224_105 rfl rfl rfl (fun h796 => ?_) (fun h796 => ?_)
            · have h796c : (m781 4 45 (40 + y1)) ≠ 0 := by omega
              clear h796 hz795
              refine X.cut [(0, zr g0 44), (1, zi y1), (2, zi v779)] i224_113 rfl ?_
              refine X.iload_n 114 i224_113 rfl rfl rfl ?_
              refine X.ifne 136 117 i224_114 rfl rfl rfl (fun h797 => (by exfalso; omega)) (fun h797 => ?_)
              refine X.aload_n 118 i224_117 rfl rfl rfl ?_
              refine X.getF 121 i224_118 rfl rfl (by decide) rfl rfl ?_
              refine X.bipush 123 i224_121 rfl rfl (by decide) ?_
              refine X.iload_n 124 i224_123 rfl rfl rfl ?_
              refine X.iadd 125 i224_124 rfl rfl (by omega) ?_
              refine X.lald 126 i224_125 rfl rfl (by decide) rfl (by omega) ?_
              refine X.lconst (y := 1) 127 i224_126 rfl rfl rfl ?_
              refine X.lcmp 128 i224_127 rfl rfl (fun z798 hz798 => ?_)
              refine X.ifne 136 131 i224_128 rfl rfl rfl (fun h799 => ?_) (fun h799 => ?_)
              · have h799c : (m781 4 45 (40 + y1)) ≠ 1 := by omega
                clear h799 hz798
                refine X.cut [(0, zr g0 44), (1, zi y1)] i224_136 rfl ?_
                refine X.iinc 139 [(0, zr g0 44), (1, zi (y1 + 1))] i224_136 rfl rfl rfl (by omega) rfl ?_
                refine X.goto 2 i224_139 rfl rfl ?_
                exact ih (y1 + 1) m781 (B) (hJ782.up (by omega)) (by omega) (fun g => by simp only [km781, hT]) (by omega) (by omega)
              · have h799c : (m781 4 45 (40 + y1)) = 1 := by omega
                clear h799 hz798
                refine X.aload_n 132 i224_131 rfl rfl rfl ?_
                refine X.iload_n 133 i224_132 rfl rfl rfl ?_
                refine X.callv 136 [zi y1] [] [(0, zr g0 44), (1, zi y1)] i224_133 rfl (by decide) rfl rfl (by omega) rfl rfl (by decide) rfl t229 (Nat.le_of_ble_eq_true rfl) (Nat.le_of_ble_eq_true rfl) rfl ?_
                refine X.aload_n 1 i229_0 rfl rfl rfl ?_
                refine X.getF 4 i229_1 rfl rfl (by decide) rfl rfl ?_
                refine X.bipush 6 i229_4 rfl rfl (by decide) ?_
                refine X.iload_n 7 i229_6 rfl rfl rfl ?_
                refine X.iadd 8 i229_7 rfl rfl (by omega) ?_
                refine X.lconst (y := 0) 9 i229_8 rfl rfl rfl ?_
                refine X.last' 10 i229_9 rfl rfl (by decide) rfl (by omega) (fun hrm800 m800 hm800 => ?_)
                have hJ801 := w45_19 hJ782 hm800 (by omega) hrm800
                have km800 : ∀ g, m800 g 8 9 = m781 g 8 9 := fun g9 => by rw [hm800]; exact z_upd_o _ _ rfl
                refine X.aload_n 11 i229_10 rfl rfl rfl ?_
                refine X.bipush 13 i229_11 rfl rfl (by decide) ?_
                refine X.iload_n 14 i229_13 rfl rfl rfl ?_
                refine X.iadd 15 i229_14 rfl rfl (by omega) ?_
                refine X.lconst (y := 0) 16 i229_15 rfl rfl rfl ?_
                refine X.callv 19 [zi (10 + y1), zl 0] [] [(0, zr g0 44), (1, zi (10 + y1)), (2, zl 0)] i229_16 rfl (by decide) rfl rfl (by omega) rfl rfl (by decide) rfl t223 (Nat.le_of_ble_eq_true rfl) (Nat.le_of_ble_eq_true rfl) rfl ?_
                refine c223_1 (B := B) g0 (10 + y1) 0 (by omega) (hJ801.up (by omega)) (by omega) (by omega) (by omega) (fun m802 hJ803 km802 => ?_)
                show X (EE s) (d - 1) 229 19 [(0, zr g0 44), (1, zi y1)] [] m802 _
                refine X.retv i229_19 rfl t229 ?_
                show X (EE s) d 224 136 [(0, zr g0 44), (1, zi y1), (2, zi v779)] [] m802 _
                refine X.cut [(0, zr g0 44), (1, zi y1)] i224_136 rfl ?_
                refine X.iinc 139 [(0, zr g0 44), (1, zi (y1 + 1))] i224_136 rfl rfl rfl (by omega) rfl ?_
                refine X.goto 2 i224_139 rfl rfl ?_
                exact ih (y1 + 1) m802 (B + 1) (hJ803.up (by omega)) (by omega) (fun g => by simp only [km781, km800, km802, hT]) (by omega) (by omega)
            · have h796c : (m781 4 45 (40 + y1)) = 0 := by omega
              clear h796 hz795
              refine X.aload_n 109 i224_108 rfl rfl rfl ?_
              refine X.iload_n 110 i224_109 rfl rfl rfl ?_
              refine X.callv 113 [zi y1] [] [(0, zr g0 44), (1, zi y1)] i224_110 rfl (by decide) rfl rfl (by omega) rfl rfl (by decide) rfl t228 (Nat.le_of_ble_eq_true rfl) (Nat.le_of_ble_eq_true rfl) rfl ?_
              refine c228_3 (B := B) g0 y1 (by omega) (hJ782.up (by omega)) (by omega) (by omega) (fun m805 hJ806 km805 => ?_)
              show X (EE s) d 224 113 [(0, zr g0 44), (1, zi y1), (2, zi v779), (3, zi 1)] [] m805 _
              refine X.cut [(0, zr g0 44), (1, zi y1), (2, zi v779)] i224_113 rfl ?_
              refine X.iload_n 114 i224_113 rfl rfl rfl ?_
              refine X.ifne 136 117 i224_114 rfl rfl rfl (fun h808 => (by exfalso; omega)) (fun h808 => ?_)
              refine X.aload_n 118 i224_117 rfl rfl rfl ?_
              refine X.getF 121 i224_118 rfl rfl (by decide) rfl rfl ?_
              refine X.bipush 123 i224_121 rfl rfl (by decide) ?_
              refine X.iload_n 124 i224_123 rfl rfl rfl ?_
              refine X.iadd 125 i224_124 rfl rfl (by omega) ?_
              refine X.lald 126 i224_125 rfl rfl (by decide) rfl (by omega) ?_
              refine X.lconst (y := 1) 127 i224_126 rfl rfl rfl ?_
              refine X.lcmp 128 i224_127 rfl rfl (fun z809 hz809 => ?_)
              refine X.ifne 136 131 i224_128 rfl rfl rfl (fun h810 => ?_) (fun h810 => ?_)
              · have h810c : (m805 4 45 (40 + y1)) ≠ 1 := by omega
                clear h810 hz809
                refine X.cut [(0, zr g0 44), (1, zi y1)] i224_136 rfl ?_
                refine X.iinc 139 [(0, zr g0 44), (1, zi (y1 + 1))] i224_136 rfl rfl rfl (by omega) rfl ?_
                refine X.goto 2 i224_139 rfl rfl ?_
                exact ih (y1 + 1) m805 (B + 1) (hJ806.up (by omega)) (by omega) (fun g => by simp only [km781, km805, hT]) (by omega) (by omega)
              · have h810c : (m805 4 45 (40 + y1)) = 1 := by omega
                clear h810 hz809
                refine X.aload_n 132 i224_131 rfl rfl rfl ?_
                refine X.iload_n 133 i224_132 rfl rfl rfl ?_
                refine X.callv 136 [zi y1] [] [(0, zr g0 44), (1, zi y1)] i224_133 rfl (by decide) rfl rfl (by omega) rfl rfl (by decide) rfl t229 (Nat.le_of_ble_eq_true rfl) (Nat.le_of_ble_eq_true rfl) rfl ?_
                refine X.aload_n 1 i229_0 rfl rfl rfl ?_
                refine X.getF 4 i229_1 rfl rfl (by decide) rfl rfl ?_
                refine X.bipush 6 i229_4 rfl rfl (by decide) ?_
                refine X.iload_n 7 i229_6 rfl rfl rfl ?_
                refine X.iadd 8 i229_7 rfl rfl (by omega) ?_
                refine X.lconst (y := 0) 9 i229_8 rfl rfl rfl ?_
                refine X.last' 10 i229_9 rfl rfl (by decide) rfl (by omega) (fun hrm811 m811 hm811 => ?_)
                have hJ812 := w45_19 hJ806 hm811 (by omega) hrm811
                have km811 : ∀ g, m811 g 8 9 = m805 g 8 9 := fun g9 => by rw [hm811]; exact z_upd_o _ _ rfl
                refine X.aload_n 11 i229_10 rfl rfl rfl ?_
                refine X.bipush 13 i229_11 rfl rfl (by decide) ?_
                refine X.iload_n 14 i229_13 rfl rfl rfl ?_
                refine X.iadd 15 i229_14 rfl rfl (by omega) ?_
                refine X.lconst (y := 0) 16 i229_15 rfl rfl rfl ?_
                refine X.callv 19 [zi (10 + y1), zl 0] [] [(0, zr g0 44), (1, zi (10 + y1)), (2, zl 0)] i229_16 rfl (by decide) rfl rfl (by omega) rfl rfl (by decide) rfl t223 (Nat.le_of_ble_eq_true rfl) (Nat.le_of_ble_eq_true rfl) rfl ?_
                refine c223_1 (B := B + 1) g0 (10 + y1) 0 (by omega) (hJ812.up (by omega)) (by omega) (by omega) (by omega) (fun m813 hJ814 km813 => ?_)
                show X (EE s) (d - 1) 229 19 [(0, zr g0 44), (1, zi y1)] [] m813 _
                refine X.retv i229_19 rfl t229 ?_
                show X (EE s) d 224 136 [(0, zr g0 44), (1, zi y1), (2, zi v779)] [] m813 _
                refine X.cut [(0, zr g0 44), (1, zi y1)] i224_136 rfl ?_
                refine X.iinc 139 [(0, zr g0 44), (1, zi (y1 + 1))] i224_136 rfl rfl rfl (by omega) rfl ?_
                refine X.goto 2 i224_139 rfl rfl ?_
                exact ih (y1 + 1) m813 (B + 2) (hJ814.up (by omega)) (by omega) (fun g => by simp only [km781, km805, km811, km813, hT]) (by omega) (by omega)
        · refine X.aload_n 49 i224_48 rfl rfl rfl ?_
          refine X.getF 52 i224_49 rfl rfl (by decide) rfl rfl ?_
          refine X.bipush 54 i224_52 rfl rfl (by decide) ?_
          refine X.iload_n 55 i224_54 rfl rfl rfl ?_
          refine X.iadd 56 i224_55 rfl rfl (by omega) ?_
          refine X.lald 57 i224_56 rfl rfl (by decide) rfl (by omega) ?_
          refine X.lconst (y := 1) 58 i224_57 rfl rfl rfl ?_
          refine X.llF 59 .ladd (fun x y => x + y) i224_58 rfl rfl rfl (fun _ _ => rfl) (fun z816 hz816 => ?_)
          refine X.goto 63 i224_59 rfl rfl ?_
          refine X.last' 64 i224_63 rfl rfl (by decide) rfl (by omega) (fun hrm817 m817 hm817 => ?_)
          have hJ818 := w45_19 hJ hm817 (by omega) hrm817
          have km817 : ∀ g, m817 g 8 9 = m g 8 9 := fun g9 => by rw [hm817]; exact z_upd_o _ _ rfl
          refine X.aload_n 65 i224_64 rfl rfl rfl ?_
          refine X.getF 68 i224_65 rfl rfl (by decide) rfl rfl ?_
          refine X.bipush 70 i224_68 rfl rfl (by decide) ?_
          refine X.iload_n 71 i224_70 rfl rfl rfl ?_
          refine X.iadd 72 i224_71 rfl rfl (by omega) ?_
          refine X.lald 73 i224_72 rfl rfl (by decide) rfl (by omega) ?_
          refine X.aload_n 74 i224_73 rfl rfl rfl ?_
          refine X.getF 77 i224_74 rfl rfl (by decide) rfl rfl ?_
          refine X.bipush 79 i224_77 rfl rfl (by decide) ?_
          refine X.lald 80 i224_79 rfl rfl (by decide) rfl (by omega) ?_
          refine X.lcmp 81 i224_80 rfl rfl (fun z819 hz819 => ?_)
          refine X.ifle 88 84 i224_81 rfl rfl rfl (fun h820 => ?_) (fun h820 => ?_)
          · have h820c : (m817 4 45 (55 + y1)) ≤ (m817 4 45 7) := by omega
            clear h820 hz819
            refine X.iconst 89 i224_88 rfl rfl (by decide) ?_
            refine X.istore_n 90 [(0, zr g0 44), (1, zi y1), (2, zi v779), (3, zi 0)] i224_89 rfl rfl rfl ?_
            refine X.iload_n 91 i224_90 rfl rfl rfl ?_
            refine X.ifeq 113 94 i224_91 rfl rfl rfl (fun h821 => ?_) (fun h821 => (by exfalso; omega))
            refine X.cut [(0, zr g0 44), (1, zi y1), (2, zi v779)] i224_113 rfl ?_
            refine X.iload_n 114 i224_113 rfl rfl rfl ?_
            refine X.ifne 136 117 i224_114 rfl rfl rfl (fun h822 => ?_) (fun h822 => (by exfalso; omega))
            refine X.cut [(0, zr g0 44), (1, zi y1)] i224_136 rfl ?_
            refine X.iinc 139 [(0, zr g0 44), (1, zi (y1 + 1))] i224_136 rfl rfl rfl (by omega) rfl ?_
            refine X.goto 2 i224_139 rfl rfl ?_
            exact ih (y1 + 1) m817 (B) (hJ818.up (by omega)) (by omega) (fun g => by simp only [km817, hT]) (by omega) (by omega)
          · have h820c : (m817 4 45 (55 + y1)) > (m817 4 45 7) := by omega
            clear h820 hz819
            refine X.iconst 85 i224_84 rfl rfl (by decide) ?_
            refine X.goto 89 i224_85 rfl rfl ?_
            refine X.istore_n 90 [(0, zr g0 44), (1, zi y1), (2, zi v779), (3, zi 1)] i224_89 rfl rfl rfl ?_
            refine X.iload_n 91 i224_90 rfl rfl rfl ?_
            refine X.ifeq 113 94 i224_91 rfl rfl rfl (fun h823 => (by exfalso; omega)) (fun h823 => ?_)
            refine X.aload_n 95 i224_94 rfl rfl rfl ?_
            refine X.getF 98 i224_95 rfl rfl (by decide) rfl rfl ?_
            refine X.bipush 100 i224_98 rfl rfl (by decide) ?_
            refine X.iload_n 101 i224_100 rfl rfl rfl ?_
            refine X.iadd 102 i224_101 rfl rfl (by omega) ?_
            refine X.lald 103 i224_102 rfl rfl (by decide) rfl (by omega) ?_
            refine X.lconst (y := 0) 104 i224_103 rfl rfl rfl ?_
            refine X.lcmp 105 i224_104 rfl rfl (fun z824 hz824 => ?_)
            refine X.ifne 113 108 i224_105 rfl rfl rfl (fun h825 => ?_) (fun h825 => ?_)
            · have h825c : (m817 4 45 (40 + y1)) ≠ 0 := by omega
              clear h825 hz824
              refine X.cut [(0, zr g0 44), (1, zi y1), (2, zi v779)] i224_113 rfl ?_
              refine X.iload_n 114 i224_113 rfl rfl rfl ?_
              refine X.ifne 136 117 i224_114 rfl rfl rfl (fun h826 => ?_) (fun h826 => (by exfalso; omega))
              refine X.cut [(0, zr g0 44), (1, zi y1)] i224_136 rfl ?_
              refine X.iinc 139 [(0, zr g0 44), (1, zi (y1 + 1))] i224_136 rfl rfl rfl (by omega) rfl ?_
              refine X.goto 2 i224_139 rfl rfl ?_
              exact ih (y1 + 1) m817 (B) (hJ818.up (by omega)) (by omega) (fun g => by simp only [km817, hT]) (by omega) (by omega)
            · have h825c : (m817 4 45 (40 + y1)) = 0 := by omega
              clear h825 hz824
              refine X.aload_n 109 i224_108 rfl rfl rfl ?_
              refine X.iload_n 110 i224_109 rfl rfl rfl ?_
              refine X.callv 113 [zi y1] [] [(0, zr g0 44), (1, zi y1)] i224_110 rfl (by decide) rfl rfl (by omega) rfl rfl (by decide) rfl t228 (Nat.le_of_ble_eq_true rfl) (Nat.le_of_ble_eq_true rfl) rfl ?_
              refine c228_3 (B := B) g0 y1 (by omega) (hJ818.up (by omega)) (by omega) (by omega) (fun m827 hJ828 km827 => ?_)
              show X (EE s) d 224 113 [(0, zr g0 44), (1, zi y1), (2, zi v779), (3, zi 1)] [] m827 _
              refine X.cut [(0, zr g0 44), (1, zi y1), (2, zi v779)] i224_113 rfl ?_
              refine X.iload_n 114 i224_113 rfl rfl rfl ?_
              refine X.ifne 136 117 i224_114 rfl rfl rfl (fun h830 => ?_) (fun h830 => (by exfalso; omega))
              refine X.cut [(0, zr g0 44), (1, zi y1)] i224_136 rfl ?_
              refine X.iinc 139 [(0, zr g0 44), (1, zi (y1 + 1))] i224_136 rfl rfl rfl (by omega) rfl ?_
              refine X.goto 2 i224_139 rfl rfl ?_
              exact ih (y1 + 1) m827 (B + 1) (hJ828.up (by omega)) (by omega) (fun g => by simp only [km817, km827, hT]) (by omega) (by omega)
theorem l224_144_1 {s : Nat × (Nat → Int32)} {m0 : zM} {d : Nat} {Q : Option zV → zM → Prop} (g0 : Nat) (T9 : Nat → Int) (BE : Int) (hE : BE ≤ 1000000000) (hd : 13 ≤ d)
    (K176 : ∀ (m' : zM) (B' : Int), J m0 B' m' → B' ≤ BE → (∀ g, m' g 8 9 = T9 g) → X (EE s) d 224 176 [] [] m' Q) :
    ∀ (n : Nat) (y1 : Int) (m : zM) (B : Int), J m0 B m → B + 0 * (n : Int) ≤ BE → (∀ g, m g 8 9 = T9 g) → (0 ≤ y1 ∧ y1 ≤ 5) → 5 - y1 < (n : Int) → X (EE s) d 224 144 [(0, zr g0 44), (1, zi y1)] [] m Q := by
  intro n
  induction n with
  | zero =>
    intro y1 m B hJ hB hT hy1 hn
    exfalso
    omega
  | succ n ih =>
    intro y1 m B hJ hB hT hy1 hn
    refine X.iload_n 145 i224_144 rfl rfl rfl ?_
    refine X.iconst 146 i224_145 rfl rfl (by decide) ?_
    refine X.icmpge 176 149 i224_146 rfl rfl rfl (fun h505 => ?_) (fun h505 => ?_)
    · refine X.cut [] i224_176 rfl ?_
      exact K176  m (B) (hJ.up (by omega)) (by omega) (fun g => by simp only [hT]) 
    · refine X.aload_n 150 i224_149 rfl rfl rfl ?_
      refine X.getF 153 i224_150 rfl rfl (by decide) rfl rfl ?_
      refine X.bipush 155 i224_153 rfl rfl (by decide) ?_
      refine X.iload_n 156 i224_155 rfl rfl rfl ?_
      refine X.iadd 157 i224_156 rfl rfl (by omega) ?_
      refine X.dup2 158 i224_157 rfl rfl ?_
      refine X.lald 159 i224_158 rfl rfl (by decide) rfl (by omega) ?_
      refine X.aload_n 160 i224_159 rfl rfl rfl ?_
      refine X.getF 163 i224_160 rfl rfl (by decide) rfl rfl ?_
      refine X.bipush 165 i224_163 rfl rfl (by decide) ?_
      refine X.iload_n 166 i224_165 rfl rfl rfl ?_
      refine X.iadd 167 i224_166 rfl rfl (by omega) ?_
      refine X.lald 168 i224_167 rfl rfl (by decide) rfl (by omega) ?_
      refine X.llF 169 .ladd (fun x y => x + y) i224_168 rfl rfl rfl (fun _ _ => rfl) (fun z506 hz506 => ?_)
      refine X.last' 170 i224_169 rfl rfl (by decide) rfl (by omega) (fun hrm507 m507 hm507 => ?_)
      have hJ508 := w45_19 hJ hm507 (by omega) hrm507
      have km507 : ∀ g, m507 g 8 9 = m g 8 9 := fun g9 => by rw [hm507]; exact z_upd_o _ _ rfl
      refine X.iinc 173 [(0, zr g0 44), (1, zi (y1 + 1))] i224_170 rfl rfl rfl (by omega) rfl ?_
      refine X.goto 144 i224_173 rfl rfl ?_
      exact ih (y1 + 1) m507 (B) (hJ508.up (by omega)) (by omega) (fun g => by simp only [km507, hT]) (by omega) (by omega)
-- WorkMeterModel.marks
theorem c224_1 {s : Nat × (Nat → Int32)} {m0 m : zM} {B : Int} {d : Nat} {Q : Option zV → zM → Prop} (g0 : Nat) (hd : 15 ≤ d) (hJ : J m0 B m) (hB : B + 8 ≤ 1000000000) (hQ : ∀ m', J m0 (B + 8) m' → (∀ g, m' g 8 9 = m g 8 9) → Q none m') : X (EE s) d 224 0 [(0, zr g0 44)] [] m Q := by
  refine X.iconst 1 i224_0 rfl rfl (by decide) ?_
  refine X.istore_n 2 [(0, zr g0 44), (1, zi 2)] i224_1 rfl rfl rfl ?_
  refine l224_2_1 (s := s) (m0 := m0) (d := d) g0  (fun g => m g 8 9) (BE := B + 8) (by omega) (by omega) (fun  m501 B502 hJ503 hBB502 hkm501 => ?_) ((5 - 2 : Int).toNat + 1) 2 m (B) (hJ.up (by omega)) (by omega) (fun g => rfl) (by omega) (by omega)
  refine X.iconst 143 i224_142 rfl rfl (by decide) ?_
  refine X.istore_n 144 [(0, zr g0 44), (1, zi 0)] i224_143 rfl rfl rfl ?_
  refine l224_144_1 (s := s) (m0 := m0) (d := d) g0  (fun g => m g 8 9) (BE := B502 + 0) (by omega) (by omega) (fun  m504 B505 hJ506 hBB505 hkm504 => ?_) ((5 - 0 : Int).toNat + 1) 0 m501 (B502) (hJ503.up (by omega)) (by omega) (fun g => by simp only [hkm501]) (by omega) (by omega)
  refine X.retv i224_176 rfl t224 ?_
  exact hQ  m504  (hJ506.up (by omega)) (fun g => by simp only [hkm504]) 
theorem l231_4_1 {s : Nat × (Nat → Int32)} {m0 m : zM} {B : Int} {d : Nat} {Q : Option zV → zM → Prop} (g0 : Nat) (hd : 13 ≤ d) (hJ : J m0 B m) (hB9 : B ≤ 1000000000)
    (K29 : ∀ (x1 : Int) , (True) → X (EE s) d 231 29 [(1, zl x1)] [] m Q) :
    ∀ (n : Nat) (y1 y3 : Int) , (0 ≤ y3 ∧ y3 ≤ 5) → 5 - y3 < (n : Int) → X (EE s) d 231 4 [(0, zr g0 44), (1, zl y1), (3, zi y3)] [] m Q := by
  intro n
  induction n with
  | zero =>
    intro y1 y3 hy3 hn
    exfalso
    omega
  | succ n ih =>
    intro y1 y3 hy3 hn
    refine X.iload_n 5 i231_4 rfl rfl rfl ?_
    refine X.iconst 6 i231_5 rfl rfl (by decide) ?_
    refine X.icmpge 29 9 i231_6 rfl rfl rfl (fun h507 => ?_) (fun h507 => ?_)
    · refine X.cut [(1, zl y1)] i231_29 rfl ?_
      exact K29 y1 (by first | trivial | omega)
    · refine X.lload_n 10 i231_9 rfl rfl rfl ?_
      refine X.aload_n 11 i231_10 rfl rfl rfl ?_
      refine X.getF 14 i231_11 rfl rfl (by decide) rfl rfl ?_
      refine X.bipush 16 i231_14 rfl rfl (by decide) ?_
      refine X.iload_n 17 i231_16 rfl rfl rfl ?_
      refine X.iadd 18 i231_17 rfl rfl (by omega) ?_
      refine X.lald 19 i231_18 rfl rfl (by decide) rfl (by omega) ?_
      refine X.iload_n 20 i231_19 rfl rfl rfl ?_
      refine X.lshlF 21 i231_20 rfl rfl (fun z508 hz508 => ?_)
      refine X.llF 22 .lor (fun x y => x ||| y) i231_21 rfl rfl rfl (fun _ _ => rfl) (fun z509 hz509 => ?_)
      refine X.lstore_n 23 [(0, zr g0 44), (1, zl z509), (3, zi y3)] i231_22 rfl rfl rfl ?_
      refine X.iinc 26 [(0, zr g0 44), (1, zl z509), (3, zi (y3 + 1))] i231_23 rfl rfl rfl (by omega) rfl ?_
      refine X.goto 4 i231_26 rfl rfl ?_
      exact ih z509 (y3 + 1) (by omega) (by omega)
-- WorkMeterModel.marksOn
theorem c231_1 {s : Nat × (Nat → Int32)} {m0 m : zM} {B : Int} {d : Nat} {Q : Option zV → zM → Prop} (g0 : Nat) (hd : 13 ≤ d) (hJ : J m0 B m) (hB : B + 0 ≤ 1000000000) (hQ : ∀ (v : Int), (True) → Q (some (zl v)) m) : X (EE s) d 231 0 [(0, zr g0 44)] [] m Q := by
  refine X.lconst (y := 0) 1 i231_0 rfl rfl rfl ?_
  refine X.lstore_n 2 [(0, zr g0 44), (1, zl 0)] i231_1 rfl rfl rfl ?_
  refine X.iconst 3 i231_2 rfl rfl (by decide) ?_
  refine X.istore_n 4 [(0, zr g0 44), (1, zl 0), (3, zi 0)] i231_3 rfl rfl rfl ?_
  refine l231_4_1 (s := s) (m0 := m0) (m := m) (B := B) (d := d) g0  (by omega) (hJ.up (by omega)) (by omega) (fun y501 hby501 => ?_) ((5 - 0 : Int).toNat + 1) 0 0 (by omega) (by omega)
  refine X.lload_n 30 i231_29 rfl rfl rfl ?_
  refine X.retl i231_30 rfl t231 ?_
  exact hQ y501 (by first | trivial | omega) 
theorem l233_3_1 {s : Nat × (Nat → Int32)} {m0 : zM} {d : Nat} {Q : Option zV → zM → Prop} (g0 : Nat) (T9 : Nat → Int) (BE : Int) (hE : BE ≤ 1000000000) (hd : 13 ≤ d)
    (K22 : ∀ (m' : zM) (B' : Int), J m0 B' m' → B' ≤ BE → (∀ g, m' g 8 9 = T9 g) → X (EE s) d 233 22 [(0, zr g0 44)] [] m' Q) :
    ∀ (n : Nat) (y1 : Int) (m : zM) (B : Int), J m0 B m → B + 0 * (n : Int) ≤ BE → (∀ g, m g 8 9 = T9 g) → (22 ≤ y1 ∧ y1 ≤ 28) → 28 - y1 < (n : Int) → X (EE s) d 233 3 [(0, zr g0 44), (1, zi y1)] [] m Q := by
  intro n
  induction n with
  | zero =>
    intro y1 m B hJ hB hT hy1 hn
    exfalso
    omega
  | succ n ih =>
    intro y1 m B hJ hB hT hy1 hn
    refine X.iload_n 4 i233_3 rfl rfl rfl ?_
    refine X.bipush 6 i233_4 rfl rfl (by decide) ?_
    refine X.icmpgt 22 9 i233_6 rfl rfl rfl (fun h504 => ?_) (fun h504 => ?_)
    · refine X.cut [(0, zr g0 44)] i233_22 rfl ?_
      exact K22  m (B) (hJ.up (by omega)) (by omega) (fun g => by simp only [hT]) 
    · refine X.aload_n 10 i233_9 rfl rfl rfl ?_
      refine X.getF 13 i233_10 rfl rfl (by decide) rfl rfl ?_
      refine X.iload_n 14 i233_13 rfl rfl rfl ?_
      refine X.lconst (y := 0) 15 i233_14 rfl rfl rfl ?_
      refine X.last' 16 i233_15 rfl rfl (by decide) rfl (by omega) (fun hrm505 m505 hm505 => ?_)
      have hJ506 := w45_19 hJ hm505 (by omega) hrm505
      have km505 : ∀ g, m505 g 8 9 = m g 8 9 := fun g9 => by rw [hm505]; exact z_upd_o _ _ rfl
      refine X.iinc 19 [(0, zr g0 44), (1, zi (y1 + 1))] i233_16 rfl rfl rfl (by omega) rfl ?_
      refine X.goto 3 i233_19 rfl rfl ?_
      exact ih (y1 + 1) m505 (B) (hJ506.up (by omega)) (by omega) (fun g => by simp only [km505, hT]) (by omega) (by omega)
-- WorkMeterModel.beginsBlock
theorem c233_1 {s : Nat × (Nat → Int32)} {m0 m : zM} {B : Int} {d : Nat} {Q : Option zV → zM → Prop} (g0 : Nat) (hd : 13 ≤ d) (hJ : J m0 B m) (hB : B + 0 ≤ 1000000000) (hQ : ∀ m', J m0 (B) m' → (∀ g, m' g 8 9 = m g 8 9) → Q none m') : X (EE s) d 233 0 [(0, zr g0 44)] [] m Q := by
  refine X.bipush 2 i233_0 rfl rfl (by decide) ?_
  refine X.istore_n 3 [(0, zr g0 44), (1, zi 22)] i233_2 rfl rfl rfl ?_
  refine l233_3_1 (s := s) (m0 := m0) (d := d) g0  (fun g => m g 8 9) (BE := B + 0) (by omega) (by omega) (fun  m501 B502 hJ503 hBB502 hkm501 => ?_) ((28 - 22 : Int).toNat + 1) 22 m (B) (hJ.up (by omega)) (by omega) (fun g => rfl) (by omega) (by omega)
  refine X.aload_n 23 i233_22 rfl rfl rfl ?_
  refine X.getF 26 i233_23 rfl rfl (by decide) rfl rfl ?_
  refine X.bipush 28 i233_26 rfl rfl (by decide) ?_
  refine X.aload_n 29 i233_28 rfl rfl rfl ?_
  refine X.getF 32 i233_29 rfl rfl (by decide) rfl rfl ?_
  refine X.iconst 33 i233_32 rfl rfl (by decide) ?_
  refine X.lald 34 i233_33 rfl rfl (by decide) rfl (by omega) ?_
  have h504 := r45_0 hJ503 4
  refine X.aload_n 35 i233_34 rfl rfl rfl ?_
  refine X.getF 38 i233_35 rfl rfl (by decide) rfl rfl ?_
  refine X.bipush 40 i233_38 rfl rfl (by decide) ?_
  refine X.lald 41 i233_40 rfl rfl (by decide) rfl (by omega) ?_
  have h505 := r45_8 hJ503 4
  refine X.lremp 42 i233_41 rfl rfl (by omega) ?_
  have hz506 := z_modb (x := (m501 4 45 0)) (y := (m501 4 45 8)) (by omega) (by omega)
  obtain ⟨z506, ez506⟩ : ∃ z, z = ((m501 4 45 0) % (m501 4 45 8)) := ⟨_, rfl⟩
  rw [← ez506] at hz506 ⊢
  clear ez506
  refine X.lconst (y := 0) 43 i233_42 rfl rfl rfl ?_
  refine X.lcmp 44 i233_43 rfl rfl (fun z507 hz507 => ?_)
  refine X.ifne 51 47 i233_44 rfl rfl rfl (fun h508 => ?_) (fun h508 => ?_)
  · have h508c : z506 ≠ 0 := by omega
    clear h508 hz507
    refine X.cut [] i233_51 rfl ?_
    refine X.lconst (y := 1) 52 i233_51 rfl rfl rfl ?_
    refine X.last' 53 i233_52 rfl rfl (by decide) rfl (by omega) (fun hrm509 m509 hm509 => ?_)
    have hJ510 := w45_19 hJ503 hm509 (by omega) hrm509
    have km509 : ∀ g, m509 g 8 9 = m501 g 8 9 := fun g9 => by rw [hm509]; exact z_upd_o _ _ rfl
    refine X.retv i233_53 rfl t233 ?_
    exact hQ  m509  (hJ510.up (by omega)) (fun g => by simp only [hkm501, km509]) 
  · have h508c : z506 = 0 := by omega
    clear h508 hz507
    refine X.lconst (y := 0) 48 i233_47 rfl rfl rfl ?_
    refine X.goto 52 i233_48 rfl rfl ?_
    refine X.cut [] i233_52 rfl ?_
    refine X.last' 53 i233_52 rfl rfl (by decide) rfl (by omega) (fun hrm511 m511 hm511 => ?_)
    have hJ512 := w45_19 hJ503 hm511 (by omega) hrm511
    have km511 : ∀ g, m511 g 8 9 = m501 g 8 9 := fun g9 => by rw [hm511]; exact z_upd_o _ _ rfl
    refine X.retv i233_53 rfl t233 ?_
    exact hQ  m511  (hJ512.up (by omega)) (fun g => by simp only [hkm501, km511]) 
theorem l236_24_1 {s : Nat × (Nat → Int32)} {m0 m : zM} {B : Int} {d : Nat} {Q : Option zV → zM → Prop} (g0 : Nat) (y1 : Int) (hd : 13 ≤ d) (hJ : J m0 B m) (hB9 : B ≤ 1000000000) (hy1 : 64 ≤ y1 ∧ y1 ≤ 64)
    (K95 : X (EE s) d 236 95 [] [] m Q)
    (K112 : ∀ (x2 : Int) , (True) → X (EE s) d 236 112 [(0, zr g0 44), (2, zl x2)] [] m Q) :
    ∀ (n : Nat) (y2 y4 : Int) , (0 ≤ y4 ∧ y4 ≤ 6) → 6 - y4 < (n : Int) → X (EE s) d 236 24 [(0, zr g0 44), (1, zi y1), (2, zl y2), (4, zi y4)] [] m Q := by
  intro n
  induction n with
  | zero =>
    intro y2 y4 hy4 hn
    exfalso
    omega
  | succ n ih =>
    intro y2 y4 hy4 hn
    refine X.iload 26 i236_24 rfl rfl rfl ?_
    refine X.i2l 27 i236_26 rfl rfl ?_
    refine X.aload_n 28 i236_27 rfl rfl rfl ?_
    refine X.getF 31 i236_28 rfl rfl (by decide) rfl rfl ?_
    refine X.bipush 33 i236_31 rfl rfl (by decide) ?_
    refine X.lald 34 i236_33 rfl rfl (by decide) rfl (by omega) ?_
    have h529 := r45_9 hJ 4
    refine X.lcmp 35 i236_34 rfl rfl (fun z530 hz530 => ?_)
    refine X.ifge 112 38 i236_35 rfl rfl rfl (fun h531 => ?_) (fun h531 => ?_)
    · have h531c : y4 ≥ (m 4 45 9) := by omega
      clear h531 hz530
      refine X.cut [(0, zr g0 44), (2, zl y2)] i236_112 rfl ?_
      exact K112 y2 (by first | trivial | omega)
    · have h531c : y4 < (m 4 45 9) := by omega
      clear h531 hz530
      refine X.iload_n 39 i236_38 rfl rfl rfl ?_
      refine X.iconst 40 i236_39 rfl rfl (by decide) ?_
      refine X.isub 41 i236_40 rfl rfl (by omega) ?_
      refine X.iload 43 i236_41 rfl rfl rfl ?_
      refine X.isub 44 i236_43 rfl rfl (by omega) ?_
      refine X.istore 46 [(0, zr g0 44), (1, zi y1), (2, zl y2), (4, zi y4), (5, zi ((y1 - 1) - y4))] i236_44 rfl rfl rfl ?_
      refine X.aload_n 47 i236_46 rfl rfl rfl ?_
      refine X.iload 49 i236_47 rfl rfl rfl ?_
      refine X.iconst 50 i236_49 rfl rfl (by decide) ?_
      refine X.callv 53 [zi ((y1 - 1) - y4), zi 5] [] [(0, zr g0 44), (1, zi ((y1 - 1) - y4)), (2, zi 5)] i236_50 rfl (by decide) rfl rfl (by omega) rfl rfl (by decide) rfl t234 (Nat.le_of_ble_eq_true rfl) (Nat.le_of_ble_eq_true rfl) rfl ?_
      refine X.aload_n 1 i234_0 rfl rfl rfl ?_
      refine X.getF 4 i234_1 rfl rfl (by decide) rfl rfl ?_
      refine X.sipush 7 i234_4 rfl rfl (by decide) ?_
      refine X.bipush 9 i234_7 rfl rfl (by decide) ?_
      refine X.iload_n 10 i234_9 rfl rfl rfl ?_
      refine X.imul 11 i234_10 rfl rfl (by omega) ?_
      refine X.iadd 12 i234_11 rfl rfl (by omega) ?_
      refine X.iload_n 13 i234_12 rfl rfl rfl ?_
      refine X.iadd 14 i234_13 rfl rfl (by omega) ?_
      refine X.lald 15 i234_14 rfl rfl (by decide) rfl (by omega) ?_
      refine X.retl i234_15 rfl t234 ?_
      show X (EE s) d 236 53 [(0, zr g0 44), (1, zi y1), (2, zl y2), (4, zi y4), (5, zi ((y1 - 1) - y4))] [zl (m 4 45 ((788 + (6 * ((y1 - 1) - y4))) + 5))] m _
      refine X.ldc2 56 i236_53 rfl rfl (by decide) ?_
      refine X.llF 57 .land (fun x y => x &&& y) i236_56 rfl rfl rfl (fun _ _ => rfl) (fun z532 hz532 => ?_)
      refine X.lconst (y := 0) 58 i236_57 rfl rfl rfl ?_
      refine X.lcmp 59 i236_58 rfl rfl (fun z533 hz533 => ?_)
      refine X.ifne 95 62 i236_59 rfl rfl rfl (fun h534 => ?_) (fun h534 => ?_)
      · have h534c : z532 ≠ 0 := by omega
        clear h534 hz533
        refine X.cut [] i236_95 rfl ?_
        exact K95  
      · have h534c : z532 = 0 := by omega
        clear h534 hz533
        refine X.iload 64 i236_62 rfl rfl rfl ?_
        refine X.ifle 96 67 i236_64 rfl rfl rfl (fun h535 => ?_) (fun h535 => ?_)
        · refine X.lload_n 97 i236_96 rfl rfl rfl ?_
          refine X.aload_n 98 i236_97 rfl rfl rfl ?_
          refine X.iload 100 i236_98 rfl rfl rfl ?_
          refine X.iconst 101 i236_100 rfl rfl (by decide) ?_
          refine X.callv 104 [zi ((y1 - 1) - y4), zi 1] [zl y2] [(0, zr g0 44), (1, zi ((y1 - 1) - y4)), (2, zi 1)] i236_101 rfl (by decide) rfl rfl (by omega) rfl rfl (by decide) rfl t234 (Nat.le_of_ble_eq_true rfl) (Nat.le_of_ble_eq_true rfl) rfl ?_
          refine X.aload_n 1 i234_0 rfl rfl rfl ?_
          refine X.getF 4 i234_1 rfl rfl (by decide) rfl rfl ?_
          refine X.sipush 7 i234_4 rfl rfl (by decide) ?_
          refine X.bipush 9 i234_7 rfl rfl (by decide) ?_
          refine X.iload_n 10 i234_9 rfl rfl rfl ?_
          refine X.imul 11 i234_10 rfl rfl (by omega) ?_
          refine X.iadd 12 i234_11 rfl rfl (by omega) ?_
          refine X.iload_n 13 i234_12 rfl rfl rfl ?_
          refine X.iadd 14 i234_13 rfl rfl (by omega) ?_
          refine X.lald 15 i234_14 rfl rfl (by decide) rfl (by omega) ?_
          refine X.retl i234_15 rfl t234 ?_
          show X (EE s) d 236 104 [(0, zr g0 44), (1, zi y1), (2, zl y2), (4, zi y4), (5, zi ((y1 - 1) - y4))] [zl (m 4 45 ((788 + (6 * ((y1 - 1) - y4))) + 1)), zl y2] m _
          refine X.llF 105 .ladd (fun x y => x + y) i236_104 rfl rfl rfl (fun _ _ => rfl) (fun z536 hz536 => ?_)
          refine X.lstore_n 106 [(0, zr g0 44), (1, zi y1), (2, zl z536), (4, zi y4), (5, zi ((y1 - 1) - y4))] i236_105 rfl rfl rfl ?_
          refine X.iinc 109 [(0, zr g0 44), (1, zi y1), (2, zl z536), (4, zi (y4 + 1)), (5, zi ((y1 - 1) - y4))] i236_106 rfl rfl rfl (by omega) rfl ?_
          refine X.goto 24 i236_109 rfl rfl ?_
          refine X.cut [(0, zr g0 44), (1, zi y1), (2, zl z536), (4, zi (y4 + 1))] i236_24 rfl ?_
          exact ih z536 (y4 + 1) (by omega) (by omega)
        · refine X.aload_n 68 i236_67 rfl rfl rfl ?_
          refine X.iload 70 i236_68 rfl rfl rfl ?_
          refine X.iconst 71 i236_70 rfl rfl (by decide) ?_
          refine X.iadd 72 i236_71 rfl rfl (by omega) ?_
          refine X.iconst 73 i236_72 rfl rfl (by decide) ?_
          refine X.callv 76 [zi (((y1 - 1) - y4) + 1), zi 0] [] [(0, zr g0 44), (1, zi (((y1 - 1) - y4) + 1)), (2, zi 0)] i236_73 rfl (by decide) rfl rfl (by omega) rfl rfl (by decide) rfl t234 (Nat.le_of_ble_eq_true rfl) (Nat.le_of_ble_eq_true rfl) rfl ?_
          refine X.aload_n 1 i234_0 rfl rfl rfl ?_
          refine X.getF 4 i234_1 rfl rfl (by decide) rfl rfl ?_
          refine X.sipush 7 i234_4 rfl rfl (by decide) ?_
          refine X.bipush 9 i234_7 rfl rfl (by decide) ?_
          refine X.iload_n 10 i234_9 rfl rfl rfl ?_
          refine X.imul 11 i234_10 rfl rfl (by omega) ?_
          refine X.iadd 12 i234_11 rfl rfl (by omega) ?_
          refine X.iload_n 13 i234_12 rfl rfl rfl ?_
          refine X.iadd 14 i234_13 rfl rfl (by omega) ?_
          refine X.lald 15 i234_14 rfl rfl (by decide) rfl (by omega) ?_
          refine X.retl i234_15 rfl t234 ?_
          show X (EE s) d 236 76 [(0, zr g0 44), (1, zi y1), (2, zl y2), (4, zi y4), (5, zi ((y1 - 1) - y4))] [zl (m 4 45 ((788 + (6 * (((y1 - 1) - y4) + 1))) + 0))] m _
          refine X.aload_n 77 i236_76 rfl rfl rfl ?_
          refine X.getF 80 i236_77 rfl rfl (by decide) rfl rfl ?_
          refine X.bipush 82 i236_80 rfl rfl (by decide) ?_
          refine X.lald 83 i236_82 rfl rfl (by decide) rfl (by omega) ?_
          have h537 := r45_8 hJ 4
          refine X.llF 84 .lsub (fun x y => x - y) i236_83 rfl rfl rfl (fun _ _ => rfl) (fun z538 hz538 => ?_)
          refine X.aload_n 85 i236_84 rfl rfl rfl ?_
          refine X.iload 87 i236_85 rfl rfl rfl ?_
          refine X.iconst 88 i236_87 rfl rfl (by decide) ?_
          refine X.callv 91 [zi ((y1 - 1) - y4), zi 0] [zl z538] [(0, zr g0 44), (1, zi ((y1 - 1) - y4)), (2, zi 0)] i236_88 rfl (by decide) rfl rfl (by omega) rfl rfl (by decide) rfl t234 (Nat.le_of_ble_eq_true rfl) (Nat.le_of_ble_eq_true rfl) rfl ?_
          refine X.aload_n 1 i234_0 rfl rfl rfl ?_
          refine X.getF 4 i234_1 rfl rfl (by decide) rfl rfl ?_
          refine X.sipush 7 i234_4 rfl rfl (by decide) ?_
          refine X.bipush 9 i234_7 rfl rfl (by decide) ?_
          refine X.iload_n 10 i234_9 rfl rfl rfl ?_
          refine X.imul 11 i234_10 rfl rfl (by omega) ?_
          refine X.iadd 12 i234_11 rfl rfl (by omega) ?_
          refine X.iload_n 13 i234_12 rfl rfl rfl ?_
          refine X.iadd 14 i234_13 rfl rfl (by omega) ?_
          refine X.lald 15 i234_14 rfl rfl (by decide) rfl (by omega) ?_
          refine X.retl i234_15 rfl t234 ?_
          show X (EE s) d 236 91 [(0, zr g0 44), (1, zi y1), (2, zl y2), (4, zi y4), (5, zi ((y1 - 1) - y4))] [zl (m 4 45 ((788 + (6 * ((y1 - 1) - y4))) + 0)), zl z538] m _
          refine X.lcmp 92 i236_91 rfl rfl (fun z539 hz539 => ?_)
          refine X.ifeq 96 95 i236_92 rfl rfl rfl (fun h540 => ?_) (fun h540 => ?_)
          · have h540c : z538 = (m 4 45 ((788 + (6 * ((y1 - 1) - y4))) + 0)) := by omega
            clear h540 hz539
            refine X.lload_n 97 i236_96 rfl rfl rfl ?_
            refine X.aload_n 98 i236_97 rfl rfl rfl ?_
            refine X.iload 100 i236_98 rfl rfl rfl ?_
            refine X.iconst 101 i236_100 rfl rfl (by decide) ?_
            refine X.callv 104 [zi ((y1 - 1) - y4), zi 1] [zl y2] [(0, zr g0 44), (1, zi ((y1 - 1) - y4)), (2, zi 1)] i236_101 rfl (by decide) rfl rfl (by omega) rfl rfl (by decide) rfl t234 (Nat.le_of_ble_eq_true rfl) (Nat.le_of_ble_eq_true rfl) rfl ?_
            refine X.aload_n 1 i234_0 rfl rfl rfl ?_
            refine X.getF 4 i234_1 rfl rfl (by decide) rfl rfl ?_
            refine X.sipush 7 i234_4 rfl rfl (by decide) ?_
            refine X.bipush 9 i234_7 rfl rfl (by decide) ?_
            refine X.iload_n 10 i234_9 rfl rfl rfl ?_
            refine X.imul 11 i234_10 rfl rfl (by omega) ?_
            refine X.iadd 12 i234_11 rfl rfl (by omega) ?_
            refine X.iload_n 13 i234_12 rfl rfl rfl ?_
            refine X.iadd 14 i234_13 rfl rfl (by omega) ?_
            refine X.lald 15 i234_14 rfl rfl (by decide) rfl (by omega) ?_
            refine X.retl i234_15 rfl t234 ?_
            show X (EE s) d 236 104 [(0, zr g0 44), (1, zi y1), (2, zl y2), (4, zi y4), (5, zi ((y1 - 1) - y4))] [zl (m 4 45 ((788 + (6 * ((y1 - 1) - y4))) + 1)), zl y2] m _
            refine X.llF 105 .ladd (fun x y => x + y) i236_104 rfl rfl rfl (fun _ _ => rfl) (fun z541 hz541 => ?_)
            refine X.lstore_n 106 [(0, zr g0 44), (1, zi y1), (2, zl z541), (4, zi y4), (5, zi ((y1 - 1) - y4))] i236_105 rfl rfl rfl ?_
            refine X.iinc 109 [(0, zr g0 44), (1, zi y1), (2, zl z541), (4, zi (y4 + 1)), (5, zi ((y1 - 1) - y4))] i236_106 rfl rfl rfl (by omega) rfl ?_
            refine X.goto 24 i236_109 rfl rfl ?_
            refine X.cut [(0, zr g0 44), (1, zi y1), (2, zl z541), (4, zi (y4 + 1))] i236_24 rfl ?_
            exact ih z541 (y4 + 1) (by omega) (by omega)
          · have h540c : z538 ≠ (m 4 45 ((788 + (6 * ((y1 - 1) - y4))) + 0)) := by omega
            clear h540 hz539
            refine X.cut [] i236_95 rfl ?_
            exact K95  
theorem l236_24_2 {s : Nat × (Nat → Int32)} {m0 m : zM} {B : Int} {d : Nat} {Q : Option zV → zM → Prop} (g0 : Nat) (y1 : Int) (hd : 13 ≤ d) (hJ : J m0 B m) (hB9 : B ≤ 1000000000) (hy1 : 1 ≤ y1 ∧ y1 ≤ 63)
    (K95 : X (EE s) d 236 95 [] [] m Q)
    (K112 : ∀ (x2 : Int) , (True) → X (EE s) d 236 112 [(0, zr g0 44), (2, zl x2)] [] m Q) :
    ∀ (n : Nat) (y2 y4 : Int) , (0 ≤ y4 ∧ y4 ≤ 6) → 6 - y4 < (n : Int) → X (EE s) d 236 24 [(0, zr g0 44), (1, zi y1), (2, zl y2), (4, zi y4)] [] m Q := by
  intro n
  induction n with
  | zero =>
    intro y2 y4 hy4 hn
    exfalso
    omega
  | succ n ih =>
    intro y2 y4 hy4 hn
    refine X.iload 26 i236_24 rfl rfl rfl ?_
    refine X.i2l 27 i236_26 rfl rfl ?_
    refine X.aload_n 28 i236_27 rfl rfl rfl ?_
    refine X.getF 31 i236_28 rfl rfl (by decide) rfl rfl ?_
    refine X.bipush 33 i236_31 rfl rfl (by decide) ?_
    refine X.lald 34 i236_33 rfl rfl (by decide) rfl (by omega) ?_
    have h529 := r45_9 hJ 4
    refine X.lcmp 35 i236_34 rfl rfl (fun z530 hz530 => ?_)
    refine X.ifge 112 38 i236_35 rfl rfl rfl (fun h531 => ?_) (fun h531 => ?_)
    · have h531c : y4 ≥ (m 4 45 9) := by omega
      clear h531 hz530
      refine X.cut [(0, zr g0 44), (2, zl y2)] i236_112 rfl ?_
      exact K112 y2 (by first | trivial | omega)
    · have h531c : y4 < (m 4 45 9) := by omega
      clear h531 hz530
      refine X.iload_n 39 i236_38 rfl rfl rfl ?_
      refine X.iconst 40 i236_39 rfl rfl (by decide) ?_
      refine X.isub 41 i236_40 rfl rfl (by omega) ?_
      refine X.iload 43 i236_41 rfl rfl rfl ?_
      refine X.isub 44 i236_43 rfl rfl (by omega) ?_
      refine X.istore 46 [(0, zr g0 44), (1, zi y1), (2, zl y2), (4, zi y4), (5, zi ((y1 - 1) - y4))] i236_44 rfl rfl rfl ?_
      refine X.aload_n 47 i236_46 rfl rfl rfl ?_
      refine X.iload 49 i236_47 rfl rfl rfl ?_
      refine X.iconst 50 i236_49 rfl rfl (by decide) ?_
      refine X.callv 53 [zi ((y1 - 1) - y4), zi 5] [] [(0, zr g0 44), (1, zi ((y1 - 1) - y4)), (2, zi 5)] i236_50 rfl (by decide) rfl rfl (by omega) rfl rfl (by decide) rfl t234 (Nat.le_of_ble_eq_true rfl) (Nat.le_of_ble_eq_true rfl) rfl ?_
      refine X.aload_n 1 i234_0 rfl rfl rfl ?_
      refine X.getF 4 i234_1 rfl rfl (by decide) rfl rfl ?_
      refine X.sipush 7 i234_4 rfl rfl (by decide) ?_
      refine X.bipush 9 i234_7 rfl rfl (by decide) ?_
      refine X.iload_n 10 i234_9 rfl rfl rfl ?_
      refine X.imul 11 i234_10 rfl rfl (by omega) ?_
      refine X.iadd 12 i234_11 rfl rfl (by omega) ?_
      refine X.iload_n 13 i234_12 rfl rfl rfl ?_
      refine X.iadd 14 i234_13 rfl rfl (by omega) ?_
      refine X.lald 15 i234_14 rfl rfl (by decide) rfl (by omega) ?_
      refine X.retl i234_15 rfl t234 ?_
      show X (EE s) d 236 53 [(0, zr g0 44), (1, zi y1), (2, zl y2), (4, zi y4), (5, zi ((y1 - 1) - y4))] [zl (m 4 45 ((788 + (6 * ((y1 - 1) - y4))) + 5))] m _
      refine X.ldc2 56 i236_53 rfl rfl (by decide) ?_
      refine X.llF 57 .land (fun x y => x &&& y) i236_56 rfl rfl rfl (fun _ _ => rfl) (fun z532 hz532 => ?_)
      refine X.lconst (y := 0) 58 i236_57 rfl rfl rfl ?_
      refine X.lcmp 59 i236_58 rfl rfl (fun z533 hz533 => ?_)
      refine X.ifne 95 62 i236_59 rfl rfl rfl (fun h534 => ?_) (fun h534 => ?_)
      · have h534c : z532 ≠ 0 := by omega
        clear h534 hz533
        refine X.cut [] i236_95 rfl ?_
        exact K95  
      · have h534c : z532 = 0 := by omega
        clear h534 hz533
        refine X.iload 64 i236_62 rfl rfl rfl ?_
        refine X.ifle 96 67 i236_64 rfl rfl rfl (fun h535 => ?_) (fun h535 => ?_)
        · refine X.lload_n 97 i236_96 rfl rfl rfl ?_
          refine X.aload_n 98 i236_97 rfl rfl rfl ?_
          refine X.iload 100 i236_98 rfl rfl rfl ?_
          refine X.iconst 101 i236_100 rfl rfl (by decide) ?_
          refine X.callv 104 [zi ((y1 - 1) - y4), zi 1] [zl y2] [(0, zr g0 44), (1, zi ((y1 - 1) - y4)), (2, zi 1)] i236_101 rfl (by decide) rfl rfl (by omega) rfl rfl (by decide) rfl t234 (Nat.le_of_ble_eq_true rfl) (Nat.le_of_ble_eq_true rfl) rfl ?_
          refine X.aload_n 1 i234_0 rfl rfl rfl ?_
          refine X.getF 4 i234_1 rfl rfl (by decide) rfl rfl ?_
          refine X.sipush 7 i234_4 rfl rfl (by decide) ?_
          refine X.bipush 9 i234_7 rfl rfl (by decide) ?_
          refine X.iload_n 10 i234_9 rfl rfl rfl ?_
          refine X.imul 11 i234_10 rfl rfl (by omega) ?_
          refine X.iadd 12 i234_11 rfl rfl (by omega) ?_
          refine X.iload_n 13 i234_12 rfl rfl rfl ?_
          refine X.iadd 14 i234_13 rfl rfl (by omega) ?_
          refine X.lald 15 i234_14 rfl rfl (by decide) rfl (by omega) ?_
          refine X.retl i234_15 rfl t234 ?_
          show X (EE s) d 236 104 [(0, zr g0 44), (1, zi y1), (2, zl y2), (4, zi y4), (5, zi ((y1 - 1) - y4))] [zl (m 4 45 ((788 + (6 * ((y1 - 1) - y4))) + 1)), zl y2] m _
          refine X.llF 105 .ladd (fun x y => x + y) i236_104 rfl rfl rfl (fun _ _ => rfl) (fun z536 hz536 => ?_)
          refine X.lstore_n 106 [(0, zr g0 44), (1, zi y1), (2, zl z536), (4, zi y4), (5, zi ((y1 - 1) - y4))] i236_105 rfl rfl rfl ?_
          refine X.iinc 109 [(0, zr g0 44), (1, zi y1), (2, zl z536), (4, zi (y4 + 1)), (5, zi ((y1 - 1) - y4))] i236_106 rfl rfl rfl (by omega) rfl ?_
          refine X.goto 24 i236_109 rfl rfl ?_
          refine X.cut [(0, zr g0 44), (1, zi y1), (2, zl z536), (4, zi (y4 + 1))] i236_24 rfl ?_
          exact ih z536 (y4 + 1) (by omega) (by omega)
        · refine X.aload_n 68 i236_67 rfl rfl rfl ?_
          refine X.iload 70 i236_68 rfl rfl rfl ?_
          refine X.iconst 71 i236_70 rfl rfl (by decide) ?_
          refine X.iadd 72 i236_71 rfl rfl (by omega) ?_
          refine X.iconst 73 i236_72 rfl rfl (by decide) ?_
          refine X.callv 76 [zi (((y1 - 1) - y4) + 1), zi 0] [] [(0, zr g0 44), (1, zi (((y1 - 1) - y4) + 1)), (2, zi 0)] i236_73 rfl (by decide) rfl rfl (by omega) rfl rfl (by decide) rfl t234 (Nat.le_of_ble_eq_true rfl) (Nat.le_of_ble_eq_true rfl) rfl ?_
          refine X.aload_n 1 i234_0 rfl rfl rfl ?_
          refine X.getF 4 i234_1 rfl rfl (by decide) rfl rfl ?_
          refine X.sipush 7 i234_4 rfl rfl (by decide) ?_
          refine X.bipush 9 i234_7 rfl rfl (by decide) ?_
          refine X.iload_n 10 i234_9 rfl rfl rfl ?_
          refine X.imul 11 i234_10 rfl rfl (by omega) ?_
          refine X.iadd 12 i234_11 rfl rfl (by omega) ?_
          refine X.iload_n 13 i234_12 rfl rfl rfl ?_
          refine X.iadd 14 i234_13 rfl rfl (by omega) ?_
          refine X.lald 15 i234_14 rfl rfl (by decide) rfl (by omega) ?_
          refine X.retl i234_15 rfl t234 ?_
          show X (EE s) d 236 76 [(0, zr g0 44), (1, zi y1), (2, zl y2), (4, zi y4), (5, zi ((y1 - 1) - y4))] [zl (m 4 45 ((788 + (6 * (((y1 - 1) - y4) + 1))) + 0))] m _
          refine X.aload_n 77 i236_76 rfl rfl rfl ?_
          refine X.getF 80 i236_77 rfl rfl (by decide) rfl rfl ?_
          refine X.bipush 82 i236_80 rfl rfl (by decide) ?_
          refine X.lald 83 i236_82 rfl rfl (by decide) rfl (by omega) ?_
          have h537 := r45_8 hJ 4
          refine X.llF 84 .lsub (fun x y => x - y) i236_83 rfl rfl rfl (fun _ _ => rfl) (fun z538 hz538 => ?_)
          refine X.aload_n 85 i236_84 rfl rfl rfl ?_
          refine X.iload 87 i236_85 rfl rfl rfl ?_
          refine X.iconst 88 i236_87 rfl rfl (by decide) ?_
          refine X.callv 91 [zi ((y1 - 1) - y4), zi 0] [zl z538] [(0, zr g0 44), (1, zi ((y1 - 1) - y4)), (2, zi 0)] i236_88 rfl (by decide) rfl rfl (by omega) rfl rfl (by decide) rfl t234 (Nat.le_of_ble_eq_true rfl) (Nat.le_of_ble_eq_true rfl) rfl ?_
          refine X.aload_n 1 i234_0 rfl rfl rfl ?_
          refine X.getF 4 i234_1 rfl rfl (by decide) rfl rfl ?_
          refine X.sipush 7 i234_4 rfl rfl (by decide) ?_
          refine X.bipush 9 i234_7 rfl rfl (by decide) ?_
          refine X.iload_n 10 i234_9 rfl rfl rfl ?_
          refine X.imul 11 i234_10 rfl rfl (by omega) ?_
          refine X.iadd 12 i234_11 rfl rfl (by omega) ?_
          refine X.iload_n 13 i234_12 rfl rfl rfl ?_
          refine X.iadd 14 i234_13 rfl rfl (by omega) ?_
          refine X.lald 15 i234_14 rfl rfl (by decide) rfl (by omega) ?_
          refine X.retl i234_15 rfl t234 ?_
          show X (EE s) d 236 91 [(0, zr g0 44), (1, zi y1), (2, zl y2), (4, zi y4), (5, zi ((y1 - 1) - y4))] [zl (m 4 45 ((788 + (6 * ((y1 - 1) - y4))) + 0)), zl z538] m _
          refine X.lcmp 92 i236_91 rfl rfl (fun z539 hz539 => ?_)
          refine X.ifeq 96 95 i236_92 rfl rfl rfl (fun h540 => ?_) (fun h540 => ?_)
          · have h540c : z538 = (m 4 45 ((788 + (6 * ((y1 - 1) - y4))) + 0)) := by omega
            clear h540 hz539
            refine X.lload_n 97 i236_96 rfl rfl rfl ?_
            refine X.aload_n 98 i236_97 rfl rfl rfl ?_
            refine X.iload 100 i236_98 rfl rfl rfl ?_
            refine X.iconst 101 i236_100 rfl rfl (by decide) ?_
            refine X.callv 104 [zi ((y1 - 1) - y4), zi 1] [zl y2] [(0, zr g0 44), (1, zi ((y1 - 1) - y4)), (2, zi 1)] i236_101 rfl (by decide) rfl rfl (by omega) rfl rfl (by decide) rfl t234 (Nat.le_of_ble_eq_true rfl) (Nat.le_of_ble_eq_true rfl) rfl ?_
            refine X.aload_n 1 i234_0 rfl rfl rfl ?_
            refine X.getF 4 i234_1 rfl rfl (by decide) rfl rfl ?_
            refine X.sipush 7 i234_4 rfl rfl (by decide) ?_
            refine X.bipush 9 i234_7 rfl rfl (by decide) ?_
            refine X.iload_n 10 i234_9 rfl rfl rfl ?_
            refine X.imul 11 i234_10 rfl rfl (by omega) ?_
            refine X.iadd 12 i234_11 rfl rfl (by omega) ?_
            refine X.iload_n 13 i234_12 rfl rfl rfl ?_
            refine X.iadd 14 i234_13 rfl rfl (by omega) ?_
            refine X.lald 15 i234_14 rfl rfl (by decide) rfl (by omega) ?_
            refine X.retl i234_15 rfl t234 ?_
            show X (EE s) d 236 104 [(0, zr g0 44), (1, zi y1), (2, zl y2), (4, zi y4), (5, zi ((y1 - 1) - y4))] [zl (m 4 45 ((788 + (6 * ((y1 - 1) - y4))) + 1)), zl y2] m _
            refine X.llF 105 .ladd (fun x y => x + y) i236_104 rfl rfl rfl (fun _ _ => rfl) (fun z541 hz541 => ?_)
            refine X.lstore_n 106 [(0, zr g0 44), (1, zi y1), (2, zl z541), (4, zi y4), (5, zi ((y1 - 1) - y4))] i236_105 rfl rfl rfl ?_
            refine X.iinc 109 [(0, zr g0 44), (1, zi y1), (2, zl z541), (4, zi (y4 + 1)), (5, zi ((y1 - 1) - y4))] i236_106 rfl rfl rfl (by omega) rfl ?_
            refine X.goto 24 i236_109 rfl rfl ?_
            refine X.cut [(0, zr g0 44), (1, zi y1), (2, zl z541), (4, zi (y4 + 1))] i236_24 rfl ?_
            exact ih z541 (y4 + 1) (by omega) (by omega)
          · have h540c : z538 ≠ (m 4 45 ((788 + (6 * ((y1 - 1) - y4))) + 0)) := by omega
            clear h540 hz539
            refine X.cut [] i236_95 rfl ?_
            exact K95  
-- WorkMeterModel.demands
theorem c236_1 {s : Nat × (Nat → Int32)} {m0 m : zM} {B : Int} {d : Nat} {Q : Option zV → zM → Prop} (g0 : Nat) (hd : 16 ≤ d) (hJ : J m0 B m) (hB : B + 0 ≤ 1000000000) (hQ : ∀ m', J m0 (B) m' → (∀ g, m' g 8 9 = m g 8 9) → Q none m') : X (EE s) d 236 0 [(0, zr g0 44)] [] m Q := by
  refine X.aload_n 1 i236_0 rfl rfl rfl ?_
  refine X.callv 4 [] [] [(0, zr g0 44)] i236_1 rfl (by decide) rfl rfl (by omega) rfl rfl (by decide) rfl t235 (Nat.le_of_ble_eq_true rfl) (Nat.le_of_ble_eq_true rfl) rfl ?_
  refine X.aload_n 1 i235_0 rfl rfl rfl ?_
  refine X.getF 4 i235_1 rfl rfl (by decide) rfl rfl ?_
  refine X.bipush 6 i235_4 rfl rfl (by decide) ?_
  refine X.lald 7 i235_6 rfl rfl (by decide) rfl (by omega) ?_
  have h501 := r45_17 hJ 4
  refine X.ldc2 10 i235_7 rfl rfl (by decide) ?_
  refine X.lcmp 11 i235_10 rfl rfl (fun z502 hz502 => ?_)
  refine X.ifge 24 14 i235_11 rfl rfl rfl (fun h503 => ?_) (fun h503 => ?_)
  · have h503c : (m 4 45 17) ≥ 64 := by omega
    clear h503 hz502
    refine X.cut [] i235_24 rfl ?_
    refine X.ldc2 27 i235_24 rfl rfl (by decide) ?_
    refine X.l2i 28 i235_27 rfl rfl (by omega) ?_
    refine X.reti i235_28 rfl t235 ?_
    show X (EE s) d 236 4 [(0, zr g0 44)] [zi 64] m _
    refine X.istore_n 5 [(0, zr g0 44), (1, zi 64)] i236_4 rfl rfl rfl ?_
    refine X.iload_n 6 i236_5 rfl rfl rfl ?_
    refine X.i2l 7 i236_6 rfl rfl ?_
    refine X.aload_n 8 i236_7 rfl rfl rfl ?_
    refine X.getF 11 i236_8 rfl rfl (by decide) rfl rfl ?_
    refine X.bipush 13 i236_11 rfl rfl (by decide) ?_
    refine X.lald 14 i236_13 rfl rfl (by decide) rfl (by omega) ?_
    have h504 := r45_9 hJ 4
    refine X.lcmp 15 i236_14 rfl rfl (fun z505 hz505 => ?_)
    refine X.ifge 19 18 i236_15 rfl rfl rfl (fun h506 => ?_) (fun h506 => (by exfalso; omega))
    have h506c : 64 ≥ (m 4 45 9) := by omega
    clear h506 hz505
    refine X.lconst (y := 0) 20 i236_19 rfl rfl rfl ?_
    refine X.lstore_n 21 [(0, zr g0 44), (1, zi 64), (2, zl 0)] i236_20 rfl rfl rfl ?_
    refine X.iconst 22 i236_21 rfl rfl (by decide) ?_
    refine X.istore 24 [(0, zr g0 44), (1, zi 64), (2, zl 0), (4, zi 0)] i236_22 rfl rfl rfl ?_
    refine l236_24_1 (s := s) (m0 := m0) (m := m) (B := B) (d := d) g0 64 (by omega) (hJ.up (by omega)) (by omega) (by omega) ?_ (fun y510 hby510 => ?_) ((6 - 0 : Int).toNat + 1) 0 0 (by omega) (by omega)
    · refine X.retv i236_95 rfl t236 ?_
      exact hQ  m  (hJ.up (by omega)) (fun g => rfl) 
    · refine X.aload_n 113 i236_112 rfl rfl rfl ?_
      refine X.getF 116 i236_113 rfl rfl (by decide) rfl rfl ?_
      refine X.bipush 118 i236_116 rfl rfl (by decide) ?_
      refine X.lload_n 119 i236_118 rfl rfl rfl ?_
      refine X.last' 120 i236_119 rfl rfl (by decide) rfl (by omega) (fun hrm514 m514 hm514 => ?_)
      have hJ515 := w45_19 hJ hm514 (by omega) hrm514
      have km514 : ∀ g, m514 g 8 9 = m g 8 9 := fun g9 => by rw [hm514]; exact z_upd_o _ _ rfl
      refine X.aload_n 121 i236_120 rfl rfl rfl ?_
      refine X.getF 124 i236_121 rfl rfl (by decide) rfl rfl ?_
      refine X.bipush 126 i236_124 rfl rfl (by decide) ?_
      refine X.aload_n 127 i236_126 rfl rfl rfl ?_
      refine X.getF 130 i236_127 rfl rfl (by decide) rfl rfl ?_
      refine X.iconst 131 i236_130 rfl rfl (by decide) ?_
      refine X.lald 132 i236_131 rfl rfl (by decide) rfl (by omega) ?_
      have h516 := r45_0 hJ515 4
      refine X.last' 133 i236_132 rfl rfl (by decide) rfl (by omega) (fun hrm517 m517 hm517 => ?_)
      have hJ518 := w45_19 hJ515 hm517 (by omega) hrm517
      have km517 : ∀ g, m517 g 8 9 = m514 g 8 9 := fun g9 => by rw [hm517]; exact z_upd_o _ _ rfl
      refine X.aload_n 134 i236_133 rfl rfl rfl ?_
      refine X.aload_n 135 i236_134 rfl rfl rfl ?_
      refine X.getF 138 i236_135 rfl rfl (by decide) rfl rfl ?_
      refine X.iconst 139 i236_138 rfl rfl (by decide) ?_
      refine X.lald 140 i236_139 rfl rfl (by decide) rfl (by omega) ?_
      have h519 := r45_0 hJ518 4
      refine X.l2i 141 i236_140 rfl rfl (by omega) ?_
      refine X.iconst 142 i236_141 rfl rfl (by decide) ?_
      refine X.isub 143 i236_142 rfl rfl (by omega) ?_
      refine X.callv 146 [zi ((m517 4 45 0) - 1)] [] [(0, zr g0 44), (1, zi ((m517 4 45 0) - 1))] i236_143 rfl (by decide) rfl rfl (by omega) rfl rfl (by decide) rfl t217 (Nat.le_of_ble_eq_true rfl) (Nat.le_of_ble_eq_true rfl) rfl ?_
      refine c217_1 (B := B) g0 ((m517 4 45 0) - 1) (by omega) (hJ518.up (by omega)) (by omega) (by omega) (fun v522 hv522 => ?_)
      show X (EE s) d 236 146 [(0, zr g0 44), (2, zl y510)] [zi v522] m517 _
      refine X.istore 148 [(0, zr g0 44), (2, zl y510), (4, zi v522)] i236_146 rfl rfl rfl ?_
      refine X.lload_n 149 i236_148 rfl rfl rfl ?_
      refine X.aload_n 150 i236_149 rfl rfl rfl ?_
      refine X.getF 153 i236_150 rfl rfl (by decide) rfl rfl ?_
      refine X.bipush 155 i236_153 rfl rfl (by decide) ?_
      refine X.iload 157 i236_155 rfl rfl rfl ?_
      refine X.iadd 158 i236_157 rfl rfl (by omega) ?_
      refine X.lald 159 i236_158 rfl rfl (by decide) rfl (by omega) ?_
      refine X.lcmp 160 i236_159 rfl rfl (fun z523 hz523 => ?_)
      refine X.ifgt 164 163 i236_160 rfl rfl rfl (fun h524 => ?_) (fun h524 => ?_)
      · have h524c : y510 > (m517 4 45 (32 + v522)) := by omega
        clear h524 hz523
        refine X.aload_n 165 i236_164 rfl rfl rfl ?_
        refine X.getF 168 i236_165 rfl rfl (by decide) rfl rfl ?_
        refine X.bipush 170 i236_168 rfl rfl (by decide) ?_
        refine X.iload 172 i236_170 rfl rfl rfl ?_
        refine X.iadd 173 i236_172 rfl rfl (by omega) ?_
        refine X.lload_n 174 i236_173 rfl rfl rfl ?_
        refine X.last' 175 i236_174 rfl rfl (by decide) rfl (by omega) (fun hrm525 m525 hm525 => ?_)
        have hJ526 := w45_19 hJ518 hm525 (by omega) hrm525
        have km525 : ∀ g, m525 g 8 9 = m517 g 8 9 := fun g9 => by rw [hm525]; exact z_upd_o _ _ rfl
        refine X.aload_n 176 i236_175 rfl rfl rfl ?_
        refine X.getF 179 i236_176 rfl rfl (by decide) rfl rfl ?_
        refine X.bipush 181 i236_179 rfl rfl (by decide) ?_
        refine X.iload 183 i236_181 rfl rfl rfl ?_
        refine X.iadd 184 i236_183 rfl rfl (by omega) ?_
        refine X.aload_n 185 i236_184 rfl rfl rfl ?_
        refine X.getF 188 i236_185 rfl rfl (by decide) rfl rfl ?_
        refine X.iconst 189 i236_188 rfl rfl (by decide) ?_
        refine X.lald 190 i236_189 rfl rfl (by decide) rfl (by omega) ?_
        have h527 := r45_0 hJ526 4
        refine X.last' 191 i236_190 rfl rfl (by decide) rfl (by omega) (fun hrm528 m528 hm528 => ?_)
        have hJ529 := w45_19 hJ526 hm528 (by omega) hrm528
        have km528 : ∀ g, m528 g 8 9 = m525 g 8 9 := fun g9 => by rw [hm528]; exact z_upd_o _ _ rfl
        refine X.retv i236_191 rfl t236 ?_
        exact hQ  m528  (hJ529.up (by omega)) (fun g => by simp only [km514, km517, km525, km528]) 
      · have h524c : y510 ≤ (m517 4 45 (32 + v522)) := by omega
        clear h524 hz523
        refine X.retv i236_163 rfl t236 ?_
        exact hQ  m517  (hJ518.up (by omega)) (fun g => by simp only [km514, km517]) 
  · have h503c : (m 4 45 17) < 64 := by omega
    clear h503 hz502
    refine X.aload_n 15 i235_14 rfl rfl rfl ?_
    refine X.getF 18 i235_15 rfl rfl (by decide) rfl rfl ?_
    refine X.bipush 20 i235_18 rfl rfl (by decide) ?_
    refine X.lald 21 i235_20 rfl rfl (by decide) rfl (by omega) ?_
    refine X.goto 27 i235_21 rfl rfl ?_
    refine X.cut [] i235_27 rfl ?_
    refine X.l2i 28 i235_27 rfl rfl (by omega) ?_
    refine X.reti i235_28 rfl t235 ?_
    show X (EE s) d 236 4 [(0, zr g0 44)] [zi (m 4 45 17)] m _
    refine X.istore_n 5 [(0, zr g0 44), (1, zi (m 4 45 17))] i236_4 rfl rfl rfl ?_
    refine X.iload_n 6 i236_5 rfl rfl rfl ?_
    refine X.i2l 7 i236_6 rfl rfl ?_
    refine X.aload_n 8 i236_7 rfl rfl rfl ?_
    refine X.getF 11 i236_8 rfl rfl (by decide) rfl rfl ?_
    refine X.bipush 13 i236_11 rfl rfl (by decide) ?_
    refine X.lald 14 i236_13 rfl rfl (by decide) rfl (by omega) ?_
    have h530 := r45_9 hJ 4
    refine X.lcmp 15 i236_14 rfl rfl (fun z531 hz531 => ?_)
    refine X.ifge 19 18 i236_15 rfl rfl rfl (fun h532 => ?_) (fun h532 => ?_)
    · have h532c : (m 4 45 17) ≥ (m 4 45 9) := by omega
      clear h532 hz531
      refine X.lconst (y := 0) 20 i236_19 rfl rfl rfl ?_
      refine X.lstore_n 21 [(0, zr g0 44), (1, zi (m 4 45 17)), (2, zl 0)] i236_20 rfl rfl rfl ?_
      refine X.iconst 22 i236_21 rfl rfl (by decide) ?_
      refine X.istore 24 [(0, zr g0 44), (1, zi (m 4 45 17)), (2, zl 0), (4, zi 0)] i236_22 rfl rfl rfl ?_
      refine l236_24_2 (s := s) (m0 := m0) (m := m) (B := B) (d := d) g0 (m 4 45 17) (by omega) (hJ.up (by omega)) (by omega) (by omega) ?_ (fun y536 hby536 => ?_) ((6 - 0 : Int).toNat + 1) 0 0 (by omega) (by omega)
      · refine X.retv i236_95 rfl t236 ?_
        exact hQ  m  (hJ.up (by omega)) (fun g => rfl) 
      · refine X.aload_n 113 i236_112 rfl rfl rfl ?_
        refine X.getF 116 i236_113 rfl rfl (by decide) rfl rfl ?_
        refine X.bipush 118 i236_116 rfl rfl (by decide) ?_
        refine X.lload_n 119 i236_118 rfl rfl rfl ?_
        refine X.last' 120 i236_119 rfl rfl (by decide) rfl (by omega) (fun hrm540 m540 hm540 => ?_)
        have hJ541 := w45_19 hJ hm540 (by omega) hrm540
        have km540 : ∀ g, m540 g 8 9 = m g 8 9 := fun g9 => by rw [hm540]; exact z_upd_o _ _ rfl
        refine X.aload_n 121 i236_120 rfl rfl rfl ?_
        refine X.getF 124 i236_121 rfl rfl (by decide) rfl rfl ?_
        refine X.bipush 126 i236_124 rfl rfl (by decide) ?_
        refine X.aload_n 127 i236_126 rfl rfl rfl ?_
        refine X.getF 130 i236_127 rfl rfl (by decide) rfl rfl ?_
        refine X.iconst 131 i236_130 rfl rfl (by decide) ?_
        refine X.lald 132 i236_131 rfl rfl (by decide) rfl (by omega) ?_
        have h542 := r45_0 hJ541 4
        refine X.last' 133 i236_132 rfl rfl (by decide) rfl (by omega) (fun hrm543 m543 hm543 => ?_)
        have hJ544 := w45_19 hJ541 hm543 (by omega) hrm543
        have km543 : ∀ g, m543 g 8 9 = m540 g 8 9 := fun g9 => by rw [hm543]; exact z_upd_o _ _ rfl
        refine X.aload_n 134 i236_133 rfl rfl rfl ?_
        refine X.aload_n 135 i236_134 rfl rfl rfl ?_
        refine X.getF 138 i236_135 rfl rfl (by decide) rfl rfl ?_
        refine X.iconst 139 i236_138 rfl rfl (by decide) ?_
        refine X.lald 140 i236_139 rfl rfl (by decide) rfl (by omega) ?_
        have h545 := r45_0 hJ544 4
        refine X.l2i 141 i236_140 rfl rfl (by omega) ?_
        refine X.iconst 142 i236_141 rfl rfl (by decide) ?_
        refine X.isub 143 i236_142 rfl rfl (by omega) ?_
        refine X.callv 146 [zi ((m543 4 45 0) - 1)] [] [(0, zr g0 44), (1, zi ((m543 4 45 0) - 1))] i236_143 rfl (by decide) rfl rfl (by omega) rfl rfl (by decide) rfl t217 (Nat.le_of_ble_eq_true rfl) (Nat.le_of_ble_eq_true rfl) rfl ?_
        refine c217_1 (B := B) g0 ((m543 4 45 0) - 1) (by omega) (hJ544.up (by omega)) (by omega) (by omega) (fun v548 hv548 => ?_)
        show X (EE s) d 236 146 [(0, zr g0 44), (2, zl y536)] [zi v548] m543 _
        refine X.istore 148 [(0, zr g0 44), (2, zl y536), (4, zi v548)] i236_146 rfl rfl rfl ?_
        refine X.lload_n 149 i236_148 rfl rfl rfl ?_
        refine X.aload_n 150 i236_149 rfl rfl rfl ?_
        refine X.getF 153 i236_150 rfl rfl (by decide) rfl rfl ?_
        refine X.bipush 155 i236_153 rfl rfl (by decide) ?_
        refine X.iload 157 i236_155 rfl rfl rfl ?_
        refine X.iadd 158 i236_157 rfl rfl (by omega) ?_
        refine X.lald 159 i236_158 rfl rfl (by decide) rfl (by omega) ?_
        refine X.lcmp 160 i236_159 rfl rfl (fun z549 hz549 => ?_)
        refine X.ifgt 164 163 i236_160 rfl rfl rfl (fun h550 => ?_) (fun h550 => ?_)
        · have h550c : y536 > (m543 4 45 (32 + v548)) := by omega
          clear h550 hz549
          refine X.aload_n 165 i236_164 rfl rfl rfl ?_
          refine X.getF 168 i236_165 rfl rfl (by decide) rfl rfl ?_
          refine X.bipush 170 i236_168 rfl rfl (by decide) ?_
          refine X.iload 172 i236_170 rfl rfl rfl ?_
          refine X.iadd 173 i236_172 rfl rfl (by omega) ?_
          refine X.lload_n 174 i236_173 rfl rfl rfl ?_
          refine X.last' 175 i236_174 rfl rfl (by decide) rfl (by omega) (fun hrm551 m551 hm551 => ?_)
          have hJ552 := w45_19 hJ544 hm551 (by omega) hrm551
          have km551 : ∀ g, m551 g 8 9 = m543 g 8 9 := fun g9 => by rw [hm551]; exact z_upd_o _ _ rfl
          refine X.aload_n 176 i236_175 rfl rfl rfl ?_
          refine X.getF 179 i236_176 rfl rfl (by decide) rfl rfl ?_
          refine X.bipush 181 i236_179 rfl rfl (by decide) ?_
          refine X.iload 183 i236_181 rfl rfl rfl ?_
          refine X.iadd 184 i236_183 rfl rfl (by omega) ?_
          refine X.aload_n 185 i236_184 rfl rfl rfl ?_
          refine X.getF 188 i236_185 rfl rfl (by decide) rfl rfl ?_
          refine X.iconst 189 i236_188 rfl rfl (by decide) ?_
          refine X.lald 190 i236_189 rfl rfl (by decide) rfl (by omega) ?_
          have h553 := r45_0 hJ552 4
          refine X.last' 191 i236_190 rfl rfl (by decide) rfl (by omega) (fun hrm554 m554 hm554 => ?_)
          have hJ555 := w45_19 hJ552 hm554 (by omega) hrm554
          have km554 : ∀ g, m554 g 8 9 = m551 g 8 9 := fun g9 => by rw [hm554]; exact z_upd_o _ _ rfl
          refine X.retv i236_191 rfl t236 ?_
          exact hQ  m554  (hJ555.up (by omega)) (fun g => by simp only [km540, km543, km551, km554]) 
        · have h550c : y536 ≤ (m543 4 45 (32 + v548)) := by omega
          clear h550 hz549
          refine X.retv i236_163 rfl t236 ?_
          exact hQ  m543  (hJ544.up (by omega)) (fun g => by simp only [km540, km543]) 
    · have h532c : (m 4 45 17) < (m 4 45 9) := by omega
      clear h532 hz531
      refine X.retv i236_18 rfl t236 ?_
      exact hQ  m  (hJ.up (by omega)) (fun g => rfl) 
theorem l232_112_1 {s : Nat × (Nat → Int32)} {m0 : zM} {d : Nat} {Q : Option zV → zM → Prop} (g0 : Nat) (y1 y3 : Int) (T9 : Nat → Int) (BE : Int) (hE : BE ≤ 1000000000) (hd : 13 ≤ d) (hy1 : 0 ≤ y1 ∧ y1 ≤ 64)
    (K147 : ∀ (m' : zM) (B' : Int), J m0 B' m' → B' ≤ BE → (∀ g, m' g 8 9 = T9 g) → X (EE s) d 232 147 [(0, zr g0 44), (1, zl y1), (3, zl y3)] [] m' Q) :
    ∀ (n : Nat) (y5 : Int) (m : zM) (B : Int), J m0 B m → B + 0 * (n : Int) ≤ BE → (∀ g, m g 8 9 = T9 g) → (0 ≤ y5 ∧ y5 ≤ 4) → 4 - y5 < (n : Int) → X (EE s) d 232 112 [(0, zr g0 44), (1, zl y1), (3, zl y3), (5, zi y5)] [] m Q := by
  intro n
  induction n with
  | zero =>
    intro y5 m B hJ hB hT hy5 hn
    exfalso
    omega
  | succ n ih =>
    intro y5 m B hJ hB hT hy5 hn
    refine X.iload 114 i232_112 rfl rfl rfl ?_
    refine X.iconst 115 i232_114 rfl rfl (by decide) ?_
    refine X.icmpge 147 118 i232_115 rfl rfl rfl (fun h505 => ?_) (fun h505 => ?_)
    · refine X.cut [(0, zr g0 44), (1, zl y1), (3, zl y3)] i232_147 rfl ?_
      exact K147  m (B) (hJ.up (by omega)) (by omega) (fun g => by simp only [hT]) 
    · refine X.aload_n 119 i232_118 rfl rfl rfl ?_
      refine X.getF 122 i232_119 rfl rfl (by decide) rfl rfl ?_
      refine X.sipush 125 i232_122 rfl rfl (by decide) ?_
      refine X.iload 127 i232_125 rfl rfl rfl ?_
      refine X.iadd 128 i232_127 rfl rfl (by omega) ?_
      refine X.dup2 129 i232_128 rfl rfl ?_
      refine X.lald 130 i232_129 rfl rfl (by decide) rfl (by omega) ?_
      refine X.aload_n 131 i232_130 rfl rfl rfl ?_
      refine X.iconst 132 i232_131 rfl rfl (by decide) ?_
      refine X.iconst 133 i232_132 rfl rfl (by decide) ?_
      refine X.iload 135 i232_133 rfl rfl rfl ?_
      refine X.iadd 136 i232_135 rfl rfl (by omega) ?_
      refine X.callv 139 [zi 0, zi (1 + y5)] [zl (m 4 45 (1607 + y5)), zi (1607 + y5), zr 4 45] [(0, zr g0 44), (1, zi 0), (2, zi (1 + y5))] i232_136 rfl (by decide) rfl rfl (by omega) rfl rfl (by decide) rfl t234 (Nat.le_of_ble_eq_true rfl) (Nat.le_of_ble_eq_true rfl) rfl ?_
      refine X.aload_n 1 i234_0 rfl rfl rfl ?_
      refine X.getF 4 i234_1 rfl rfl (by decide) rfl rfl ?_
      refine X.sipush 7 i234_4 rfl rfl (by decide) ?_
      refine X.bipush 9 i234_7 rfl rfl (by decide) ?_
      refine X.iload_n 10 i234_9 rfl rfl rfl ?_
      refine X.imul 11 i234_10 rfl rfl (by omega) ?_
      refine X.iadd 12 i234_11 rfl rfl (by omega) ?_
      refine X.iload_n 13 i234_12 rfl rfl rfl ?_
      refine X.iadd 14 i234_13 rfl rfl (by omega) ?_
      refine X.lald 15 i234_14 rfl rfl (by decide) rfl (by omega) ?_
      refine X.retl i234_15 rfl t234 ?_
      show X (EE s) d 232 139 [(0, zr g0 44), (1, zl y1), (3, zl y3), (5, zi y5)] [zl (m 4 45 ((788 + (6 * 0)) + (1 + y5))), zl (m 4 45 (1607 + y5)), zi (1607 + y5), zr 4 45] m _
      refine X.llF 140 .ladd (fun x y => x + y) i232_139 rfl rfl rfl (fun _ _ => rfl) (fun z506 hz506 => ?_)
      refine X.last' 141 i232_140 rfl rfl (by decide) rfl (by omega) (fun hrm507 m507 hm507 => ?_)
      have hJ508 := w45_788 hJ hm507 (by omega) hrm507
      have km507 : ∀ g, m507 g 8 9 = m g 8 9 := fun g9 => by rw [hm507]; exact z_upd_o _ _ rfl
      refine X.iinc 144 [(0, zr g0 44), (1, zl y1), (3, zl y3), (5, zi (y5 + 1))] i232_141 rfl rfl rfl (by omega) rfl ?_
      refine X.goto 112 i232_144 rfl rfl ?_
      exact ih (y5 + 1) m507 (B) (hJ508.up (by omega)) (by omega) (fun g => by simp only [km507, hT]) (by omega) (by omega)
theorem l232_151_1 {s : Nat × (Nat → Int32)} {m0 : zM} {d : Nat} {Q : Option zV → zM → Prop} (g0 : Nat) (y1 y3 : Int) (T9 : Nat → Int) (BE : Int) (hE : BE ≤ 1000000000) (hd : 13 ≤ d) (hy1 : 0 ≤ y1 ∧ y1 ≤ 64)
    (K190 : ∀ (m' : zM) (B' : Int), J m0 B' m' → B' ≤ BE → (∀ g, m' g 8 9 = T9 g) → X (EE s) d 232 190 [(0, zr g0 44), (1, zl y1), (3, zl y3)] [] m' Q) :
    ∀ (n : Nat) (y5 : Int) (m : zM) (B : Int), J m0 B m → B + 0 * (n : Int) ≤ BE → (∀ g, m g 8 9 = T9 g) → (6 ≤ y5 ∧ y5 ≤ 384) → 384 - y5 < (n : Int) → X (EE s) d 232 151 [(0, zr g0 44), (1, zl y1), (3, zl y3), (5, zi y5)] [] m Q := by
  intro n
  induction n with
  | zero =>
    intro y5 m B hJ hB hT hy5 hn
    exfalso
    omega
  | succ n ih =>
    intro y5 m B hJ hB hT hy5 hn
    refine X.iload 153 i232_151 rfl rfl rfl ?_
    refine X.sipush 156 i232_153 rfl rfl (by decide) ?_
    refine X.icmpge 190 159 i232_156 rfl rfl rfl (fun h504 => ?_) (fun h504 => ?_)
    · refine X.cut [(0, zr g0 44), (1, zl y1), (3, zl y3)] i232_190 rfl ?_
      exact K190  m (B) (hJ.up (by omega)) (by omega) (fun g => by simp only [hT]) 
    · refine X.aload_n 160 i232_159 rfl rfl rfl ?_
      refine X.getF 163 i232_160 rfl rfl (by decide) rfl rfl ?_
      refine X.sipush 166 i232_163 rfl rfl (by decide) ?_
      refine X.iload 168 i232_166 rfl rfl rfl ?_
      refine X.iadd 169 i232_168 rfl rfl (by omega) ?_
      refine X.bipush 171 i232_169 rfl rfl (by decide) ?_
      refine X.isub 172 i232_171 rfl rfl (by omega) ?_
      refine X.aload_n 173 i232_172 rfl rfl rfl ?_
      refine X.getF 176 i232_173 rfl rfl (by decide) rfl rfl ?_
      refine X.sipush 179 i232_176 rfl rfl (by decide) ?_
      refine X.iload 181 i232_179 rfl rfl rfl ?_
      refine X.iadd 182 i232_181 rfl rfl (by omega) ?_
      refine X.lald 183 i232_182 rfl rfl (by decide) rfl (by omega) ?_
      refine X.last' 184 i232_183 rfl rfl (by decide) rfl (by omega) (fun hrm505 m505 hm505 => ?_)
      have hJ506 := w45_788 hJ hm505 (by omega) hrm505
      have km505 : ∀ g, m505 g 8 9 = m g 8 9 := fun g9 => by rw [hm505]; exact z_upd_o _ _ rfl
      refine X.iinc 187 [(0, zr g0 44), (1, zl y1), (3, zl y3), (5, zi (y5 + 1))] i232_184 rfl rfl rfl (by omega) rfl ?_
      refine X.goto 151 i232_187 rfl rfl ?_
      exact ih (y5 + 1) m505 (B) (hJ506.up (by omega)) (by omega) (fun g => by simp only [km505, hT]) (by omega) (by omega)
-- WorkMeterModel.ends
theorem c232_1 {s : Nat × (Nat → Int32)} {m0 m : zM} {B : Int} {d : Nat} {Q : Option zV → zM → Prop} (g0 : Nat) (a1 : Int) (hd : 17 ≤ d) (hJ : J m0 B m) (hB : B + 1 ≤ 1000000000) (ha1 : 0 ≤ a1 ∧ a1 ≤ 64) (hQ : ∀ m', J m0 (B + 1) m' → (∀ g, m' g 8 9 = m g 8 9) → Q none m') : X (EE s) d 232 0 [(0, zr g0 44), (1, zl a1)] [] m Q := by
  refine X.aload_n 1 i232_0 rfl rfl rfl ?_
  refine X.getF 4 i232_1 rfl rfl (by decide) rfl rfl ?_
  refine X.bipush 6 i232_4 rfl rfl (by decide) ?_
  refine X.lald 7 i232_6 rfl rfl (by decide) rfl (by omega) ?_
  refine X.aload_n 8 i232_7 rfl rfl rfl ?_
  refine X.getF 11 i232_8 rfl rfl (by decide) rfl rfl ?_
  refine X.bipush 13 i232_11 rfl rfl (by decide) ?_
  refine X.lald 14 i232_13 rfl rfl (by decide) rfl (by omega) ?_
  refine X.llF 15 .ladd (fun x y => x + y) i232_14 rfl rfl rfl (fun _ _ => rfl) (fun z501 hz501 => ?_)
  refine X.lconst (y := 0) 16 i232_15 rfl rfl rfl ?_
  refine X.lcmp 17 i232_16 rfl rfl (fun z502 hz502 => ?_)
  refine X.ifne 25 20 i232_17 rfl rfl rfl (fun h503 => ?_) (fun h503 => ?_)
  · have h503c : z501 ≠ 0 := by omega
    clear h503 hz502
    refine X.aload_n 26 i232_25 rfl rfl rfl ?_
    refine X.getF 29 i232_26 rfl rfl (by decide) rfl rfl ?_
    refine X.bipush 31 i232_29 rfl rfl (by decide) ?_
    refine X.lald 32 i232_31 rfl rfl (by decide) rfl (by omega) ?_
    refine X.aload_n 33 i232_32 rfl rfl rfl ?_
    refine X.getF 36 i232_33 rfl rfl (by decide) rfl rfl ?_
    refine X.bipush 38 i232_36 rfl rfl (by decide) ?_
    refine X.lald 39 i232_38 rfl rfl (by decide) rfl (by omega) ?_
    refine X.lconst (y := 0) 40 i232_39 rfl rfl rfl ?_
    refine X.lcmp 41 i232_40 rfl rfl (fun z504 hz504 => ?_)
    refine X.ifle 49 44 i232_41 rfl rfl rfl (fun h505 => ?_) (fun h505 => ?_)
    · have h505c : (m 4 45 26) ≤ 0 := by omega
      clear h505 hz504
      refine X.iconst 50 i232_49 rfl rfl (by decide) ?_
      refine X.i2l 51 i232_50 rfl rfl ?_
      refine X.llF 52 .lor (fun x y => x ||| y) i232_51 rfl rfl rfl (fun _ _ => rfl) (fun z506 hz506 => ?_)
      refine X.lload_n 53 i232_52 rfl rfl rfl ?_
      refine X.llF 54 .lor (fun x y => x ||| y) i232_53 rfl rfl rfl (fun _ _ => rfl) (fun z507 hz507 => ?_)
      refine X.aload_n 55 i232_54 rfl rfl rfl ?_
      refine X.getF 58 i232_55 rfl rfl (by decide) rfl rfl ?_
      refine X.bipush 60 i232_58 rfl rfl (by decide) ?_
      refine X.lald 61 i232_60 rfl rfl (by decide) rfl (by omega) ?_
      refine X.lconst (y := 1) 62 i232_61 rfl rfl rfl ?_
      refine X.lcmp 63 i232_62 rfl rfl (fun z508 hz508 => ?_)
      refine X.ifeq 85 66 i232_63 rfl rfl rfl (fun h509 => ?_) (fun h509 => ?_)
      · have h509c : (m 4 45 21) = 1 := by omega
        clear h509 hz508
        refine X.sipush 88 i232_85 rfl rfl (by decide) ?_
        refine X.goto 92 i232_88 rfl rfl ?_
        refine X.i2l 93 i232_92 rfl rfl ?_
        refine X.llF 94 .lor (fun x y => x ||| y) i232_93 rfl rfl rfl (fun _ _ => rfl) (fun z510 hz510 => ?_)
        refine X.lstore_n 95 [(0, zr g0 44), (1, zl a1), (3, zl z510)] i232_94 rfl rfl rfl ?_
        refine X.aload_n 96 i232_95 rfl rfl rfl ?_
        refine X.getF 99 i232_96 rfl rfl (by decide) rfl rfl ?_
        refine X.bipush 101 i232_99 rfl rfl (by decide) ?_
        refine X.lald 102 i232_101 rfl rfl (by decide) rfl (by omega) ?_
        have h511 := r45_17 hJ 4
        refine X.ldc2 105 i232_102 rfl rfl (by decide) ?_
        refine X.lcmp 106 i232_105 rfl rfl (fun z512 hz512 => ?_)
        refine X.iflt 190 109 i232_106 rfl rfl rfl (fun h513 => ?_) (fun h513 => ?_)
        · have h513c : (m 4 45 17) < 64 := by omega
          clear h513 hz512
          refine X.sipush 193 i232_190 rfl rfl (by decide) ?_
          refine X.bipush 195 i232_193 rfl rfl (by decide) ?_
          refine X.aload_n 196 i232_195 rfl rfl rfl ?_
          refine X.callv 199 [] [zi 6, zi 788] [(0, zr g0 44)] i232_196 rfl (by decide) rfl rfl (by omega) rfl rfl (by decide) rfl t235 (Nat.le_of_ble_eq_true rfl) (Nat.le_of_ble_eq_true rfl) rfl ?_
          refine X.aload_n 1 i235_0 rfl rfl rfl ?_
          refine X.getF 4 i235_1 rfl rfl (by decide) rfl rfl ?_
          refine X.bipush 6 i235_4 rfl rfl (by decide) ?_
          refine X.lald 7 i235_6 rfl rfl (by decide) rfl (by omega) ?_
          refine X.ldc2 10 i235_7 rfl rfl (by decide) ?_
          refine X.lcmp 11 i235_10 rfl rfl (fun z514 hz514 => ?_)
          refine X.ifge 24 14 i235_11 rfl rfl rfl (fun h515 => (by exfalso; omega)) (fun h515 => ?_)
          have h515c : (m 4 45 17) < 64 := by omega
          clear h515 hz514
          refine X.aload_n 15 i235_14 rfl rfl rfl ?_
          refine X.getF 18 i235_15 rfl rfl (by decide) rfl rfl ?_
          refine X.bipush 20 i235_18 rfl rfl (by decide) ?_
          refine X.lald 21 i235_20 rfl rfl (by decide) rfl (by omega) ?_
          refine X.goto 27 i235_21 rfl rfl ?_
          refine X.cut [] i235_27 rfl ?_
          refine X.l2i 28 i235_27 rfl rfl (by omega) ?_
          refine X.reti i235_28 rfl t235 ?_
          show X (EE s) d 232 199 [(0, zr g0 44), (1, zl a1), (3, zl z510)] [zi (m 4 45 17), zi 6, zi 788] m _
          refine X.bipush 201 i232_199 rfl rfl (by decide) ?_
          refine X.icmpge 211 204 i232_201 rfl rfl rfl (fun h516 => (by exfalso; omega)) (fun h516 => ?_)
          refine X.aload_n 205 i232_204 rfl rfl rfl ?_
          refine X.callv 208 [] [zi 6, zi 788] [(0, zr g0 44)] i232_205 rfl (by decide) rfl rfl (by omega) rfl rfl (by decide) rfl t235 (Nat.le_of_ble_eq_true rfl) (Nat.le_of_ble_eq_true rfl) rfl ?_
          refine X.aload_n 1 i235_0 rfl rfl rfl ?_
          refine X.getF 4 i235_1 rfl rfl (by decide) rfl rfl ?_
          refine X.bipush 6 i235_4 rfl rfl (by decide) ?_
          refine X.lald 7 i235_6 rfl rfl (by decide) rfl (by omega) ?_
          refine X.ldc2 10 i235_7 rfl rfl (by decide) ?_
          refine X.lcmp 11 i235_10 rfl rfl (fun z517 hz517 => ?_)
          refine X.ifge 24 14 i235_11 rfl rfl rfl (fun h518 => (by exfalso; omega)) (fun h518 => ?_)
          have h518c : (m 4 45 17) < 64 := by omega
          clear h518 hz517
          refine X.aload_n 15 i235_14 rfl rfl rfl ?_
          refine X.getF 18 i235_15 rfl rfl (by decide) rfl rfl ?_
          refine X.bipush 20 i235_18 rfl rfl (by decide) ?_
          refine X.lald 21 i235_20 rfl rfl (by decide) rfl (by omega) ?_
          refine X.goto 27 i235_21 rfl rfl ?_
          refine X.cut [] i235_27 rfl ?_
          refine X.l2i 28 i235_27 rfl rfl (by omega) ?_
          refine X.reti i235_28 rfl t235 ?_
          show X (EE s) d 232 208 [(0, zr g0 44), (1, zl a1), (3, zl z510)] [zi (m 4 45 17), zi 6, zi 788] m _
          refine X.goto 213 i232_208 rfl rfl ?_
          refine X.imul 214 i232_213 rfl rfl (by omega) ?_
          refine X.iadd 215 i232_214 rfl rfl (by omega) ?_
          refine X.istore 217 [(0, zr g0 44), (1, zl a1), (3, zl z510), (5, zi (788 + (6 * (m 4 45 17))))] i232_215 rfl rfl rfl ?_
          refine X.aload_n 218 i232_217 rfl rfl rfl ?_
          refine X.getF 221 i232_218 rfl rfl (by decide) rfl rfl ?_
          refine X.bipush 223 i232_221 rfl rfl (by decide) ?_
          refine X.dup2 224 i232_223 rfl rfl ?_
          refine X.lald 225 i232_224 rfl rfl (by decide) rfl (by omega) ?_
          refine X.lconst (y := 1) 226 i232_225 rfl rfl rfl ?_
          refine X.ladd 227 i232_226 rfl rfl (by omega) ?_
          refine X.last' 228 i232_227 rfl rfl (by decide) rfl (by omega) (fun hrm519 m519 hm519 => ?_)
          have hJ520 := w45_17 (hJ.up (B' := B + 1) (by omega)) hm519 (by omega)
          have km519 : ∀ g, m519 g 8 9 = m g 8 9 := fun g9 => by rw [hm519]; exact z_upd_o _ _ rfl
          refine X.aload_n 229 i232_228 rfl rfl rfl ?_
          refine X.getF 232 i232_229 rfl rfl (by decide) rfl rfl ?_
          refine X.iload 234 i232_232 rfl rfl rfl ?_
          refine X.aload_n 235 i232_234 rfl rfl rfl ?_
          refine X.getF 238 i232_235 rfl rfl (by decide) rfl rfl ?_
          refine X.iconst 239 i232_238 rfl rfl (by decide) ?_
          refine X.lald 240 i232_239 rfl rfl (by decide) rfl (by omega) ?_
          have h521 := r45_0 hJ520 4
          refine X.last' 241 i232_240 rfl rfl (by decide) rfl (by omega) (fun hrm522 m522 hm522 => ?_)
          have hJ523 := w45_788 hJ520 hm522 (by omega) hrm522
          have km522 : ∀ g, m522 g 8 9 = m519 g 8 9 := fun g9 => by rw [hm522]; exact z_upd_o _ _ rfl
          refine X.aload_n 242 i232_241 rfl rfl rfl ?_
          refine X.getF 245 i232_242 rfl rfl (by decide) rfl rfl ?_
          refine X.iload 247 i232_245 rfl rfl rfl ?_
          refine X.iconst 248 i232_247 rfl rfl (by decide) ?_
          refine X.iadd 249 i232_248 rfl rfl (by omega) ?_
          refine X.aload_n 250 i232_249 rfl rfl rfl ?_
          refine X.getF 253 i232_250 rfl rfl (by decide) rfl rfl ?_
          refine X.bipush 255 i232_253 rfl rfl (by decide) ?_
          refine X.lald 256 i232_255 rfl rfl (by decide) rfl (by omega) ?_
          refine X.last' 257 i232_256 rfl rfl (by decide) rfl (by omega) (fun hrm524 m524 hm524 => ?_)
          have hJ525 := w45_788 hJ523 hm524 (by omega) hrm524
          have km524 : ∀ g, m524 g 8 9 = m522 g 8 9 := fun g9 => by rw [hm524]; exact z_upd_o _ _ rfl
          refine X.aload_n 258 i232_257 rfl rfl rfl ?_
          refine X.getF 261 i232_258 rfl rfl (by decide) rfl rfl ?_
          refine X.iload 263 i232_261 rfl rfl rfl ?_
          refine X.iconst 264 i232_263 rfl rfl (by decide) ?_
          refine X.iadd 265 i232_264 rfl rfl (by omega) ?_
          refine X.aload_n 266 i232_265 rfl rfl rfl ?_
          refine X.getF 269 i232_266 rfl rfl (by decide) rfl rfl ?_
          refine X.bipush 271 i232_269 rfl rfl (by decide) ?_
          refine X.lald 272 i232_271 rfl rfl (by decide) rfl (by omega) ?_
          refine X.last' 273 i232_272 rfl rfl (by decide) rfl (by omega) (fun hrm526 m526 hm526 => ?_)
          have hJ527 := w45_788 hJ525 hm526 (by omega) hrm526
          have km526 : ∀ g, m526 g 8 9 = m524 g 8 9 := fun g9 => by rw [hm526]; exact z_upd_o _ _ rfl
          refine X.aload_n 274 i232_273 rfl rfl rfl ?_
          refine X.getF 277 i232_274 rfl rfl (by decide) rfl rfl ?_
          refine X.iload 279 i232_277 rfl rfl rfl ?_
          refine X.iconst 280 i232_279 rfl rfl (by decide) ?_
          refine X.iadd 281 i232_280 rfl rfl (by omega) ?_
          refine X.aload_n 282 i232_281 rfl rfl rfl ?_
          refine X.getF 285 i232_282 rfl rfl (by decide) rfl rfl ?_
          refine X.bipush 287 i232_285 rfl rfl (by decide) ?_
          refine X.lald 288 i232_287 rfl rfl (by decide) rfl (by omega) ?_
          refine X.last' 289 i232_288 rfl rfl (by decide) rfl (by omega) (fun hrm528 m528 hm528 => ?_)
          have hJ529 := w45_788 hJ527 hm528 (by omega) hrm528
          have km528 : ∀ g, m528 g 8 9 = m526 g 8 9 := fun g9 => by rw [hm528]; exact z_upd_o _ _ rfl
          refine X.aload_n 290 i232_289 rfl rfl rfl ?_
          refine X.getF 293 i232_290 rfl rfl (by decide) rfl rfl ?_
          refine X.iload 295 i232_293 rfl rfl rfl ?_
          refine X.iconst 296 i232_295 rfl rfl (by decide) ?_
          refine X.iadd 297 i232_296 rfl rfl (by omega) ?_
          refine X.aload_n 298 i232_297 rfl rfl rfl ?_
          refine X.getF 301 i232_298 rfl rfl (by decide) rfl rfl ?_
          refine X.bipush 303 i232_301 rfl rfl (by decide) ?_
          refine X.lald 304 i232_303 rfl rfl (by decide) rfl (by omega) ?_
          refine X.last' 305 i232_304 rfl rfl (by decide) rfl (by omega) (fun hrm530 m530 hm530 => ?_)
          have hJ531 := w45_788 hJ529 hm530 (by omega) hrm530
          have km530 : ∀ g, m530 g 8 9 = m528 g 8 9 := fun g9 => by rw [hm530]; exact z_upd_o _ _ rfl
          refine X.aload_n 306 i232_305 rfl rfl rfl ?_
          refine X.getF 309 i232_306 rfl rfl (by decide) rfl rfl ?_
          refine X.iload 311 i232_309 rfl rfl rfl ?_
          refine X.iconst 312 i232_311 rfl rfl (by decide) ?_
          refine X.iadd 313 i232_312 rfl rfl (by omega) ?_
          refine X.lload_n 314 i232_313 rfl rfl rfl ?_
          refine X.last' 315 i232_314 rfl rfl (by decide) rfl (by omega) (fun hrm532 m532 hm532 => ?_)
          have hJ533 := w45_788 hJ531 hm532 (by omega) hrm532
          have km532 : ∀ g, m532 g 8 9 = m530 g 8 9 := fun g9 => by rw [hm532]; exact z_upd_o _ _ rfl
          refine X.aload_n 316 i232_315 rfl rfl rfl ?_
          refine X.callv 319 [] [] [(0, zr g0 44)] i232_316 rfl (by decide) rfl rfl (by omega) rfl rfl (by decide) rfl t233 (Nat.le_of_ble_eq_true rfl) (Nat.le_of_ble_eq_true rfl) rfl ?_
          refine c233_1 (B := B + 1) g0  (by omega) (hJ533.up (by omega)) (by omega)  (fun m534 hJ535 km534 => ?_)
          show X (EE s) d 232 319 [(0, zr g0 44), (1, zl a1), (3, zl z510), (5, zi (788 + (6 * (m 4 45 17))))] [] m534 _
          refine X.lload_n 320 i232_319 rfl rfl rfl ?_
          refine X.lconst (y := 0) 321 i232_320 rfl rfl rfl ?_
          refine X.lcmp 322 i232_321 rfl rfl (fun z537 hz537 => ?_)
          refine X.ifne 329 325 i232_322 rfl rfl rfl (fun h538 => ?_) (fun h538 => ?_)
          · have h538c : a1 ≠ 0 := by omega
            clear h538 hz537
            refine X.cut [] i232_329 rfl ?_
            refine X.retv i232_329 rfl t232 ?_
            exact hQ  m534  (hJ535.up (by omega)) (fun g => by simp only [km519, km522, km524, km526, km528, km530, km532, km534]) 
          · have h538c : a1 = 0 := by omega
            clear h538 hz537
            refine X.aload_n 326 i232_325 rfl rfl rfl ?_
            refine X.callv 329 [] [] [(0, zr g0 44)] i232_326 rfl (by decide) rfl rfl (by omega) rfl rfl (by decide) rfl t236 (Nat.le_of_ble_eq_true rfl) (Nat.le_of_ble_eq_true rfl) rfl ?_
            refine c236_1 (B := B + 1) g0  (by omega) (hJ535.up (by omega)) (by omega)  (fun m539 hJ540 km539 => ?_)
            show X (EE s) d 232 329 [(0, zr g0 44), (1, zl a1), (3, zl z510), (5, zi (788 + (6 * (m 4 45 17))))] [] m539 _
            refine X.cut [] i232_329 rfl ?_
            refine X.retv i232_329 rfl t232 ?_
            exact hQ  m539  (hJ540.up (by omega)) (fun g => by simp only [km519, km522, km524, km526, km528, km530, km532, km534, km539]) 
        · have h513c : (m 4 45 17) ≥ 64 := by omega
          clear h513 hz512
          refine X.iconst 110 i232_109 rfl rfl (by decide) ?_
          refine X.istore 112 [(0, zr g0 44), (1, zl a1), (3, zl z510), (5, zi 0)] i232_110 rfl rfl rfl ?_
          refine l232_112_1 (s := s) (m0 := m0) (d := d) g0 a1 z510 (fun g => m g 8 9) (BE := B + 0) (by omega) (by omega) (by omega) (fun  m542 B543 hJ544 hBB543 hkm542 => ?_) ((4 - 0 : Int).toNat + 1) 0 m (B) (hJ.up (by omega)) (by omega) (fun g => rfl) (by omega) (by omega)
          refine X.bipush 149 i232_147 rfl rfl (by decide) ?_
          refine X.istore 151 [(0, zr g0 44), (1, zl a1), (3, zl z510), (5, zi 6)] i232_149 rfl rfl rfl ?_
          refine l232_151_1 (s := s) (m0 := m0) (d := d) g0 a1 z510 (fun g => m g 8 9) (BE := B543 + 0) (by omega) (by omega) (by omega) (fun  m545 B546 hJ547 hBB546 hkm545 => ?_) ((384 - 6 : Int).toNat + 1) 6 m542 (B543) (hJ544.up (by omega)) (by omega) (fun g => by simp only [hkm542]) (by omega) (by omega)
          refine X.sipush 193 i232_190 rfl rfl (by decide) ?_
          refine X.bipush 195 i232_193 rfl rfl (by decide) ?_
          refine X.aload_n 196 i232_195 rfl rfl rfl ?_
          refine X.callv 199 [] [zi 6, zi 788] [(0, zr g0 44)] i232_196 rfl (by decide) rfl rfl (by omega) rfl rfl (by decide) rfl t235 (Nat.le_of_ble_eq_true rfl) (Nat.le_of_ble_eq_true rfl) rfl ?_
          refine X.aload_n 1 i235_0 rfl rfl rfl ?_
          refine X.getF 4 i235_1 rfl rfl (by decide) rfl rfl ?_
          refine X.bipush 6 i235_4 rfl rfl (by decide) ?_
          refine X.lald 7 i235_6 rfl rfl (by decide) rfl (by omega) ?_
          have h548 := r45_17 hJ547 4
          refine X.ldc2 10 i235_7 rfl rfl (by decide) ?_
          refine X.lcmp 11 i235_10 rfl rfl (fun z549 hz549 => ?_)
          refine X.ifge 24 14 i235_11 rfl rfl rfl (fun h550 => ?_) (fun h550 => ?_)
          · have h550c : (m545 4 45 17) ≥ 64 := by omega
            clear h550 hz549
            refine X.cut [] i235_24 rfl ?_
            refine X.ldc2 27 i235_24 rfl rfl (by decide) ?_
            refine X.l2i 28 i235_27 rfl rfl (by omega) ?_
            refine X.reti i235_28 rfl t235 ?_
            show X (EE s) d 232 199 [(0, zr g0 44), (1, zl a1), (3, zl z510)] [zi 64, zi 6, zi 788] m545 _
            refine X.bipush 201 i232_199 rfl rfl (by decide) ?_
            refine X.icmpge 211 204 i232_201 rfl rfl rfl (fun h551 => ?_) (fun h551 => (by exfalso; omega))
            refine X.bipush 213 i232_211 rfl rfl (by decide) ?_
            refine X.imul 214 i232_213 rfl rfl (by omega) ?_
            refine X.iadd 215 i232_214 rfl rfl (by omega) ?_
            refine X.istore 217 [(0, zr g0 44), (1, zl a1), (3, zl z510), (5, zi (788 + (6 * 63)))] i232_215 rfl rfl rfl ?_
            refine X.aload_n 218 i232_217 rfl rfl rfl ?_
            refine X.getF 221 i232_218 rfl rfl (by decide) rfl rfl ?_
            refine X.bipush 223 i232_221 rfl rfl (by decide) ?_
            refine X.dup2 224 i232_223 rfl rfl ?_
            refine X.lald 225 i232_224 rfl rfl (by decide) rfl (by omega) ?_
            refine X.lconst (y := 1) 226 i232_225 rfl rfl rfl ?_
            refine X.ladd 227 i232_226 rfl rfl (by omega) ?_
            refine X.last' 228 i232_227 rfl rfl (by decide) rfl (by omega) (fun hrm552 m552 hm552 => ?_)
            have hJ553 := w45_17 (hJ547.up (B' := B546 + 1) (by omega)) hm552 (by omega)
            have km552 : ∀ g, m552 g 8 9 = m545 g 8 9 := fun g9 => by rw [hm552]; exact z_upd_o _ _ rfl
            refine X.aload_n 229 i232_228 rfl rfl rfl ?_
            refine X.getF 232 i232_229 rfl rfl (by decide) rfl rfl ?_
            refine X.iload 234 i232_232 rfl rfl rfl ?_
            refine X.aload_n 235 i232_234 rfl rfl rfl ?_
            refine X.getF 238 i232_235 rfl rfl (by decide) rfl rfl ?_
            refine X.iconst 239 i232_238 rfl rfl (by decide) ?_
            refine X.lald 240 i232_239 rfl rfl (by decide) rfl (by omega) ?_
            have h554 := r45_0 hJ553 4
            refine X.last' 241 i232_240 rfl rfl (by decide) rfl (by omega) (fun hrm555 m555 hm555 => ?_)
            have hJ556 := w45_788 hJ553 hm555 (by omega) hrm555
            have km555 : ∀ g, m555 g 8 9 = m552 g 8 9 := fun g9 => by rw [hm555]; exact z_upd_o _ _ rfl
            refine X.aload_n 242 i232_241 rfl rfl rfl ?_
            refine X.getF 245 i232_242 rfl rfl (by decide) rfl rfl ?_
            refine X.iload 247 i232_245 rfl rfl rfl ?_
            refine X.iconst 248 i232_247 rfl rfl (by decide) ?_
            refine X.iadd 249 i232_248 rfl rfl (by omega) ?_
            refine X.aload_n 250 i232_249 rfl rfl rfl ?_
            refine X.getF 253 i232_250 rfl rfl (by decide) rfl rfl ?_
            refine X.bipush 255 i232_253 rfl rfl (by decide) ?_
            refine X.lald 256 i232_255 rfl rfl (by decide) rfl (by omega) ?_
            refine X.last' 257 i232_256 rfl rfl (by decide) rfl (by omega) (fun hrm557 m557 hm557 => ?_)
            have hJ558 := w45_788 hJ556 hm557 (by omega) hrm557
            have km557 : ∀ g, m557 g 8 9 = m555 g 8 9 := fun g9 => by rw [hm557]; exact z_upd_o _ _ rfl
            refine X.aload_n 258 i232_257 rfl rfl rfl ?_
            refine X.getF 261 i232_258 rfl rfl (by decide) rfl rfl ?_
            refine X.iload 263 i232_261 rfl rfl rfl ?_
            refine X.iconst 264 i232_263 rfl rfl (by decide) ?_
            refine X.iadd 265 i232_264 rfl rfl (by omega) ?_
            refine X.aload_n 266 i232_265 rfl rfl rfl ?_
            refine X.getF 269 i232_266 rfl rfl (by decide) rfl rfl ?_
            refine X.bipush 271 i232_269 rfl rfl (by decide) ?_
            refine X.lald 272 i232_271 rfl rfl (by decide) rfl (by omega) ?_
            refine X.last' 273 i232_272 rfl rfl (by decide) rfl (by omega) (fun hrm559 m559 hm559 => ?_)
            have hJ560 := w45_788 hJ558 hm559 (by omega) hrm559
            have km559 : ∀ g, m559 g 8 9 = m557 g 8 9 := fun g9 => by rw [hm559]; exact z_upd_o _ _ rfl
            refine X.aload_n 274 i232_273 rfl rfl rfl ?_
            refine X.getF 277 i232_274 rfl rfl (by decide) rfl rfl ?_
            refine X.iload 279 i232_277 rfl rfl rfl ?_
            refine X.iconst 280 i232_279 rfl rfl (by decide) ?_
            refine X.iadd 281 i232_280 rfl rfl (by omega) ?_
            refine X.aload_n 282 i232_281 rfl rfl rfl ?_
            refine X.getF 285 i232_282 rfl rfl (by decide) rfl rfl ?_
            refine X.bipush 287 i232_285 rfl rfl (by decide) ?_
            refine X.lald 288 i232_287 rfl rfl (by decide) rfl (by omega) ?_
            refine X.last' 289 i232_288 rfl rfl (by decide) rfl (by omega) (fun hrm561 m561 hm561 => ?_)
            have hJ562 := w45_788 hJ560 hm561 (by omega) hrm561
            have km561 : ∀ g, m561 g 8 9 = m559 g 8 9 := fun g9 => by rw [hm561]; exact z_upd_o _ _ rfl
            refine X.aload_n 290 i232_289 rfl rfl rfl ?_
            refine X.getF 293 i232_290 rfl rfl (by decide) rfl rfl ?_
            refine X.iload 295 i232_293 rfl rfl rfl ?_
            refine X.iconst 296 i232_295 rfl rfl (by decide) ?_
            refine X.iadd 297 i232_296 rfl rfl (by omega) ?_
            refine X.aload_n 298 i232_297 rfl rfl rfl ?_
            refine X.getF 301 i232_298 rfl rfl (by decide) rfl rfl ?_
            refine X.bipush 303 i232_301 rfl rfl (by decide) ?_
            refine X.lald 304 i232_303 rfl rfl (by decide) rfl (by omega) ?_
            refine X.last' 305 i232_304 rfl rfl (by decide) rfl (by omega) (fun hrm563 m563 hm563 => ?_)
            have hJ564 := w45_788 hJ562 hm563 (by omega) hrm563
            have km563 : ∀ g, m563 g 8 9 = m561 g 8 9 := fun g9 => by rw [hm563]; exact z_upd_o _ _ rfl
            refine X.aload_n 306 i232_305 rfl rfl rfl ?_
            refine X.getF 309 i232_306 rfl rfl (by decide) rfl rfl ?_
            refine X.iload 311 i232_309 rfl rfl rfl ?_
            refine X.iconst 312 i232_311 rfl rfl (by decide) ?_
            refine X.iadd 313 i232_312 rfl rfl (by omega) ?_
            refine X.lload_n 314 i232_313 rfl rfl rfl ?_
            refine X.last' 315 i232_314 rfl rfl (by decide) rfl (by omega) (fun hrm565 m565 hm565 => ?_)
            have hJ566 := w45_788 hJ564 hm565 (by omega) hrm565
            have km565 : ∀ g, m565 g 8 9 = m563 g 8 9 := fun g9 => by rw [hm565]; exact z_upd_o _ _ rfl
            refine X.aload_n 316 i232_315 rfl rfl rfl ?_
            refine X.callv 319 [] [] [(0, zr g0 44)] i232_316 rfl (by decide) rfl rfl (by omega) rfl rfl (by decide) rfl t233 (Nat.le_of_ble_eq_true rfl) (Nat.le_of_ble_eq_true rfl) rfl ?_
            refine c233_1 (B := B546 + 1) g0  (by omega) (hJ566.up (by omega)) (by omega)  (fun m567 hJ568 km567 => ?_)
            show X (EE s) d 232 319 [(0, zr g0 44), (1, zl a1), (3, zl z510), (5, zi (788 + (6 * 63)))] [] m567 _
            refine X.lload_n 320 i232_319 rfl rfl rfl ?_
            refine X.lconst (y := 0) 321 i232_320 rfl rfl rfl ?_
            refine X.lcmp 322 i232_321 rfl rfl (fun z570 hz570 => ?_)
            refine X.ifne 329 325 i232_322 rfl rfl rfl (fun h571 => ?_) (fun h571 => ?_)
            · have h571c : a1 ≠ 0 := by omega
              clear h571 hz570
              refine X.cut [] i232_329 rfl ?_
              refine X.retv i232_329 rfl t232 ?_
              exact hQ  m567  (hJ568.up (by omega)) (fun g => by simp only [hkm545, km552, km555, km557, km559, km561, km563, km565, km567]) 
            · have h571c : a1 = 0 := by omega
              clear h571 hz570
              refine X.aload_n 326 i232_325 rfl rfl rfl ?_
              refine X.callv 329 [] [] [(0, zr g0 44)] i232_326 rfl (by decide) rfl rfl (by omega) rfl rfl (by decide) rfl t236 (Nat.le_of_ble_eq_true rfl) (Nat.le_of_ble_eq_true rfl) rfl ?_
              refine c236_1 (B := B546 + 1) g0  (by omega) (hJ568.up (by omega)) (by omega)  (fun m572 hJ573 km572 => ?_)
              show X (EE s) d 232 329 [(0, zr g0 44), (1, zl a1), (3, zl z510), (5, zi (788 + (6 * 63)))] [] m572 _
              refine X.cut [] i232_329 rfl ?_
              refine X.retv i232_329 rfl t232 ?_
              exact hQ  m572  (hJ573.up (by omega)) (fun g => by simp only [hkm545, km552, km555, km557, km559, km561, km563, km565, km567, km572]) 
          · have h550c : (m545 4 45 17) < 64 := by omega
            clear h550 hz549
            refine X.aload_n 15 i235_14 rfl rfl rfl ?_
            refine X.getF 18 i235_15 rfl rfl (by decide) rfl rfl ?_
            refine X.bipush 20 i235_18 rfl rfl (by decide) ?_
            refine X.lald 21 i235_20 rfl rfl (by decide) rfl (by omega) ?_
            refine X.goto 27 i235_21 rfl rfl ?_
            refine X.cut [] i235_27 rfl ?_
            refine X.l2i 28 i235_27 rfl rfl (by omega) ?_
            refine X.reti i235_28 rfl t235 ?_
            show X (EE s) d 232 199 [(0, zr g0 44), (1, zl a1), (3, zl z510)] [zi (m545 4 45 17), zi 6, zi 788] m545 _
            refine X.bipush 201 i232_199 rfl rfl (by decide) ?_
            refine X.icmpge 211 204 i232_201 rfl rfl rfl (fun h575 => (by exfalso; omega)) (fun h575 => ?_)
            refine X.aload_n 205 i232_204 rfl rfl rfl ?_
            refine X.callv 208 [] [zi 6, zi 788] [(0, zr g0 44)] i232_205 rfl (by decide) rfl rfl (by omega) rfl rfl (by decide) rfl t235 (Nat.le_of_ble_eq_true rfl) (Nat.le_of_ble_eq_true rfl) rfl ?_
            refine X.aload_n 1 i235_0 rfl rfl rfl ?_
            refine X.getF 4 i235_1 rfl rfl (by decide) rfl rfl ?_
            refine X.bipush 6 i235_4 rfl rfl (by decide) ?_
            refine X.lald 7 i235_6 rfl rfl (by decide) rfl (by omega) ?_
            refine X.ldc2 10 i235_7 rfl rfl (by decide) ?_
            refine X.lcmp 11 i235_10 rfl rfl (fun z576 hz576 => ?_)
            refine X.ifge 24 14 i235_11 rfl rfl rfl (fun h577 => (by exfalso; omega)) (fun h577 => ?_)
            have h577c : (m545 4 45 17) < 64 := by omega
            clear h577 hz576
            refine X.aload_n 15 i235_14 rfl rfl rfl ?_
            refine X.getF 18 i235_15 rfl rfl (by decide) rfl rfl ?_
            refine X.bipush 20 i235_18 rfl rfl (by decide) ?_
            refine X.lald 21 i235_20 rfl rfl (by decide) rfl (by omega) ?_
            refine X.goto 27 i235_21 rfl rfl ?_
            refine X.cut [] i235_27 rfl ?_
            refine X.l2i 28 i235_27 rfl rfl (by omega) ?_
            refine X.reti i235_28 rfl t235 ?_
            show X (EE s) d 232 208 [(0, zr g0 44), (1, zl a1), (3, zl z510)] [zi (m545 4 45 17), zi 6, zi 788] m545 _
            refine X.goto 213 i232_208 rfl rfl ?_
            refine X.imul 214 i232_213 rfl rfl (by omega) ?_
            refine X.iadd 215 i232_214 rfl rfl (by omega) ?_
            refine X.istore 217 [(0, zr g0 44), (1, zl a1), (3, zl z510), (5, zi (788 + (6 * (m545 4 45 17))))] i232_215 rfl rfl rfl ?_
            refine X.aload_n 218 i232_217 rfl rfl rfl ?_
            refine X.getF 221 i232_218 rfl rfl (by decide) rfl rfl ?_
            refine X.bipush 223 i232_221 rfl rfl (by decide) ?_
            refine X.dup2 224 i232_223 rfl rfl ?_
            refine X.lald 225 i232_224 rfl rfl (by decide) rfl (by omega) ?_
            refine X.lconst (y := 1) 226 i232_225 rfl rfl rfl ?_
            refine X.ladd 227 i232_226 rfl rfl (by omega) ?_
            refine X.last' 228 i232_227 rfl rfl (by decide) rfl (by omega) (fun hrm578 m578 hm578 => ?_)
            have hJ579 := w45_17 (hJ547.up (B' := B546 + 1) (by omega)) hm578 (by omega)
            have km578 : ∀ g, m578 g 8 9 = m545 g 8 9 := fun g9 => by rw [hm578]; exact z_upd_o _ _ rfl
            refine X.aload_n 229 i232_228 rfl rfl rfl ?_
            refine X.getF 232 i232_229 rfl rfl (by decide) rfl rfl ?_
            refine X.iload 234 i232_232 rfl rfl rfl ?_
            refine X.aload_n 235 i232_234 rfl rfl rfl ?_
            refine X.getF 238 i232_235 rfl rfl (by decide) rfl rfl ?_
            refine X.iconst 239 i232_238 rfl rfl (by decide) ?_
            refine X.lald 240 i232_239 rfl rfl (by decide) rfl (by omega) ?_
            have h580 := r45_0 hJ579 4
            refine X.last' 241 i232_240 rfl rfl (by decide) rfl (by omega) (fun hrm581 m581 hm581 => ?_)
            have hJ582 := w45_788 hJ579 hm581 (by omega) hrm581
            have km581 : ∀ g, m581 g 8 9 = m578 g 8 9 := fun g9 => by rw [hm581]; exact z_upd_o _ _ rfl
            refine X.aload_n 242 i232_241 rfl rfl rfl ?_
            refine X.getF 245 i232_242 rfl rfl (by decide) rfl rfl ?_
            refine X.iload 247 i232_245 rfl rfl rfl ?_
            refine X.iconst 248 i232_247 rfl rfl (by decide) ?_
            refine X.iadd 249 i232_248 rfl rfl (by omega) ?_
            refine X.aload_n 250 i232_249 rfl rfl rfl ?_
            refine X.getF 253 i232_250 rfl rfl (by decide) rfl rfl ?_
            refine X.bipush 255 i232_253 rfl rfl (by decide) ?_
            refine X.lald 256 i232_255 rfl rfl (by decide) rfl (by omega) ?_
            refine X.last' 257 i232_256 rfl rfl (by decide) rfl (by omega) (fun hrm583 m583 hm583 => ?_)
            have hJ584 := w45_788 hJ582 hm583 (by omega) hrm583
            have km583 : ∀ g, m583 g 8 9 = m581 g 8 9 := fun g9 => by rw [hm583]; exact z_upd_o _ _ rfl
            refine X.aload_n 258 i232_257 rfl rfl rfl ?_
            refine X.getF 261 i232_258 rfl rfl (by decide) rfl rfl ?_
            refine X.iload 263 i232_261 rfl rfl rfl ?_
            refine X.iconst 264 i232_263 rfl rfl (by decide) ?_
            refine X.iadd 265 i232_264 rfl rfl (by omega) ?_
            refine X.aload_n 266 i232_265 rfl rfl rfl ?_
            refine X.getF 269 i232_266 rfl rfl (by decide) rfl rfl ?_
            refine X.bipush 271 i232_269 rfl rfl (by decide) ?_
            refine X.lald 272 i232_271 rfl rfl (by decide) rfl (by omega) ?_
            refine X.last' 273 i232_272 rfl rfl (by decide) rfl (by omega) (fun hrm585 m585 hm585 => ?_)
            have hJ586 := w45_788 hJ584 hm585 (by omega) hrm585
            have km585 : ∀ g, m585 g 8 9 = m583 g 8 9 := fun g9 => by rw [hm585]; exact z_upd_o _ _ rfl
            refine X.aload_n 274 i232_273 rfl rfl rfl ?_
            refine X.getF 277 i232_274 rfl rfl (by decide) rfl rfl ?_
            refine X.iload 279 i232_277 rfl rfl rfl ?_
            refine X.iconst 280 i232_279 rfl rfl (by decide) ?_
            refine X.iadd 281 i232_280 rfl rfl (by omega) ?_
            refine X.aload_n 282 i232_281 rfl rfl rfl ?_
            refine X.getF 285 i232_282 rfl rfl (by decide) rfl rfl ?_
            refine X.bipush 287 i232_285 rfl rfl (by decide) ?_
            refine X.lald 288 i232_287 rfl rfl (by decide) rfl (by omega) ?_
            refine X.last' 289 i232_288 rfl rfl (by decide) rfl (by omega) (fun hrm587 m587 hm587 => ?_)
            have hJ588 := w45_788 hJ586 hm587 (by omega) hrm587
            have km587 : ∀ g, m587 g 8 9 = m585 g 8 9 := fun g9 => by rw [hm587]; exact z_upd_o _ _ rfl
            refine X.aload_n 290 i232_289 rfl rfl rfl ?_
            refine X.getF 293 i232_290 rfl rfl (by decide) rfl rfl ?_
            refine X.iload 295 i232_293 rfl rfl rfl ?_
            refine X.iconst 296 i232_295 rfl rfl (by decide) ?_
            refine X.iadd 297 i232_296 rfl rfl (by omega) ?_
            refine X.aload_n 298 i232_297 rfl rfl rfl ?_
            refine X.getF 301 i232_298 rfl rfl (by decide) rfl rfl ?_
            refine X.bipush 303 i232_301 rfl rfl (by decide) ?_
            refine X.lald 304 i232_303 rfl rfl (by decide) rfl (by omega) ?_
            refine X.last' 305 i232_304 rfl rfl (by decide) rfl (by omega) (fun hrm589 m589 hm589 => ?_)
            have hJ590 := w45_788 hJ588 hm589 (by omega) hrm589
            have km589 : ∀ g, m589 g 8 9 = m587 g 8 9 := fun g9 => by rw [hm589]; exact z_upd_o _ _ rfl
            refine X.aload_n 306 i232_305 rfl rfl rfl ?_
            refine X.getF 309 i232_306 rfl rfl (by decide) rfl rfl ?_
            refine X.iload 311 i232_309 rfl rfl rfl ?_
            refine X.iconst 312 i232_311 rfl rfl (by decide) ?_
            refine X.iadd 313 i232_312 rfl rfl (by omega) ?_
            refine X.lload_n 314 i232_313 rfl rfl rfl ?_
            refine X.last' 315 i232_314 rfl rfl (by decide) rfl (by omega) (fun hrm591 m591 hm591 => ?_)
            have hJ592 := w45_788 hJ590 hm591 (by omega) hrm591
            have km591 : ∀ g, m591 g 8 9 = m589 g 8 9 := fun g9 => by rw [hm591]; exact z_upd_o _ _ rfl
            refine X.aload_n 316 i232_315 rfl rfl rfl ?_
            refine X.callv 319 [] [] [(0, zr g0 44)] i232_316 rfl (by decide) rfl rfl (by omega) rfl rfl (by decide) rfl t233 (Nat.le_of_ble_eq_true rfl) (Nat.le_of_ble_eq_true rfl) rfl ?_
            refine c233_1 (B := B546 + 1) g0  (by omega) (hJ592.up (by omega)) (by omega)  (fun m593 hJ594 km593 => ?_)
            show X (EE s) d 232 319 [(0, zr g0 44), (1, zl a1), (3, zl z510), (5, zi (788 + (6 * (m545 4 45 17))))] [] m593 _
            refine X.lload_n 320 i232_319 rfl rfl rfl ?_
            refine X.lconst (y := 0) 321 i232_320 rfl rfl rfl ?_
            refine X.lcmp 322 i232_321 rfl rfl (fun z596 hz596 => ?_)
            refine X.ifne 329 325 i232_322 rfl rfl rfl (fun h597 => ?_) (fun h597 => ?_)
            · have h597c : a1 ≠ 0 := by omega
              clear h597 hz596
              refine X.cut [] i232_329 rfl ?_
              refine X.retv i232_329 rfl t232 ?_
              exact hQ  m593  (hJ594.up (by omega)) (fun g => by simp only [hkm545, km578, km581, km583, km585, km587, km589, km591, km593]) 
            · have h597c : a1 = 0 := by omega
              clear h597 hz596
              refine X.aload_n 326 i232_325 rfl rfl rfl ?_
              refine X.callv 329 [] [] [(0, zr g0 44)] i232_326 rfl (by decide) rfl rfl (by omega) rfl rfl (by decide) rfl t236 (Nat.le_of_ble_eq_true rfl) (Nat.le_of_ble_eq_true rfl) rfl ?_
              refine c236_1 (B := B546 + 1) g0  (by omega) (hJ594.up (by omega)) (by omega)  (fun m598 hJ599 km598 => ?_)
              show X (EE s) d 232 329 [(0, zr g0 44), (1, zl a1), (3, zl z510), (5, zi (788 + (6 * (m545 4 45 17))))] [] m598 _
              refine X.cut [] i232_329 rfl ?_
              refine X.retv i232_329 rfl t232 ?_
              exact hQ  m598  (hJ599.up (by omega)) (fun g => by simp only [hkm545, km578, km581, km583, km585, km587, km589, km591, km593, km598]) 
      · have h509c : (m 4 45 21) ≠ 1 := by omega
        clear h509 hz508
        refine X.aload_n 67 i232_66 rfl rfl rfl ?_
        refine X.getF 70 i232_67 rfl rfl (by decide) rfl rfl ?_
        refine X.iconst 71 i232_70 rfl rfl (by decide) ?_
        refine X.lald 72 i232_71 rfl rfl (by decide) rfl (by omega) ?_
        have h601 := r45_0 hJ 4
        refine X.aload_n 73 i232_72 rfl rfl rfl ?_
        refine X.getF 76 i232_73 rfl rfl (by decide) rfl rfl ?_
        refine X.bipush 78 i232_76 rfl rfl (by decide) ?_
        refine X.lald 79 i232_78 rfl rfl (by decide) rfl (by omega) ?_
        have h602 := r45_8 hJ 4
        refine X.lremp 80 i232_79 rfl rfl (by omega) ?_
        have hz603 := z_modb (x := (m 4 45 0)) (y := (m 4 45 8)) (by omega) (by omega)
        obtain ⟨z603, ez603⟩ : ∃ z, z = ((m 4 45 0) % (m 4 45 8)) := ⟨_, rfl⟩
        rw [← ez603] at hz603 ⊢
        clear ez603
        refine X.lconst (y := 0) 81 i232_80 rfl rfl rfl ?_
        refine X.lcmp 82 i232_81 rfl rfl (fun z604 hz604 => ?_)
        refine X.ifeq 91 85 i232_82 rfl rfl rfl (fun h605 => ?_) (fun h605 => ?_)
        · have h605c : z603 = 0 := by omega
          clear h605 hz604
          refine X.iconst 92 i232_91 rfl rfl (by decide) ?_
          refine X.i2l 93 i232_92 rfl rfl ?_
          refine X.llF 94 .lor (fun x y => x ||| y) i232_93 rfl rfl rfl (fun _ _ => rfl) (fun z606 hz606 => ?_)
          refine X.lstore_n 95 [(0, zr g0 44), (1, zl a1), (3, zl z606)] i232_94 rfl rfl rfl ?_
          refine X.aload_n 96 i232_95 rfl rfl rfl ?_
          refine X.getF 99 i232_96 rfl rfl (by decide) rfl rfl ?_
          refine X.bipush 101 i232_99 rfl rfl (by decide) ?_
          refine X.lald 102 i232_101 rfl rfl (by decide) rfl (by omega) ?_
          have h607 := r45_17 hJ 4
          refine X.ldc2 105 i232_102 rfl rfl (by decide) ?_
          refine X.lcmp 106 i232_105 rfl rfl (fun z608 hz608 => ?_)
          refine X.iflt 190 109 i232_106 rfl rfl rfl (fun h609 => ?_) (fun h609 => ?_)
          · have h609c : (m 4 45 17) < 64 := by omega
            clear h609 hz608
            refine X.sipush 193 i232_190 rfl rfl (by decide) ?_
            refine X.bipush 195 i232_193 rfl rfl (by decide) ?_
            refine X.aload_n 196 i232_195 rfl rfl rfl ?_
            refine X.callv 199 [] [zi 6, zi 788] [(0, zr g0 44)] i232_196 rfl (by decide) rfl rfl (by omega) rfl rfl (by decide) rfl t235 (Nat.le_of_ble_eq_true rfl) (Nat.le_of_ble_eq_true rfl) rfl ?_
            refine X.aload_n 1 i235_0 rfl rfl rfl ?_
            refine X.getF 4 i235_1 rfl rfl (by decide) rfl rfl ?_
            refine X.bipush 6 i235_4 rfl rfl (by decide) ?_
            refine X.lald 7 i235_6 rfl rfl (by decide) rfl (by omega) ?_
            refine X.ldc2 10 i235_7 rfl rfl (by decide) ?_
            refine X.lcmp 11 i235_10 rfl rfl (fun z610 hz610 => ?_)
            refine X.ifge 24 14 i235_11 rfl rfl rfl (fun h611 => (by exfalso; omega)) (fun h611 => ?_)
            have h611c : (m 4 45 17) < 64 := by omega
            clear h611 hz610
            refine X.aload_n 15 i235_14 rfl rfl rfl ?_
            refine X.getF 18 i235_15 rfl rfl (by decide) rfl rfl ?_
            refine X.bipush 20 i235_18 rfl rfl (by decide) ?_
            refine X.lald 21 i235_20 rfl rfl (by decide) rfl (by omega) ?_
            refine X.goto 27 i235_21 rfl rfl ?_
            refine X.cut [] i235_27 rfl ?_
            refine X.l2i 28 i235_27 rfl rfl (by omega) ?_
            refine X.reti i235_28 rfl t235 ?_
            show X (EE s) d 232 199 [(0, zr g0 44), (1, zl a1), (3, zl z606)] [zi (m 4 45 17), zi 6, zi 788] m _
            refine X.bipush 201 i232_199 rfl rfl (by decide) ?_
            refine X.icmpge 211 204 i232_201 rfl rfl rfl (fun h612 => (by exfalso; omega)) (fun h612 => ?_)
            refine X.aload_n 205 i232_204 rfl rfl rfl ?_
            refine X.callv 208 [] [zi 6, zi 788] [(0, zr g0 44)] i232_205 rfl (by decide) rfl rfl (by omega) rfl rfl (by decide) rfl t235 (Nat.le_of_ble_eq_true rfl) (Nat.le_of_ble_eq_true rfl) rfl ?_
            refine X.aload_n 1 i235_0 rfl rfl rfl ?_
            refine X.getF 4 i235_1 rfl rfl (by decide) rfl rfl ?_
            refine X.bipush 6 i235_4 rfl rfl (by decide) ?_
            refine X.lald 7 i235_6 rfl rfl (by decide) rfl (by omega) ?_
            refine X.ldc2 10 i235_7 rfl rfl (by decide) ?_
            refine X.lcmp 11 i235_10 rfl rfl (fun z613 hz613 => ?_)
            refine X.ifge 24 14 i235_11 rfl rfl rfl (fun h614 => (by exfalso; omega)) (fun h614 => ?_)
            have h614c : (m 4 45 17) < 64 := by omega
            clear h614 hz613
            refine X.aload_n 15 i235_14 rfl rfl rfl ?_
            refine X.getF 18 i235_15 rfl rfl (by decide) rfl rfl ?_
            refine X.bipush 20 i235_18 rfl rfl (by decide) ?_
            refine X.lald 21 i235_20 rfl rfl (by decide) rfl (by omega) ?_
            refine X.goto 27 i235_21 rfl rfl ?_
            refine X.cut [] i235_27 rfl ?_
            refine X.l2i 28 i235_27 rfl rfl (by omega) ?_
            refine X.reti i235_28 rfl t235 ?_
            show X (EE s) d 232 208 [(0, zr g0 44), (1, zl a1), (3, zl z606)] [zi (m 4 45 17), zi 6, zi 788] m _
            refine X.goto 213 i232_208 rfl rfl ?_
            refine X.imul 214 i232_213 rfl rfl (by omega) ?_
            refine X.iadd 215 i232_214 rfl rfl (by omega) ?_
            refine X.istore 217 [(0, zr g0 44), (1, zl a1), (3, zl z606), (5, zi (788 + (6 * (m 4 45 17))))] i232_215 rfl rfl rfl ?_
            refine X.aload_n 218 i232_217 rfl rfl rfl ?_
            refine X.getF 221 i232_218 rfl rfl (by decide) rfl rfl ?_
            refine X.bipush 223 i232_221 rfl rfl (by decide) ?_
            refine X.dup2 224 i232_223 rfl rfl ?_
            refine X.lald 225 i232_224 rfl rfl (by decide) rfl (by omega) ?_
            refine X.lconst (y := 1) 226 i232_225 rfl rfl rfl ?_
            refine X.ladd 227 i232_226 rfl rfl (by omega) ?_
            refine X.last' 228 i232_227 rfl rfl (by decide) rfl (by omega) (fun hrm615 m615 hm615 => ?_)
            have hJ616 := w45_17 (hJ.up (B' := B + 1) (by omega)) hm615 (by omega)
            have km615 : ∀ g, m615 g 8 9 = m g 8 9 := fun g9 => by rw [hm615]; exact z_upd_o _ _ rfl
            refine X.aload_n 229 i232_228 rfl rfl rfl ?_
            refine X.getF 232 i232_229 rfl rfl (by decide) rfl rfl ?_
            refine X.iload 234 i232_232 rfl rfl rfl ?_
            refine X.aload_n 235 i232_234 rfl rfl rfl ?_
            refine X.getF 238 i232_235 rfl rfl (by decide) rfl rfl ?_
            refine X.iconst 239 i232_238 rfl rfl (by decide) ?_
            refine X.lald 240 i232_239 rfl rfl (by decide) rfl (by omega) ?_
            have h617 := r45_0 hJ616 4
            refine X.last' 241 i232_240 rfl rfl (by decide) rfl (by omega) (fun hrm618 m618 hm618 => ?_)
            have hJ619 := w45_788 hJ616 hm618 (by omega) hrm618
            have km618 : ∀ g, m618 g 8 9 = m615 g 8 9 := fun g9 => by rw [hm618]; exact z_upd_o _ _ rfl
            refine X.aload_n 242 i232_241 rfl rfl rfl ?_
            refine X.getF 245 i232_242 rfl rfl (by decide) rfl rfl ?_
            refine X.iload 247 i232_245 rfl rfl rfl ?_
            refine X.iconst 248 i232_247 rfl rfl (by decide) ?_
            refine X.iadd 249 i232_248 rfl rfl (by omega) ?_
            refine X.aload_n 250 i232_249 rfl rfl rfl ?_
            refine X.getF 253 i232_250 rfl rfl (by decide) rfl rfl ?_
            refine X.bipush 255 i232_253 rfl rfl (by decide) ?_
            refine X.lald 256 i232_255 rfl rfl (by decide) rfl (by omega) ?_
            refine X.last' 257 i232_256 rfl rfl (by decide) rfl (by omega) (fun hrm620 m620 hm620 => ?_)
            have hJ621 := w45_788 hJ619 hm620 (by omega) hrm620
            have km620 : ∀ g, m620 g 8 9 = m618 g 8 9 := fun g9 => by rw [hm620]; exact z_upd_o _ _ rfl
            refine X.aload_n 258 i232_257 rfl rfl rfl ?_
            refine X.getF 261 i232_258 rfl rfl (by decide) rfl rfl ?_
            refine X.iload 263 i232_261 rfl rfl rfl ?_
            refine X.iconst 264 i232_263 rfl rfl (by decide) ?_
            refine X.iadd 265 i232_264 rfl rfl (by omega) ?_
            refine X.aload_n 266 i232_265 rfl rfl rfl ?_
            refine X.getF 269 i232_266 rfl rfl (by decide) rfl rfl ?_
            refine X.bipush 271 i232_269 rfl rfl (by decide) ?_
            refine X.lald 272 i232_271 rfl rfl (by decide) rfl (by omega) ?_
            refine X.last' 273 i232_272 rfl rfl (by decide) rfl (by omega) (fun hrm622 m622 hm622 => ?_)
            have hJ623 := w45_788 hJ621 hm622 (by omega) hrm622
            have km622 : ∀ g, m622 g 8 9 = m620 g 8 9 := fun g9 => by rw [hm622]; exact z_upd_o _ _ rfl
            refine X.aload_n 274 i232_273 rfl rfl rfl ?_
            refine X.getF 277 i232_274 rfl rfl (by decide) rfl rfl ?_
            refine X.iload 279 i232_277 rfl rfl rfl ?_
            refine X.iconst 280 i232_279 rfl rfl (by decide) ?_
            refine X.iadd 281 i232_280 rfl rfl (by omega) ?_
            refine X.aload_n 282 i232_281 rfl rfl rfl ?_
            refine X.getF 285 i232_282 rfl rfl (by decide) rfl rfl ?_
            refine X.bipush 287 i232_285 rfl rfl (by decide) ?_
            refine X.lald 288 i232_287 rfl rfl (by decide) rfl (by omega) ?_
            refine X.last' 289 i232_288 rfl rfl (by decide) rfl (by omega) (fun hrm624 m624 hm624 => ?_)
            have hJ625 := w45_788 hJ623 hm624 (by omega) hrm624
            have km624 : ∀ g, m624 g 8 9 = m622 g 8 9 := fun g9 => by rw [hm624]; exact z_upd_o _ _ rfl
            refine X.aload_n 290 i232_289 rfl rfl rfl ?_
            refine X.getF 293 i232_290 rfl rfl (by decide) rfl rfl ?_
            refine X.iload 295 i232_293 rfl rfl rfl ?_
            refine X.iconst 296 i232_295 rfl rfl (by decide) ?_
            refine X.iadd 297 i232_296 rfl rfl (by omega) ?_
            refine X.aload_n 298 i232_297 rfl rfl rfl ?_
            refine X.getF 301 i232_298 rfl rfl (by decide) rfl rfl ?_
            refine X.bipush 303 i232_301 rfl rfl (by decide) ?_
            refine X.lald 304 i232_303 rfl rfl (by decide) rfl (by omega) ?_
            refine X.last' 305 i232_304 rfl rfl (by decide) rfl (by omega) (fun hrm626 m626 hm626 => ?_)
            have hJ627 := w45_788 hJ625 hm626 (by omega) hrm626
            have km626 : ∀ g, m626 g 8 9 = m624 g 8 9 := fun g9 => by rw [hm626]; exact z_upd_o _ _ rfl
            refine X.aload_n 306 i232_305 rfl rfl rfl ?_
            refine X.getF 309 i232_306 rfl rfl (by decide) rfl rfl ?_
            refine X.iload 311 i232_309 rfl rfl rfl ?_
            refine X.iconst 312 i232_311 rfl rfl (by decide) ?_
            refine X.iadd 313 i232_312 rfl rfl (by omega) ?_
            refine X.lload_n 314 i232_313 rfl rfl rfl ?_
            refine X.last' 315 i232_314 rfl rfl (by decide) rfl (by omega) (fun hrm628 m628 hm628 => ?_)
            have hJ629 := w45_788 hJ627 hm628 (by omega) hrm628
            have km628 : ∀ g, m628 g 8 9 = m626 g 8 9 := fun g9 => by rw [hm628]; exact z_upd_o _ _ rfl
            refine X.aload_n 316 i232_315 rfl rfl rfl ?_
            refine X.callv 319 [] [] [(0, zr g0 44)] i232_316 rfl (by decide) rfl rfl (by omega) rfl rfl (by decide) rfl t233 (Nat.le_of_ble_eq_true rfl) (Nat.le_of_ble_eq_true rfl) rfl ?_
            refine c233_1 (B := B + 1) g0  (by omega) (hJ629.up (by omega)) (by omega)  (fun m630 hJ631 km630 => ?_)
            show X (EE s) d 232 319 [(0, zr g0 44), (1, zl a1), (3, zl z606), (5, zi (788 + (6 * (m 4 45 17))))] [] m630 _
            refine X.lload_n 320 i232_319 rfl rfl rfl ?_
            refine X.lconst (y := 0) 321 i232_320 rfl rfl rfl ?_
            refine X.lcmp 322 i232_321 rfl rfl (fun z633 hz633 => ?_)
            refine X.ifne 329 325 i232_322 rfl rfl rfl (fun h634 => ?_) (fun h634 => ?_)
            · have h634c : a1 ≠ 0 := by omega
              clear h634 hz633
              refine X.cut [] i232_329 rfl ?_
              refine X.retv i232_329 rfl t232 ?_
              exact hQ  m630  (hJ631.up (by omega)) (fun g => by simp only [km615, km618, km620, km622, km624, km626, km628, km630]) 
            · have h634c : a1 = 0 := by omega
              clear h634 hz633
              refine X.aload_n 326 i232_325 rfl rfl rfl ?_
              refine X.callv 329 [] [] [(0, zr g0 44)] i232_326 rfl (by decide) rfl rfl (by omega) rfl rfl (by decide) rfl t236 (Nat.le_of_ble_eq_true rfl) (Nat.le_of_ble_eq_true rfl) rfl ?_
              refine c236_1 (B := B + 1) g0  (by omega) (hJ631.up (by omega)) (by omega)  (fun m635 hJ636 km635 => ?_)
              show X (EE s) d 232 329 [(0, zr g0 44), (1, zl a1), (3, zl z606), (5, zi (788 + (6 * (m 4 45 17))))] [] m635 _
              refine X.cut [] i232_329 rfl ?_
              refine X.retv i232_329 rfl t232 ?_
              exact hQ  m635  (hJ636.up (by omega)) (fun g => by simp only [km615, km618, km620, km622, km624, km626, km628, km630, km635]) 
          · have h609c : (m 4 45 17) ≥ 64 := by omega
            clear h609 hz608
            refine X.iconst 110 i232_109 rfl rfl (by decide) ?_
            refine X.istore 112 [(0, zr g0 44), (1, zl a1), (3, zl z606), (5, zi 0)] i232_110 rfl rfl rfl ?_
            refine l232_112_1 (s := s) (m0 := m0) (d := d) g0 a1 z606 (fun g => m g 8 9) (BE := B + 0) (by omega) (by omega) (by omega) (fun  m638 B639 hJ640 hBB639 hkm638 => ?_) ((4 - 0 : Int).toNat + 1) 0 m (B) (hJ.up (by omega)) (by omega) (fun g => rfl) (by omega) (by omega)
            refine X.bipush 149 i232_147 rfl rfl (by decide) ?_
            refine X.istore 151 [(0, zr g0 44), (1, zl a1), (3, zl z606), (5, zi 6)] i232_149 rfl rfl rfl ?_
            refine l232_151_1 (s := s) (m0 := m0) (d := d) g0 a1 z606 (fun g => m g 8 9) (BE := B639 + 0) (by omega) (by omega) (by omega) (fun  m641 B642 hJ643 hBB642 hkm641 => ?_) ((384 - 6 : Int).toNat + 1) 6 m638 (B639) (hJ640.up (by omega)) (by omega) (fun g => by simp only [hkm638]) (by omega) (by omega)
            refine X.sipush 193 i232_190 rfl rfl (by decide) ?_
            refine X.bipush 195 i232_193 rfl rfl (by decide) ?_
            refine X.aload_n 196 i232_195 rfl rfl rfl ?_
            refine X.callv 199 [] [zi 6, zi 788] [(0, zr g0 44)] i232_196 rfl (by decide) rfl rfl (by omega) rfl rfl (by decide) rfl t235 (Nat.le_of_ble_eq_true rfl) (Nat.le_of_ble_eq_true rfl) rfl ?_
            refine X.aload_n 1 i235_0 rfl rfl rfl ?_
            refine X.getF 4 i235_1 rfl rfl (by decide) rfl rfl ?_
            refine X.bipush 6 i235_4 rfl rfl (by decide) ?_
            refine X.lald 7 i235_6 rfl rfl (by decide) rfl (by omega) ?_
            have h644 := r45_17 hJ643 4
            refine X.ldc2 10 i235_7 rfl rfl (by decide) ?_
            refine X.lcmp 11 i235_10 rfl rfl (fun z645 hz645 => ?_)
            refine X.ifge 24 14 i235_11 rfl rfl rfl (fun h646 => ?_) (fun h646 => ?_)
            · have h646c : (m641 4 45 17) ≥ 64 := by omega
              clear h646 hz645
              refine X.cut [] i235_24 rfl ?_
              refine X.ldc2 27 i235_24 rfl rfl (by decide) ?_
              refine X.l2i 28 i235_27 rfl rfl (by omega) ?_
              refine X.reti i235_28 rfl t235 ?_
              show X (EE s) d 232 199 [(0, zr g0 44), (1, zl a1), (3, zl z606)] [zi 64, zi 6, zi 788] m641 _
              refine X.bipush 201 i232_199 rfl rfl (by decide) ?_
              refine X.icmpge 211 204 i232_201 rfl rfl rfl (fun h647 => ?_) (fun h647 => (by exfalso; omega))
              refine X.bipush 213 i232_211 rfl rfl (by decide) ?_
              refine X.imul 214 i232_213 rfl rfl (by omega) ?_
              refine X.iadd 215 i232_214 rfl rfl (by omega) ?_
              refine X.istore 217 [(0, zr g0 44), (1, zl a1), (3, zl z606), (5, zi (788 + (6 * 63)))] i232_215 rfl rfl rfl ?_
              refine X.aload_n 218 i232_217 rfl rfl rfl ?_
              refine X.getF 221 i232_218 rfl rfl (by decide) rfl rfl ?_
              refine X.bipush 223 i232_221 rfl rfl (by decide) ?_
              refine X.dup2 224 i232_223 rfl rfl ?_
              refine X.lald 225 i232_224 rfl rfl (by decide) rfl (by omega) ?_
              refine X.lconst (y := 1) 226 i232_225 rfl rfl rfl ?_
              refine X.ladd 227 i232_226 rfl rfl (by omega) ?_
              refine X.last' 228 i232_227 rfl rfl (by decide) rfl (by omega) (fun hrm648 m648 hm648 => ?_)
              have hJ649 := w45_17 (hJ643.up (B' := B642 + 1) (by omega)) hm648 (by omega)
              have km648 : ∀ g, m648 g 8 9 = m641 g 8 9 := fun g9 => by rw [hm648]; exact z_upd_o _ _ rfl
              refine X.aload_n 229 i232_228 rfl rfl rfl ?_
              refine X.getF 232 i232_229 rfl rfl (by decide) rfl rfl ?_
              refine X.iload 234 i232_232 rfl rfl rfl ?_
              refine X.aload_n 235 i232_234 rfl rfl rfl ?_
              refine X.getF 238 i232_235 rfl rfl (by decide) rfl rfl ?_
              refine X.iconst 239 i232_238 rfl rfl (by decide) ?_
              refine X.lald 240 i232_239 rfl rfl (by decide) rfl (by omega) ?_
              have h650 := r45_0 hJ649 4
              refine X.last' 241 i232_240 rfl rfl (by decide) rfl (by omega) (fun hrm651 m651 hm651 => ?_)
              have hJ652 := w45_788 hJ649 hm651 (by omega) hrm651
              have km651 : ∀ g, m651 g 8 9 = m648 g 8 9 := fun g9 => by rw [hm651]; exact z_upd_o _ _ rfl
              refine X.aload_n 242 i232_241 rfl rfl rfl ?_
              refine X.getF 245 i232_242 rfl rfl (by decide) rfl rfl ?_
              refine X.iload 247 i232_245 rfl rfl rfl ?_
              refine X.iconst 248 i232_247 rfl rfl (by decide) ?_
              refine X.iadd 249 i232_248 rfl rfl (by omega) ?_
              refine X.aload_n 250 i232_249 rfl rfl rfl ?_
              refine X.getF 253 i232_250 rfl rfl (by decide) rfl rfl ?_
              refine X.bipush 255 i232_253 rfl rfl (by decide) ?_
              refine X.lald 256 i232_255 rfl rfl (by decide) rfl (by omega) ?_
              refine X.last' 257 i232_256 rfl rfl (by decide) rfl (by omega) (fun hrm653 m653 hm653 => ?_)
              have hJ654 := w45_788 hJ652 hm653 (by omega) hrm653
              have km653 : ∀ g, m653 g 8 9 = m651 g 8 9 := fun g9 => by rw [hm653]; exact z_upd_o _ _ rfl
              refine X.aload_n 258 i232_257 rfl rfl rfl ?_
              refine X.getF 261 i232_258 rfl rfl (by decide) rfl rfl ?_
              refine X.iload 263 i232_261 rfl rfl rfl ?_
              refine X.iconst 264 i232_263 rfl rfl (by decide) ?_
              refine X.iadd 265 i232_264 rfl rfl (by omega) ?_
              refine X.aload_n 266 i232_265 rfl rfl rfl ?_
              refine X.getF 269 i232_266 rfl rfl (by decide) rfl rfl ?_
              refine X.bipush 271 i232_269 rfl rfl (by decide) ?_
              refine X.lald 272 i232_271 rfl rfl (by decide) rfl (by omega) ?_
              refine X.last' 273 i232_272 rfl rfl (by decide) rfl (by omega) (fun hrm655 m655 hm655 => ?_)
              have hJ656 := w45_788 hJ654 hm655 (by omega) hrm655
              have km655 : ∀ g, m655 g 8 9 = m653 g 8 9 := fun g9 => by rw [hm655]; exact z_upd_o _ _ rfl
              refine X.aload_n 274 i232_273 rfl rfl rfl ?_
              refine X.getF 277 i232_274 rfl rfl (by decide) rfl rfl ?_
              refine X.iload 279 i232_277 rfl rfl rfl ?_
              refine X.iconst 280 i232_279 rfl rfl (by decide) ?_
              refine X.iadd 281 i232_280 rfl rfl (by omega) ?_
              refine X.aload_n 282 i232_281 rfl rfl rfl ?_
              refine X.getF 285 i232_282 rfl rfl (by decide) rfl rfl ?_
              refine X.bipush 287 i232_285 rfl rfl (by decide) ?_
              refine X.lald 288 i232_287 rfl rfl (by decide) rfl (by omega) ?_
              refine X.last' 289 i232_288 rfl rfl (by decide) rfl (by omega) (fun hrm657 m657 hm657 => ?_)
              have hJ658 := w45_788 hJ656 hm657 (by omega) hrm657
              have km657 : ∀ g, m657 g 8 9 = m655 g 8 9 := fun g9 => by rw [hm657]; exact z_upd_o _ _ rfl
              refine X.aload_n 290 i232_289 rfl rfl rfl ?_
              refine X.getF 293 i232_290 rfl rfl (by decide) rfl rfl ?_
              refine X.iload 295 i232_293 rfl rfl rfl ?_
              refine X.iconst 296 i232_295 rfl rfl (by decide) ?_
              refine X.iadd 297 i232_296 rfl rfl (by omega) ?_
              refine X.aload_n 298 i232_297 rfl rfl rfl ?_
              refine X.getF 301 i232_298 rfl rfl (by decide) rfl rfl ?_
              refine X.bipush 303 i232_301 rfl rfl (by decide) ?_
              refine X.lald 304 i232_303 rfl rfl (by decide) rfl (by omega) ?_
              refine X.last' 305 i232_304 rfl rfl (by decide) rfl (by omega) (fun hrm659 m659 hm659 => ?_)
              have hJ660 := w45_788 hJ658 hm659 (by omega) hrm659
              have km659 : ∀ g, m659 g 8 9 = m657 g 8 9 := fun g9 => by rw [hm659]; exact z_upd_o _ _ rfl
              refine X.aload_n 306 i232_305 rfl rfl rfl ?_
              refine X.getF 309 i232_306 rfl rfl (by decide) rfl rfl ?_
              refine X.iload 311 i232_309 rfl rfl rfl ?_
              refine X.iconst 312 i232_311 rfl rfl (by decide) ?_
              refine X.iadd 313 i232_312 rfl rfl (by omega) ?_
              refine X.lload_n 314 i232_313 rfl rfl rfl ?_
              refine X.last' 315 i232_314 rfl rfl (by decide) rfl (by omega) (fun hrm661 m661 hm661 => ?_)
              have hJ662 := w45_788 hJ660 hm661 (by omega) hrm661
              have km661 : ∀ g, m661 g 8 9 = m659 g 8 9 := fun g9 => by rw [hm661]; exact z_upd_o _ _ rfl
              refine X.aload_n 316 i232_315 rfl rfl rfl ?_
              refine X.callv 319 [] [] [(0, zr g0 44)] i232_316 rfl (by decide) rfl rfl (by omega) rfl rfl (by decide) rfl t233 (Nat.le_of_ble_eq_true rfl) (Nat.le_of_ble_eq_true rfl) rfl ?_
              refine c233_1 (B := B642 + 1) g0  (by omega) (hJ662.up (by omega)) (by omega)  (fun m663 hJ664 km663 => ?_)
              show X (EE s) d 232 319 [(0, zr g0 44), (1, zl a1), (3, zl z606), (5, zi (788 + (6 * 63)))] [] m663 _
              refine X.lload_n 320 i232_319 rfl rfl rfl ?_
              refine X.lconst (y := 0) 321 i232_320 rfl rfl rfl ?_
              refine X.lcmp 322 i232_321 rfl rfl (fun z666 hz666 => ?_)
              refine X.ifne 329 325 i232_322 rfl rfl rfl (fun h667 => ?_) (fun h667 => ?_)
              · have h667c : a1 ≠ 0 := by omega
                clear h667 hz666
                refine X.cut [] i232_329 rfl ?_
                refine X.retv i232_329 rfl t232 ?_
                exact hQ  m663  (hJ664.up (by omega)) (fun g => by simp only [hkm641, km648, km651, km653, km655, km657, km659, km661, km663]) 
              · have h667c : a1 = 0 := by omega
                clear h667 hz666
                refine X.aload_n 326 i232_325 rfl rfl rfl ?_
                refine X.callv 329 [] [] [(0, zr g0 44)] i232_326 rfl (by decide) rfl rfl (by omega) rfl rfl (by decide) rfl t236 (Nat.le_of_ble_eq_true rfl) (Nat.le_of_ble_eq_true rfl) rfl ?_
                refine c236_1 (B := B642 + 1) g0  (by omega) (hJ664.up (by omega)) (by omega)  (fun m668 hJ669 km668 => ?_)
                show X (EE s) d 232 329 [(0, zr g0 44), (1, zl a1), (3, zl z606), (5, zi (788 + (6 * 63)))] [] m668 _
                refine X.cut [] i232_329 rfl ?_
                refine X.retv i232_329 rfl t232 ?_
                exact hQ  m668  (hJ669.up (by omega)) (fun g => by simp only [hkm641, km648, km651, km653, km655, km657, km659, km661, km663, km668]) 
            · have h646c : (m641 4 45 17) < 64 := by omega
              clear h646 hz645
              refine X.aload_n 15 i235_14 rfl rfl rfl ?_
              refine X.getF 18 i235_15 rfl rfl (by decide) rfl rfl ?_
              refine X.bipush 20 i235_18 rfl rfl (by decide) ?_
              refine X.lald 21 i235_20 rfl rfl (by decide) rfl (by omega) ?_
              refine X.goto 27 i235_21 rfl rfl ?_
              refine X.cut [] i235_27 rfl ?_
              refine X.l2i 28 i235_27 rfl rfl (by omega) ?_
              refine X.reti i235_28 rfl t235 ?_
              show X (EE s) d 232 199 [(0, zr g0 44), (1, zl a1), (3, zl z606)] [zi (m641 4 45 17), zi 6, zi 788] m641 _
              refine X.bipush 201 i232_199 rfl rfl (by decide) ?_
              refine X.icmpge 211 204 i232_201 rfl rfl rfl (fun h671 => (by exfalso; omega)) (fun h671 => ?_)
              refine X.aload_n 205 i232_204 rfl rfl rfl ?_
              refine X.callv 208 [] [zi 6, zi 788] [(0, zr g0 44)] i232_205 rfl (by decide) rfl rfl (by omega) rfl rfl (by decide) rfl t235 (Nat.le_of_ble_eq_true rfl) (Nat.le_of_ble_eq_true rfl) rfl ?_
              refine X.aload_n 1 i235_0 rfl rfl rfl ?_
              refine X.getF 4 i235_1 rfl rfl (by decide) rfl rfl ?_
              refine X.bipush 6 i235_4 rfl rfl (by decide) ?_
              refine X.lald 7 i235_6 rfl rfl (by decide) rfl (by omega) ?_
              refine X.ldc2 10 i235_7 rfl rfl (by decide) ?_
              refine X.lcmp 11 i235_10 rfl rfl (fun z672 hz672 => ?_)
              refine X.ifge 24 14 i235_11 rfl rfl rfl (fun h673 => (by exfalso; omega)) (fun h673 => ?_)
              have h673c : (m641 4 45 17) < 64 := by omega
              clear h673 hz672
              refine X.aload_n 15 i235_14 rfl rfl rfl ?_
              refine X.getF 18 i235_15 rfl rfl (by decide) rfl rfl ?_
              refine X.bipush 20 i235_18 rfl rfl (by decide) ?_
              refine X.lald 21 i235_20 rfl rfl (by decide) rfl (by omega) ?_
              refine X.goto 27 i235_21 rfl rfl ?_
              refine X.cut [] i235_27 rfl ?_
              refine X.l2i 28 i235_27 rfl rfl (by omega) ?_
              refine X.reti i235_28 rfl t235 ?_
              show X (EE s) d 232 208 [(0, zr g0 44), (1, zl a1), (3, zl z606)] [zi (m641 4 45 17), zi 6, zi 788] m641 _
              refine X.goto 213 i232_208 rfl rfl ?_
              refine X.imul 214 i232_213 rfl rfl (by omega) ?_
              refine X.iadd 215 i232_214 rfl rfl (by omega) ?_
              refine X.istore 217 [(0, zr g0 44), (1, zl a1), (3, zl z606), (5, zi (788 + (6 * (m641 4 45 17))))] i232_215 rfl rfl rfl ?_
              refine X.aload_n 218 i232_217 rfl rfl rfl ?_
              refine X.getF 221 i232_218 rfl rfl (by decide) rfl rfl ?_
              refine X.bipush 223 i232_221 rfl rfl (by decide) ?_
              refine X.dup2 224 i232_223 rfl rfl ?_
              refine X.lald 225 i232_224 rfl rfl (by decide) rfl (by omega) ?_
              refine X.lconst (y := 1) 226 i232_225 rfl rfl rfl ?_
              refine X.ladd 227 i232_226 rfl rfl (by omega) ?_
              refine X.last' 228 i232_227 rfl rfl (by decide) rfl (by omega) (fun hrm674 m674 hm674 => ?_)
              have hJ675 := w45_17 (hJ643.up (B' := B642 + 1) (by omega)) hm674 (by omega)
              have km674 : ∀ g, m674 g 8 9 = m641 g 8 9 := fun g9 => by rw [hm674]; exact z_upd_o _ _ rfl
              refine X.aload_n 229 i232_228 rfl rfl rfl ?_
              refine X.getF 232 i232_229 rfl rfl (by decide) rfl rfl ?_
              refine X.iload 234 i232_232 rfl rfl rfl ?_
              refine X.aload_n 235 i232_234 rfl rfl rfl ?_
              refine X.getF 238 i232_235 rfl rfl (by decide) rfl rfl ?_
              refine X.iconst 239 i232_238 rfl rfl (by decide) ?_
              refine X.lald 240 i232_239 rfl rfl (by decide) rfl (by omega) ?_
              have h676 := r45_0 hJ675 4
              refine X.last' 241 i232_240 rfl rfl (by decide) rfl (by omega) (fun hrm677 m677 hm677 => ?_)
              have hJ678 := w45_788 hJ675 hm677 (by omega) hrm677
              have km677 : ∀ g, m677 g 8 9 = m674 g 8 9 := fun g9 => by rw [hm677]; exact z_upd_o _ _ rfl
              refine X.aload_n 242 i232_241 rfl rfl rfl ?_
              refine X.getF 245 i232_242 rfl rfl (by decide) rfl rfl ?_
              refine X.iload 247 i232_245 rfl rfl rfl ?_
              refine X.iconst 248 i232_247 rfl rfl (by decide) ?_
              refine X.iadd 249 i232_248 rfl rfl (by omega) ?_
              refine X.aload_n 250 i232_249 rfl rfl rfl ?_
              refine X.getF 253 i232_250 rfl rfl (by decide) rfl rfl ?_
              refine X.bipush 255 i232_253 rfl rfl (by decide) ?_
              refine X.lald 256 i232_255 rfl rfl (by decide) rfl (by omega) ?_
              refine X.last' 257 i232_256 rfl rfl (by decide) rfl (by omega) (fun hrm679 m679 hm679 => ?_)
              have hJ680 := w45_788 hJ678 hm679 (by omega) hrm679
              have km679 : ∀ g, m679 g 8 9 = m677 g 8 9 := fun g9 => by rw [hm679]; exact z_upd_o _ _ rfl
              refine X.aload_n 258 i232_257 rfl rfl rfl ?_
              refine X.getF 261 i232_258 rfl rfl (by decide) rfl rfl ?_
              refine X.iload 263 i232_261 rfl rfl rfl ?_
              refine X.iconst 264 i232_263 rfl rfl (by decide) ?_
              refine X.iadd 265 i232_264 rfl rfl (by omega) ?_
              refine X.aload_n 266 i232_265 rfl rfl rfl ?_
              refine X.getF 269 i232_266 rfl rfl (by decide) rfl rfl ?_
              refine X.bipush 271 i232_269 rfl rfl (by decide) ?_
              refine X.lald 272 i232_271 rfl rfl (by decide) rfl (by omega) ?_
              refine X.last' 273 i232_272 rfl rfl (by decide) rfl (by omega) (fun hrm681 m681 hm681 => ?_)
              have hJ682 := w45_788 hJ680 hm681 (by omega) hrm681
              have km681 : ∀ g, m681 g 8 9 = m679 g 8 9 := fun g9 => by rw [hm681]; exact z_upd_o _ _ rfl
              refine X.aload_n 274 i232_273 rfl rfl rfl ?_
              refine X.getF 277 i232_274 rfl rfl (by decide) rfl rfl ?_
              refine X.iload 279 i232_277 rfl rfl rfl ?_
              refine X.iconst 280 i232_279 rfl rfl (by decide) ?_
              refine X.iadd 281 i232_280 rfl rfl (by omega) ?_
              refine X.aload_n 282 i232_281 rfl rfl rfl ?_
              refine X.getF 285 i232_282 rfl rfl (by decide) rfl rfl ?_
              refine X.bipush 287 i232_285 rfl rfl (by decide) ?_
              refine X.lald 288 i232_287 rfl rfl (by decide) rfl (by omega) ?_
              refine X.last' 289 i232_288 rfl rfl (by decide) rfl (by omega) (fun hrm683 m683 hm683 => ?_)
              have hJ684 := w45_788 hJ682 hm683 (by omega) hrm683
              have km683 : ∀ g, m683 g 8 9 = m681 g 8 9 := fun g9 => by rw [hm683]; exact z_upd_o _ _ rfl
              refine X.aload_n 290 i232_289 rfl rfl rfl ?_
              refine X.getF 293 i232_290 rfl rfl (by decide) rfl rfl ?_
              refine X.iload 295 i232_293 rfl rfl rfl ?_
              refine X.iconst 296 i232_295 rfl rfl (by decide) ?_
              refine X.iadd 297 i232_296 rfl rfl (by omega) ?_
              refine X.aload_n 298 i232_297 rfl rfl rfl ?_
              refine X.getF 301 i232_298 rfl rfl (by decide) rfl rfl ?_
              refine X.bipush 303 i232_301 rfl rfl (by decide) ?_
              refine X.lald 304 i232_303 rfl rfl (by decide) rfl (by omega) ?_
              refine X.last' 305 i232_304 rfl rfl (by decide) rfl (by omega) (fun hrm685 m685 hm685 => ?_)
              have hJ686 := w45_788 hJ684 hm685 (by omega) hrm685
              have km685 : ∀ g, m685 g 8 9 = m683 g 8 9 := fun g9 => by rw [hm685]; exact z_upd_o _ _ rfl
              refine X.aload_n 306 i232_305 rfl rfl rfl ?_
              refine X.getF 309 i232_306 rfl rfl (by decide) rfl rfl ?_
              refine X.iload 311 i232_309 rfl rfl rfl ?_
              refine X.iconst 312 i232_311 rfl rfl (by decide) ?_
              refine X.iadd 313 i232_312 rfl rfl (by omega) ?_
              refine X.lload_n 314 i232_313 rfl rfl rfl ?_
              refine X.last' 315 i232_314 rfl rfl (by decide) rfl (by omega) (fun hrm687 m687 hm687 => ?_)
              have hJ688 := w45_788 hJ686 hm687 (by omega) hrm687
              have km687 : ∀ g, m687 g 8 9 = m685 g 8 9 := fun g9 => by rw [hm687]; exact z_upd_o _ _ rfl
              refine X.aload_n 316 i232_315 rfl rfl rfl ?_
              refine X.callv 319 [] [] [(0, zr g0 44)] i232_316 rfl (by decide) rfl rfl (by omega) rfl rfl (by decide) rfl t233 (Nat.le_of_ble_eq_true rfl) (Nat.le_of_ble_eq_true rfl) rfl ?_
              refine c233_1 (B := B642 + 1) g0  (by omega) (hJ688.up (by omega)) (by omega)  (fun m689 hJ690 km689 => ?_)
              show X (EE s) d 232 319 [(0, zr g0 44), (1, zl a1), (3, zl z606), (5, zi (788 + (6 * (m641 4 45 17))))] [] m689 _
              refine X.lload_n 320 i232_319 rfl rfl rfl ?_
              refine X.lconst (y := 0) 321 i232_320 rfl rfl rfl ?_
              refine X.lcmp 322 i232_321 rfl rfl (fun z692 hz692 => ?_)
              refine X.ifne 329 325 i232_322 rfl rfl rfl (fun h693 => ?_) (fun h693 => ?_)
              · have h693c : a1 ≠ 0 := by omega
                clear h693 hz692
                refine X.cut [] i232_329 rfl ?_
                refine X.retv i232_329 rfl t232 ?_
                exact hQ  m689  (hJ690.up (by omega)) (fun g => by simp only [hkm641, km674, km677, km679, km681, km683, km685, km687, km689]) 
              · have h693c : a1 = 0 := by omega
                clear h693 hz692
                refine X.aload_n 326 i232_325 rfl rfl rfl ?_
                refine X.callv 329 [] [] [(0, zr g0 44)] i232_326 rfl (by decide) rfl rfl (by omega) rfl rfl (by decide) rfl t236 (Nat.le_of_ble_eq_true rfl) (Nat.le_of_ble_eq_true rfl) rfl ?_
                refine c236_1 (B := B642 + 1) g0  (by omega) (hJ690.up (by omega)) (by omega)  (fun m694 hJ695 km694 => ?_)
                show X (EE s) d 232 329 [(0, zr g0 44), (1, zl a1), (3, zl z606), (5, zi (788 + (6 * (m641 4 45 17))))] [] m694 _
                refine X.cut [] i232_329 rfl ?_
                refine X.retv i232_329 rfl t232 ?_
                exact hQ  m694  (hJ695.up (by omega)) (fun g => by simp only [hkm641, km674, km677, km679, km681, km683, km685, km687, km689, km694]) 
        · have h605c : z603 ≠ 0 := by omega
          clear h605 hz604
          refine X.sipush 88 i232_85 rfl rfl (by decide) ?_
          refine X.goto 92 i232_88 rfl rfl ?_
          refine X.i2l 93 i232_92 rfl rfl ?_
          refine X.llF 94 .lor (fun x y => x ||| y) i232_93 rfl rfl rfl (fun _ _ => rfl) (fun z697 hz697 => ?_)
          refine X.lstore_n 95 [(0, zr g0 44), (1, zl a1), (3, zl z697)] i232_94 rfl rfl rfl ?_
          refine X.aload_n 96 i232_95 rfl rfl rfl ?_
          refine X.getF 99 i232_96 rfl rfl (by decide) rfl rfl ?_
          refine X.bipush 101 i232_99 rfl rfl (by decide) ?_
          refine X.lald 102 i232_101 rfl rfl (by decide) rfl (by omega) ?_
          have h698 := r45_17 hJ 4
          refine X.ldc2 105 i232_102 rfl rfl (by decide) ?_
          refine X.lcmp 106 i232_105 rfl rfl (fun z699 hz699 => ?_)
          refine X.iflt 190 109 i232_106 rfl rfl rfl (fun h700 => ?_) (fun h700 => ?_)
          · have h700c : (m 4 45 17) < 64 := by omega
            clear h700 hz699
            refine X.sipush 193 i232_190 rfl rfl (by decide) ?_
            refine X.bipush 195 i232_193 rfl rfl (by decide) ?_
            refine X.aload_n 196 i232_195 rfl rfl rfl ?_
            refine X.callv 199 [] [zi 6, zi 788] [(0, zr g0 44)] i232_196 rfl (by decide) rfl rfl (by omega) rfl rfl (by decide) rfl t235 (Nat.le_of_ble_eq_true rfl) (Nat.le_of_ble_eq_true rfl) rfl ?_
            refine X.aload_n 1 i235_0 rfl rfl rfl ?_
            refine X.getF 4 i235_1 rfl rfl (by decide) rfl rfl ?_
            refine X.bipush 6 i235_4 rfl rfl (by decide) ?_
            refine X.lald 7 i235_6 rfl rfl (by decide) rfl (by omega) ?_
            refine X.ldc2 10 i235_7 rfl rfl (by decide) ?_
            refine X.lcmp 11 i235_10 rfl rfl (fun z701 hz701 => ?_)
            refine X.ifge 24 14 i235_11 rfl rfl rfl (fun h702 => (by exfalso; omega)) (fun h702 => ?_)
            have h702c : (m 4 45 17) < 64 := by omega
            clear h702 hz701
            refine X.aload_n 15 i235_14 rfl rfl rfl ?_
            refine X.getF 18 i235_15 rfl rfl (by decide) rfl rfl ?_
            refine X.bipush 20 i235_18 rfl rfl (by decide) ?_
            refine X.lald 21 i235_20 rfl rfl (by decide) rfl (by omega) ?_
            refine X.goto 27 i235_21 rfl rfl ?_
            refine X.cut [] i235_27 rfl ?_
            refine X.l2i 28 i235_27 rfl rfl (by omega) ?_
            refine X.reti i235_28 rfl t235 ?_
            show X (EE s) d 232 199 [(0, zr g0 44), (1, zl a1), (3, zl z697)] [zi (m 4 45 17), zi 6, zi 788] m _
            refine X.bipush 201 i232_199 rfl rfl (by decide) ?_
            refine X.icmpge 211 204 i232_201 rfl rfl rfl (fun h703 => (by exfalso; omega)) (fun h703 => ?_)
            refine X.aload_n 205 i232_204 rfl rfl rfl ?_
            refine X.callv 208 [] [zi 6, zi 788] [(0, zr g0 44)] i232_205 rfl (by decide) rfl rfl (by omega) rfl rfl (by decide) rfl t235 (Nat.le_of_ble_eq_true rfl) (Nat.le_of_ble_eq_true rfl) rfl ?_
            refine X.aload_n 1 i235_0 rfl rfl rfl ?_
            refine X.getF 4 i235_1 rfl rfl (by decide) rfl rfl ?_
            refine X.bipush 6 i235_4 rfl rfl (by decide) ?_
            refine X.lald 7 i235_6 rfl rfl (by decide) rfl (by omega) ?_
            refine X.ldc2 10 i235_7 rfl rfl (by decide) ?_
            refine X.lcmp 11 i235_10 rfl rfl (fun z704 hz704 => ?_)
            refine X.ifge 24 14 i235_11 rfl rfl rfl (fun h705 => (by exfalso; omega)) (fun h705 => ?_)
            have h705c : (m 4 45 17) < 64 := by omega
            clear h705 hz704
            refine X.aload_n 15 i235_14 rfl rfl rfl ?_
            refine X.getF 18 i235_15 rfl rfl (by decide) rfl rfl ?_
            refine X.bipush 20 i235_18 rfl rfl (by decide) ?_
            refine X.lald 21 i235_20 rfl rfl (by decide) rfl (by omega) ?_
            refine X.goto 27 i235_21 rfl rfl ?_
            refine X.cut [] i235_27 rfl ?_
            refine X.l2i 28 i235_27 rfl rfl (by omega) ?_
            refine X.reti i235_28 rfl t235 ?_
            show X (EE s) d 232 208 [(0, zr g0 44), (1, zl a1), (3, zl z697)] [zi (m 4 45 17), zi 6, zi 788] m _
            refine X.goto 213 i232_208 rfl rfl ?_
            refine X.imul 214 i232_213 rfl rfl (by omega) ?_
            refine X.iadd 215 i232_214 rfl rfl (by omega) ?_
            refine X.istore 217 [(0, zr g0 44), (1, zl a1), (3, zl z697), (5, zi (788 + (6 * (m 4 45 17))))] i232_215 rfl rfl rfl ?_
            refine X.aload_n 218 i232_217 rfl rfl rfl ?_
            refine X.getF 221 i232_218 rfl rfl (by decide) rfl rfl ?_
            refine X.bipush 223 i232_221 rfl rfl (by decide) ?_
            refine X.dup2 224 i232_223 rfl rfl ?_
            refine X.lald 225 i232_224 rfl rfl (by decide) rfl (by omega) ?_
            refine X.lconst (y := 1) 226 i232_225 rfl rfl rfl ?_
            refine X.ladd 227 i232_226 rfl rfl (by omega) ?_
            refine X.last' 228 i232_227 rfl rfl (by decide) rfl (by omega) (fun hrm706 m706 hm706 => ?_)
            have hJ707 := w45_17 (hJ.up (B' := B + 1) (by omega)) hm706 (by omega)
            have km706 : ∀ g, m706 g 8 9 = m g 8 9 := fun g9 => by rw [hm706]; exact z_upd_o _ _ rfl
            refine X.aload_n 229 i232_228 rfl rfl rfl ?_
            refine X.getF 232 i232_229 rfl rfl (by decide) rfl rfl ?_
            refine X.iload 234 i232_232 rfl rfl rfl ?_
            refine X.aload_n 235 i232_234 rfl rfl rfl ?_
            refine X.getF 238 i232_235 rfl rfl (by decide) rfl rfl ?_
            refine X.iconst 239 i232_238 rfl rfl (by decide) ?_
            refine X.lald 240 i232_239 rfl rfl (by decide) rfl (by omega) ?_
            have h708 := r45_0 hJ707 4
            refine X.last' 241 i232_240 rfl rfl (by decide) rfl (by omega) (fun hrm709 m709 hm709 => ?_)
            have hJ710 := w45_788 hJ707 hm709 (by omega) hrm709
            have km709 : ∀ g, m709 g 8 9 = m706 g 8 9 := fun g9 => by rw [hm709]; exact z_upd_o _ _ rfl
            refine X.aload_n 242 i232_241 rfl rfl rfl ?_
            refine X.getF 245 i232_242 rfl rfl (by decide) rfl rfl ?_
            refine X.iload 247 i232_245 rfl rfl rfl ?_
            refine X.iconst 248 i232_247 rfl rfl (by decide) ?_
            refine X.iadd 249 i232_248 rfl rfl (by omega) ?_
            refine X.aload_n 250 i232_249 rfl rfl rfl ?_
            refine X.getF 253 i232_250 rfl rfl (by decide) rfl rfl ?_
            refine X.bipush 255 i232_253 rfl rfl (by decide) ?_
            refine X.lald 256 i232_255 rfl rfl (by decide) rfl (by omega) ?_
            refine X.last' 257 i232_256 rfl rfl (by decide) rfl (by omega) (fun hrm711 m711 hm711 => ?_)
            have hJ712 := w45_788 hJ710 hm711 (by omega) hrm711
            have km711 : ∀ g, m711 g 8 9 = m709 g 8 9 := fun g9 => by rw [hm711]; exact z_upd_o _ _ rfl
            refine X.aload_n 258 i232_257 rfl rfl rfl ?_
            refine X.getF 261 i232_258 rfl rfl (by decide) rfl rfl ?_
            refine X.iload 263 i232_261 rfl rfl rfl ?_
            refine X.iconst 264 i232_263 rfl rfl (by decide) ?_
            refine X.iadd 265 i232_264 rfl rfl (by omega) ?_
            refine X.aload_n 266 i232_265 rfl rfl rfl ?_
            refine X.getF 269 i232_266 rfl rfl (by decide) rfl rfl ?_
            refine X.bipush 271 i232_269 rfl rfl (by decide) ?_
            refine X.lald 272 i232_271 rfl rfl (by decide) rfl (by omega) ?_
            refine X.last' 273 i232_272 rfl rfl (by decide) rfl (by omega) (fun hrm713 m713 hm713 => ?_)
            have hJ714 := w45_788 hJ712 hm713 (by omega) hrm713
            have km713 : ∀ g, m713 g 8 9 = m711 g 8 9 := fun g9 => by rw [hm713]; exact z_upd_o _ _ rfl
            refine X.aload_n 274 i232_273 rfl rfl rfl ?_
            refine X.getF 277 i232_274 rfl rfl (by decide) rfl rfl ?_
            refine X.iload 279 i232_277 rfl rfl rfl ?_
            refine X.iconst 280 i232_279 rfl rfl (by decide) ?_
            refine X.iadd 281 i232_280 rfl rfl (by omega) ?_
            refine X.aload_n 282 i232_281 rfl rfl rfl ?_
            refine X.getF 285 i232_282 rfl rfl (by decide) rfl rfl ?_
            refine X.bipush 287 i232_285 rfl rfl (by decide) ?_
            refine X.lald 288 i232_287 rfl rfl (by decide) rfl (by omega) ?_
            refine X.last' 289 i232_288 rfl rfl (by decide) rfl (by omega) (fun hrm715 m715 hm715 => ?_)
            have hJ716 := w45_788 hJ714 hm715 (by omega) hrm715
            have km715 : ∀ g, m715 g 8 9 = m713 g 8 9 := fun g9 => by rw [hm715]; exact z_upd_o _ _ rfl
            refine X.aload_n 290 i232_289 rfl rfl rfl ?_
            refine X.getF 293 i232_290 rfl rfl (by decide) rfl rfl ?_
            refine X.iload 295 i232_293 rfl rfl rfl ?_
            refine X.iconst 296 i232_295 rfl rfl (by decide) ?_
            refine X.iadd 297 i232_296 rfl rfl (by omega) ?_
            refine X.aload_n 298 i232_297 rfl rfl rfl ?_
            refine X.getF 301 i232_298 rfl rfl (by decide) rfl rfl ?_
            refine X.bipush 303 i232_301 rfl rfl (by decide) ?_
            refine X.lald 304 i232_303 rfl rfl (by decide) rfl (by omega) ?_
            refine X.last' 305 i232_304 rfl rfl (by decide) rfl (by omega) (fun hrm717 m717 hm717 => ?_)
            have hJ718 := w45_788 hJ716 hm717 (by omega) hrm717
            have km717 : ∀ g, m717 g 8 9 = m715 g 8 9 := fun g9 => by rw [hm717]; exact z_upd_o _ _ rfl
            refine X.aload_n 306 i232_305 rfl rfl rfl ?_
            refine X.getF 309 i232_306 rfl rfl (by decide) rfl rfl ?_
            refine X.iload 311 i232_309 rfl rfl rfl ?_
            refine X.iconst 312 i232_311 rfl rfl (by decide) ?_
            refine X.iadd 313 i232_312 rfl rfl (by omega) ?_
            refine X.lload_n 314 i232_313 rfl rfl rfl ?_
            refine X.last' 315 i232_314 rfl rfl (by decide) rfl (by omega) (fun hrm719 m719 hm719 => ?_)
            have hJ720 := w45_788 hJ718 hm719 (by omega) hrm719
            have km719 : ∀ g, m719 g 8 9 = m717 g 8 9 := fun g9 => by rw [hm719]; exact z_upd_o _ _ rfl
            refine X.aload_n 316 i232_315 rfl rfl rfl ?_
            refine X.callv 319 [] [] [(0, zr g0 44)] i232_316 rfl (by decide) rfl rfl (by omega) rfl rfl (by decide) rfl t233 (Nat.le_of_ble_eq_true rfl) (Nat.le_of_ble_eq_true rfl) rfl ?_
            refine c233_1 (B := B + 1) g0  (by omega) (hJ720.up (by omega)) (by omega)  (fun m721 hJ722 km721 => ?_)
            show X (EE s) d 232 319 [(0, zr g0 44), (1, zl a1), (3, zl z697), (5, zi (788 + (6 * (m 4 45 17))))] [] m721 _
            refine X.lload_n 320 i232_319 rfl rfl rfl ?_
            refine X.lconst (y := 0) 321 i232_320 rfl rfl rfl ?_
            refine X.lcmp 322 i232_321 rfl rfl (fun z724 hz724 => ?_)
            refine X.ifne 329 325 i232_322 rfl rfl rfl (fun h725 => ?_) (fun h725 => ?_)
            · have h725c : a1 ≠ 0 := by omega
              clear h725 hz724
              refine X.cut [] i232_329 rfl ?_
              refine X.retv i232_329 rfl t232 ?_
              exact hQ  m721  (hJ722.up (by omega)) (fun g => by simp only [km706, km709, km711, km713, km715, km717, km719, km721]) 
            · have h725c : a1 = 0 := by omega
              clear h725 hz724
              refine X.aload_n 326 i232_325 rfl rfl rfl ?_
              refine X.callv 329 [] [] [(0, zr g0 44)] i232_326 rfl (by decide) rfl rfl (by omega) rfl rfl (by decide) rfl t236 (Nat.le_of_ble_eq_true rfl) (Nat.le_of_ble_eq_true rfl) rfl ?_
              refine c236_1 (B := B + 1) g0  (by omega) (hJ722.up (by omega)) (by omega)  (fun m726 hJ727 km726 => ?_)
              show X (EE s) d 232 329 [(0, zr g0 44), (1, zl a1), (3, zl z697), (5, zi (788 + (6 * (m 4 45 17))))] [] m726 _
              refine X.cut [] i232_329 rfl ?_
              refine X.retv i232_329 rfl t232 ?_
              exact hQ  m726  (hJ727.up (by omega)) (fun g => by simp only [km706, km709, km711, km713, km715, km717, km719, km721, km726]) 
          · have h700c : (m 4 45 17) ≥ 64 := by omega
            clear h700 hz699
            refine X.iconst 110 i232_109 rfl rfl (by decide) ?_
            refine X.istore 112 [(0, zr g0 44), (1, zl a1), (3, zl z697), (5, zi 0)] i232_110 rfl rfl rfl ?_
            refine l232_112_1 (s := s) (m0 := m0) (d := d) g0 a1 z697 (fun g => m g 8 9) (BE := B + 0) (by omega) (by omega) (by omega) (fun  m729 B730 hJ731 hBB730 hkm729 => ?_) ((4 - 0 : Int).toNat + 1) 0 m (B) (hJ.up (by omega)) (by omega) (fun g => rfl) (by omega) (by omega)
            refine X.bipush 149 i232_147 rfl rfl (by decide) ?_
            refine X.istore 151 [(0, zr g0 44), (1, zl a1), (3, zl z697), (5, zi 6)] i232_149 rfl rfl rfl ?_
            refine l232_151_1 (s := s) (m0 := m0) (d := d) g0 a1 z697 (fun g => m g 8 9) (BE := B730 + 0) (by omega) (by omega) (by omega) (fun  m732 B733 hJ734 hBB733 hkm732 => ?_) ((384 - 6 : Int).toNat + 1) 6 m729 (B730) (hJ731.up (by omega)) (by omega) (fun g => by simp only [hkm729]) (by omega) (by omega)
            refine X.sipush 193 i232_190 rfl rfl (by decide) ?_
            refine X.bipush 195 i232_193 rfl rfl (by decide) ?_
            refine X.aload_n 196 i232_195 rfl rfl rfl ?_
            refine X.callv 199 [] [zi 6, zi 788] [(0, zr g0 44)] i232_196 rfl (by decide) rfl rfl (by omega) rfl rfl (by decide) rfl t235 (Nat.le_of_ble_eq_true rfl) (Nat.le_of_ble_eq_true rfl) rfl ?_
            refine X.aload_n 1 i235_0 rfl rfl rfl ?_
            refine X.getF 4 i235_1 rfl rfl (by decide) rfl rfl ?_
            refine X.bipush 6 i235_4 rfl rfl (by decide) ?_
            refine X.lald 7 i235_6 rfl rfl (by decide) rfl (by omega) ?_
            have h735 := r45_17 hJ734 4
            refine X.ldc2 10 i235_7 rfl rfl (by decide) ?_
            refine X.lcmp 11 i235_10 rfl rfl (fun z736 hz736 => ?_)
            refine X.ifge 24 14 i235_11 rfl rfl rfl (fun h737 => ?_) (fun h737 => ?_)
            · have h737c : (m732 4 45 17) ≥ 64 := by omega
              clear h737 hz736
              refine X.cut [] i235_24 rfl ?_
              refine X.ldc2 27 i235_24 rfl rfl (by decide) ?_
              refine X.l2i 28 i235_27 rfl rfl (by omega) ?_
              refine X.reti i235_28 rfl t235 ?_
              show X (EE s) d 232 199 [(0, zr g0 44), (1, zl a1), (3, zl z697)] [zi 64, zi 6, zi 788] m732 _
              refine X.bipush 201 i232_199 rfl rfl (by decide) ?_
              refine X.icmpge 211 204 i232_201 rfl rfl rfl (fun h738 => ?_) (fun h738 => (by exfalso; omega))
              refine X.bipush 213 i232_211 rfl rfl (by decide) ?_
              refine X.imul 214 i232_213 rfl rfl (by omega) ?_
              refine X.iadd 215 i232_214 rfl rfl (by omega) ?_
              refine X.istore 217 [(0, zr g0 44), (1, zl a1), (3, zl z697), (5, zi (788 + (6 * 63)))] i232_215 rfl rfl rfl ?_
              refine X.aload_n 218 i232_217 rfl rfl rfl ?_
              refine X.getF 221 i232_218 rfl rfl (by decide) rfl rfl ?_
              refine X.bipush 223 i232_221 rfl rfl (by decide) ?_
              refine X.dup2 224 i232_223 rfl rfl ?_
              refine X.lald 225 i232_224 rfl rfl (by decide) rfl (by omega) ?_
              refine X.lconst (y := 1) 226 i232_225 rfl rfl rfl ?_
              refine X.ladd 227 i232_226 rfl rfl (by omega) ?_
              refine X.last' 228 i232_227 rfl rfl (by decide) rfl (by omega) (fun hrm739 m739 hm739 => ?_)
              have hJ740 := w45_17 (hJ734.up (B' := B733 + 1) (by omega)) hm739 (by omega)
              have km739 : ∀ g, m739 g 8 9 = m732 g 8 9 := fun g9 => by rw [hm739]; exact z_upd_o _ _ rfl
              refine X.aload_n 229 i232_228 rfl rfl rfl ?_
              refine X.getF 232 i232_229 rfl rfl (by decide) rfl rfl ?_
              refine X.iload 234 i232_232 rfl rfl rfl ?_
              refine X.aload_n 235 i232_234 rfl rfl rfl ?_
              refine X.getF 238 i232_235 rfl rfl (by decide) rfl rfl ?_
              refine X.iconst 239 i232_238 rfl rfl (by decide) ?_
              refine X.lald 240 i232_239 rfl rfl (by decide) rfl (by omega) ?_
              have h741 := r45_0 hJ740 4
              refine X.last' 241 i232_240 rfl rfl (by decide) rfl (by omega) (fun hrm742 m742 hm742 => ?_)
              have hJ743 := w45_788 hJ740 hm742 (by omega) hrm742
              have km742 : ∀ g, m742 g 8 9 = m739 g 8 9 := fun g9 => by rw [hm742]; exact z_upd_o _ _ rfl
              refine X.aload_n 242 i232_241 rfl rfl rfl ?_
              refine X.getF 245 i232_242 rfl rfl (by decide) rfl rfl ?_
              refine X.iload 247 i232_245 rfl rfl rfl ?_
              refine X.iconst 248 i232_247 rfl rfl (by decide) ?_
              refine X.iadd 249 i232_248 rfl rfl (by omega) ?_
              refine X.aload_n 250 i232_249 rfl rfl rfl ?_
              refine X.getF 253 i232_250 rfl rfl (by decide) rfl rfl ?_
              refine X.bipush 255 i232_253 rfl rfl (by decide) ?_
              refine X.lald 256 i232_255 rfl rfl (by decide) rfl (by omega) ?_
              refine X.last' 257 i232_256 rfl rfl (by decide) rfl (by omega) (fun hrm744 m744 hm744 => ?_)
              have hJ745 := w45_788 hJ743 hm744 (by omega) hrm744
              have km744 : ∀ g, m744 g 8 9 = m742 g 8 9 := fun g9 => by rw [hm744]; exact z_upd_o _ _ rfl
              refine X.aload_n 258 i232_257 rfl rfl rfl ?_
              refine X.getF 261 i232_258 rfl rfl (by decide) rfl rfl ?_
              refine X.iload 263 i232_261 rfl rfl rfl ?_
              refine X.iconst 264 i232_263 rfl rfl (by decide) ?_
              refine X.iadd 265 i232_264 rfl rfl (by omega) ?_
              refine X.aload_n 266 i232_265 rfl rfl rfl ?_
              refine X.getF 269 i232_266 rfl rfl (by decide) rfl rfl ?_
              refine X.bipush 271 i232_269 rfl rfl (by decide) ?_
              refine X.lald 272 i232_271 rfl rfl (by decide) rfl (by omega) ?_
              refine X.last' 273 i232_272 rfl rfl (by decide) rfl (by omega) (fun hrm746 m746 hm746 => ?_)
              have hJ747 := w45_788 hJ745 hm746 (by omega) hrm746
              have km746 : ∀ g, m746 g 8 9 = m744 g 8 9 := fun g9 => by rw [hm746]; exact z_upd_o _ _ rfl
              refine X.aload_n 274 i232_273 rfl rfl rfl ?_
              refine X.getF 277 i232_274 rfl rfl (by decide) rfl rfl ?_
              refine X.iload 279 i232_277 rfl rfl rfl ?_
              refine X.iconst 280 i232_279 rfl rfl (by decide) ?_
              refine X.iadd 281 i232_280 rfl rfl (by omega) ?_
              refine X.aload_n 282 i232_281 rfl rfl rfl ?_
              refine X.getF 285 i232_282 rfl rfl (by decide) rfl rfl ?_
              refine X.bipush 287 i232_285 rfl rfl (by decide) ?_
              refine X.lald 288 i232_287 rfl rfl (by decide) rfl (by omega) ?_
              refine X.last' 289 i232_288 rfl rfl (by decide) rfl (by omega) (fun hrm748 m748 hm748 => ?_)
              have hJ749 := w45_788 hJ747 hm748 (by omega) hrm748
              have km748 : ∀ g, m748 g 8 9 = m746 g 8 9 := fun g9 => by rw [hm748]; exact z_upd_o _ _ rfl
              refine X.aload_n 290 i232_289 rfl rfl rfl ?_
              refine X.getF 293 i232_290 rfl rfl (by decide) rfl rfl ?_
              refine X.iload 295 i232_293 rfl rfl rfl ?_
              refine X.iconst 296 i232_295 rfl rfl (by decide) ?_
              refine X.iadd 297 i232_296 rfl rfl (by omega) ?_
              refine X.aload_n 298 i232_297 rfl rfl rfl ?_
              refine X.getF 301 i232_298 rfl rfl (by decide) rfl rfl ?_
              refine X.bipush 303 i232_301 rfl rfl (by decide) ?_
              refine X.lald 304 i232_303 rfl rfl (by decide) rfl (by omega) ?_
              refine X.last' 305 i232_304 rfl rfl (by decide) rfl (by omega) (fun hrm750 m750 hm750 => ?_)
              have hJ751 := w45_788 hJ749 hm750 (by omega) hrm750
              have km750 : ∀ g, m750 g 8 9 = m748 g 8 9 := fun g9 => by rw [hm750]; exact z_upd_o _ _ rfl
              refine X.aload_n 306 i232_305 rfl rfl rfl ?_
              refine X.getF 309 i232_306 rfl rfl (by decide) rfl rfl ?_
              refine X.iload 311 i232_309 rfl rfl rfl ?_
              refine X.iconst 312 i232_311 rfl rfl (by decide) ?_
              refine X.iadd 313 i232_312 rfl rfl (by omega) ?_
              refine X.lload_n 314 i232_313 rfl rfl rfl ?_
              refine X.last' 315 i232_314 rfl rfl (by decide) rfl (by omega) (fun hrm752 m752 hm752 => ?_)
              have hJ753 := w45_788 hJ751 hm752 (by omega) hrm752
              have km752 : ∀ g, m752 g 8 9 = m750 g 8 9 := fun g9 => by rw [hm752]; exact z_upd_o _ _ rfl
              refine X.aload_n 316 i232_315 rfl rfl rfl ?_
              refine X.callv 319 [] [] [(0, zr g0 44)] i232_316 rfl (by decide) rfl rfl (by omega) rfl rfl (by decide) rfl t233 (Nat.le_of_ble_eq_true rfl) (Nat.le_of_ble_eq_true rfl) rfl ?_
              refine c233_1 (B := B733 + 1) g0  (by omega) (hJ753.up (by omega)) (by omega)  (fun m754 hJ755 km754 => ?_)
              show X (EE s) d 232 319 [(0, zr g0 44), (1, zl a1), (3, zl z697), (5, zi (788 + (6 * 63)))] [] m754 _
              refine X.lload_n 320 i232_319 rfl rfl rfl ?_
              refine X.lconst (y := 0) 321 i232_320 rfl rfl rfl ?_
              refine X.lcmp 322 i232_321 rfl rfl (fun z757 hz757 => ?_)
              refine X.ifne 329 325 i232_322 rfl rfl rfl (fun h758 => ?_) (fun h758 => ?_)
              · have h758c : a1 ≠ 0 := by omega
                clear h758 hz757
                refine X.cut [] i232_329 rfl ?_
                refine X.retv i232_329 rfl t232 ?_
                exact hQ  m754  (hJ755.up (by omega)) (fun g => by simp only [hkm732, km739, km742, km744, km746, km748, km750, km752, km754]) 
              · have h758c : a1 = 0 := by omega
                clear h758 hz757
                refine X.aload_n 326 i232_325 rfl rfl rfl ?_
                refine X.callv 329 [] [] [(0, zr g0 44)] i232_326 rfl (by decide) rfl rfl (by omega) rfl rfl (by decide) rfl t236 (Nat.le_of_ble_eq_true rfl) (Nat.le_of_ble_eq_true rfl) rfl ?_
                refine c236_1 (B := B733 + 1) g0  (by omega) (hJ755.up (by omega)) (by omega)  (fun m759 hJ760 km759 => ?_)
                show X (EE s) d 232 329 [(0, zr g0 44), (1, zl a1), (3, zl z697), (5, zi (788 + (6 * 63)))] [] m759 _
                refine X.cut [] i232_329 rfl ?_
                refine X.retv i232_329 rfl t232 ?_
                exact hQ  m759  (hJ760.up (by omega)) (fun g => by simp only [hkm732, km739, km742, km744, km746, km748, km750, km752, km754, km759]) 
            · have h737c : (m732 4 45 17) < 64 := by omega
              clear h737 hz736
              refine X.aload_n 15 i235_14 rfl rfl rfl ?_
              refine X.getF 18 i235_15 rfl rfl (by decide) rfl rfl ?_
              refine X.bipush 20 i235_18 rfl rfl (by decide) ?_
              refine X.lald 21 i235_20 rfl rfl (by decide) rfl (by omega) ?_
              refine X.goto 27 i235_21 rfl rfl ?_
              refine X.cut [] i235_27 rfl ?_
              refine X.l2i 28 i235_27 rfl rfl (by omega) ?_
              refine X.reti i235_28 rfl t235 ?_
              show X (EE s) d 232 199 [(0, zr g0 44), (1, zl a1), (3, zl z697)] [zi (m732 4 45 17), zi 6, zi 788] m732 _
              refine X.bipush 201 i232_199 rfl rfl (by decide) ?_
              refine X.icmpge 211 204 i232_201 rfl rfl rfl (fun h762 => (by exfalso; omega)) (fun h762 => ?_)
              refine X.aload_n 205 i232_204 rfl rfl rfl ?_
              refine X.callv 208 [] [zi 6, zi 788] [(0, zr g0 44)] i232_205 rfl (by decide) rfl rfl (by omega) rfl rfl (by decide) rfl t235 (Nat.le_of_ble_eq_true rfl) (Nat.le_of_ble_eq_true rfl) rfl ?_
              refine X.aload_n 1 i235_0 rfl rfl rfl ?_
              refine X.getF 4 i235_1 rfl rfl (by decide) rfl rfl ?_
              refine X.bipush 6 i235_4 rfl rfl (by decide) ?_
              refine X.lald 7 i235_6 rfl rfl (by decide) rfl (by omega) ?_
              refine X.ldc2 10 i235_7 rfl rfl (by decide) ?_
              refine X.lcmp 11 i235_10 rfl rfl (fun z763 hz763 => ?_)
              refine X.ifge 24 14 i235_11 rfl rfl rfl (fun h764 => (by exfalso; omega)) (fun h764 => ?_)
              have h764c : (m732 4 45 17) < 64 := by omega
              clear h764 hz763
              refine X.aload_n 15 i235_14 rfl rfl rfl ?_
              refine X.getF 18 i235_15 rfl rfl (by decide) rfl rfl ?_
              refine X.bipush 20 i235_18 rfl rfl (by decide) ?_
              refine X.lald 21 i235_20 rfl rfl (by decide) rfl (by omega) ?_
              refine X.goto 27 i235_21 rfl rfl ?_
              refine X.cut [] i235_27 rfl ?_
              refine X.l2i 28 i235_27 rfl rfl (by omega) ?_
              refine X.reti i235_28 rfl t235 ?_
              show X (EE s) d 232 208 [(0, zr g0 44), (1, zl a1), (3, zl z697)] [zi (m732 4 45 17), zi 6, zi 788] m732 _
              refine X.goto 213 i232_208 rfl rfl ?_
              refine X.imul 214 i232_213 rfl rfl (by omega) ?_
              refine X.iadd 215 i232_214 rfl rfl (by omega) ?_
              refine X.istore 217 [(0, zr g0 44), (1, zl a1), (3, zl z697), (5, zi (788 + (6 * (m732 4 45 17))))] i232_215 rfl rfl rfl ?_
              refine X.aload_n 218 i232_217 rfl rfl rfl ?_
              refine X.getF 221 i232_218 rfl rfl (by decide) rfl rfl ?_
              refine X.bipush 223 i232_221 rfl rfl (by decide) ?_
              refine X.dup2 224 i232_223 rfl rfl ?_
              refine X.lald 225 i232_224 rfl rfl (by decide) rfl (by omega) ?_
              refine X.lconst (y := 1) 226 i232_225 rfl rfl rfl ?_
              refine X.ladd 227 i232_226 rfl rfl (by omega) ?_
              refine X.last' 228 i232_227 rfl rfl (by decide) rfl (by omega) (fun hrm765 m765 hm765 => ?_)
              have hJ766 := w45_17 (hJ734.up (B' := B733 + 1) (by omega)) hm765 (by omega)
              have km765 : ∀ g, m765 g 8 9 = m732 g 8 9 := fun g9 => by rw [hm765]; exact z_upd_o _ _ rfl
              refine X.aload_n 229 i232_228 rfl rfl rfl ?_
              refine X.getF 232 i232_229 rfl rfl (by decide) rfl rfl ?_
              refine X.iload 234 i232_232 rfl rfl rfl ?_
              refine X.aload_n 235 i232_234 rfl rfl rfl ?_
              refine X.getF 238 i232_235 rfl rfl (by decide) rfl rfl ?_
              refine X.iconst 239 i232_238 rfl rfl (by decide) ?_
              refine X.lald 240 i232_239 rfl rfl (by decide) rfl (by omega) ?_
              have h767 := r45_0 hJ766 4
              refine X.last' 241 i232_240 rfl rfl (by decide) rfl (by omega) (fun hrm768 m768 hm768 => ?_)
              have hJ769 := w45_788 hJ766 hm768 (by omega) hrm768
              have km768 : ∀ g, m768 g 8 9 = m765 g 8 9 := fun g9 => by rw [hm768]; exact z_upd_o _ _ rfl
              refine X.aload_n 242 i232_241 rfl rfl rfl ?_
              refine X.getF 245 i232_242 rfl rfl (by decide) rfl rfl ?_
              refine X.iload 247 i232_245 rfl rfl rfl ?_
              refine X.iconst 248 i232_247 rfl rfl (by decide) ?_
              refine X.iadd 249 i232_248 rfl rfl (by omega) ?_
              refine X.aload_n 250 i232_249 rfl rfl rfl ?_
              refine X.getF 253 i232_250 rfl rfl (by decide) rfl rfl ?_
              refine X.bipush 255 i232_253 rfl rfl (by decide) ?_
              refine X.lald 256 i232_255 rfl rfl (by decide) rfl (by omega) ?_
              refine X.last' 257 i232_256 rfl rfl (by decide) rfl (by omega) (fun hrm770 m770 hm770 => ?_)
              have hJ771 := w45_788 hJ769 hm770 (by omega) hrm770
              have km770 : ∀ g, m770 g 8 9 = m768 g 8 9 := fun g9 => by rw [hm770]; exact z_upd_o _ _ rfl
              refine X.aload_n 258 i232_257 rfl rfl rfl ?_
              refine X.getF 261 i232_258 rfl rfl (by decide) rfl rfl ?_
              refine X.iload 263 i232_261 rfl rfl rfl ?_
              refine X.iconst 264 i232_263 rfl rfl (by decide) ?_
              refine X.iadd 265 i232_264 rfl rfl (by omega) ?_
              refine X.aload_n 266 i232_265 rfl rfl rfl ?_
              refine X.getF 269 i232_266 rfl rfl (by decide) rfl rfl ?_
              refine X.bipush 271 i232_269 rfl rfl (by decide) ?_
              refine X.lald 272 i232_271 rfl rfl (by decide) rfl (by omega) ?_
              refine X.last' 273 i232_272 rfl rfl (by decide) rfl (by omega) (fun hrm772 m772 hm772 => ?_)
              have hJ773 := w45_788 hJ771 hm772 (by omega) hrm772
              have km772 : ∀ g, m772 g 8 9 = m770 g 8 9 := fun g9 => by rw [hm772]; exact z_upd_o _ _ rfl
              refine X.aload_n 274 i232_273 rfl rfl rfl ?_
              refine X.getF 277 i232_274 rfl rfl (by decide) rfl rfl ?_
              refine X.iload 279 i232_277 rfl rfl rfl ?_
              refine X.iconst 280 i232_279 rfl rfl (by decide) ?_
              refine X.iadd 281 i232_280 rfl rfl (by omega) ?_
              refine X.aload_n 282 i232_281 rfl rfl rfl ?_
              refine X.getF 285 i232_282 rfl rfl (by decide) rfl rfl ?_
              refine X.bipush 287 i232_285 rfl rfl (by decide) ?_
              refine X.lald 288 i232_287 rfl rfl (by decide) rfl (by omega) ?_
              refine X.last' 289 i232_288 rfl rfl (by decide) rfl (by omega) (fun hrm774 m774 hm774 => ?_)
              have hJ775 := w45_788 hJ773 hm774 (by omega) hrm774
              have km774 : ∀ g, m774 g 8 9 = m772 g 8 9 := fun g9 => by rw [hm774]; exact z_upd_o _ _ rfl
              refine X.aload_n 290 i232_289 rfl rfl rfl ?_
              refine X.getF 293 i232_290 rfl rfl (by decide) rfl rfl ?_
              refine X.iload 295 i232_293 rfl rfl rfl ?_
              refine X.iconst 296 i232_295 rfl rfl (by decide) ?_
              refine X.iadd 297 i232_296 rfl rfl (by omega) ?_
              refine X.aload_n 298 i232_297 rfl rfl rfl ?_
              refine X.getF 301 i232_298 rfl rfl (by decide) rfl rfl ?_
              refine X.bipush 303 i232_301 rfl rfl (by decide) ?_
              refine X.lald 304 i232_303 rfl rfl (by decide) rfl (by omega) ?_
              refine X.last' 305 i232_304 rfl rfl (by decide) rfl (by omega) (fun hrm776 m776 hm776 => ?_)
              have hJ777 := w45_788 hJ775 hm776 (by omega) hrm776
              have km776 : ∀ g, m776 g 8 9 = m774 g 8 9 := fun g9 => by rw [hm776]; exact z_upd_o _ _ rfl
              refine X.aload_n 306 i232_305 rfl rfl rfl ?_
              refine X.getF 309 i232_306 rfl rfl (by decide) rfl rfl ?_
              refine X.iload 311 i232_309 rfl rfl rfl ?_
              refine X.iconst 312 i232_311 rfl rfl (by decide) ?_
              refine X.iadd 313 i232_312 rfl rfl (by omega) ?_
              refine X.lload_n 314 i232_313 rfl rfl rfl ?_
              refine X.last' 315 i232_314 rfl rfl (by decide) rfl (by omega) (fun hrm778 m778 hm778 => ?_)
              have hJ779 := w45_788 hJ777 hm778 (by omega) hrm778
              have km778 : ∀ g, m778 g 8 9 = m776 g 8 9 := fun g9 => by rw [hm778]; exact z_upd_o _ _ rfl
              refine X.aload_n 316 i232_315 rfl rfl rfl ?_
              refine X.callv 319 [] [] [(0, zr g0 44)] i232_316 rfl (by decide) rfl rfl (by omega) rfl rfl (by decide) rfl t233 (Nat.le_of_ble_eq_true rfl) (Nat.le_of_ble_eq_true rfl) rfl ?_
              refine c233_1 (B := B733 + 1) g0  (by omega) (hJ779.up (by omega)) (by omega)  (fun m780 hJ781 km780 => ?_)
              show X (EE s) d 232 319 [(0, zr g0 44), (1, zl a1), (3, zl z697), (5, zi (788 + (6 * (m732 4 45 17))))] [] m780 _
              refine X.lload_n 320 i232_319 rfl rfl rfl ?_
              refine X.lconst (y := 0) 321 i232_320 rfl rfl rfl ?_
              refine X.lcmp 322 i232_321 rfl rfl (fun z783 hz783 => ?_)
              refine X.ifne 329 325 i232_322 rfl rfl rfl (fun h784 => ?_) (fun h784 => ?_)
              · have h784c : a1 ≠ 0 := by omega
                clear h784 hz783
                refine X.cut [] i232_329 rfl ?_
                refine X.retv i232_329 rfl t232 ?_
                exact hQ  m780  (hJ781.up (by omega)) (fun g => by simp only [hkm732, km765, km768, km770, km772, km774, km776, km778, km780]) 
              · have h784c : a1 = 0 := by omega
                clear h784 hz783
                refine X.aload_n 326 i232_325 rfl rfl rfl ?_
                refine X.callv 329 [] [] [(0, zr g0 44)] i232_326 rfl (by decide) rfl rfl (by omega) rfl rfl (by decide) rfl t236 (Nat.le_of_ble_eq_true rfl) (Nat.le_of_ble_eq_true rfl) rfl ?_
                refine c236_1 (B := B733 + 1) g0  (by omega) (hJ781.up (by omega)) (by omega)  (fun m785 hJ786 km785 => ?_)
                show X (EE s) d 232 329 [(0, zr g0 44), (1, zl a1), (3, zl z697), (5, zi (788 + (6 * (m732 4 45 17))))] [] m785 _
                refine X.cut [] i232_329 rfl ?_
                refine X.retv i232_329 rfl t232 ?_
                exact hQ  m785  (hJ786.up (by omega)) (fun g => by simp only [hkm732, km765, km768, km770, km772, km774, km776, km778, km780, km785]) 
    · have h505c : (m 4 45 26) > 0 := by omega
      clear h505 hz504
      refine X.bipush 46 i232_44 rfl rfl (by decide) ?_
      refine X.goto 50 i232_46 rfl rfl ?_
      refine X.i2l 51 i232_50 rfl rfl ?_
      refine X.llF 52 .lor (fun x y => x ||| y) i232_51 rfl rfl rfl (fun _ _ => rfl) (fun z788 hz788 => ?_)
      refine X.lload_n 53 i232_52 rfl rfl rfl ?_
      refine X.llF 54 .lor (fun x y => x ||| y) i232_53 rfl rfl rfl (fun _ _ => rfl) (fun z789 hz789 => ?_)
      refine X.aload_n 55 i232_54 rfl rfl rfl ?_
      refine X.getF 58 i232_55 rfl rfl (by decide) rfl rfl ?_
      refine X.bipush 60 i232_58 rfl rfl (by decide) ?_
      refine X.lald 61 i232_60 rfl rfl (by decide) rfl (by omega) ?_
      refine X.lconst (y := 1) 62 i232_61 rfl rfl rfl ?_
      refine X.lcmp 63 i232_62 rfl rfl (fun z790 hz790 => ?_)
      refine X.ifeq 85 66 i232_63 rfl rfl rfl (fun h791 => ?_) (fun h791 => ?_)
      · have h791c : (m 4 45 21) = 1 := by omega
        clear h791 hz790
        refine X.sipush 88 i232_85 rfl rfl (by decide) ?_
        refine X.goto 92 i232_88 rfl rfl ?_
        refine X.i2l 93 i232_92 rfl rfl ?_
        refine X.llF 94 .lor (fun x y => x ||| y) i232_93 rfl rfl rfl (fun _ _ => rfl) (fun z792 hz792 => ?_)
        refine X.lstore_n 95 [(0, zr g0 44), (1, zl a1), (3, zl z792)] i232_94 rfl rfl rfl ?_
        refine X.aload_n 96 i232_95 rfl rfl rfl ?_
        refine X.getF 99 i232_96 rfl rfl (by decide) rfl rfl ?_
        refine X.bipush 101 i232_99 rfl rfl (by decide) ?_
        refine X.lald 102 i232_101 rfl rfl (by decide) rfl (by omega) ?_
        have h793 := r45_17 hJ 4
        refine X.ldc2 105 i232_102 rfl rfl (by decide) ?_
        refine X.lcmp 106 i232_105 rfl rfl (fun z794 hz794 => ?_)
        refine X.iflt 190 109 i232_106 rfl rfl rfl (fun h795 => ?_) (fun h795 => ?_)
        · have h795c : (m 4 45 17) < 64 := by omega
          clear h795 hz794
          refine X.sipush 193 i232_190 rfl rfl (by decide) ?_
          refine X.bipush 195 i232_193 rfl rfl (by decide) ?_
          refine X.aload_n 196 i232_195 rfl rfl rfl ?_
          refine X.callv 199 [] [zi 6, zi 788] [(0, zr g0 44)] i232_196 rfl (by decide) rfl rfl (by omega) rfl rfl (by decide) rfl t235 (Nat.le_of_ble_eq_true rfl) (Nat.le_of_ble_eq_true rfl) rfl ?_
          refine X.aload_n 1 i235_0 rfl rfl rfl ?_
          refine X.getF 4 i235_1 rfl rfl (by decide) rfl rfl ?_
          refine X.bipush 6 i235_4 rfl rfl (by decide) ?_
          refine X.lald 7 i235_6 rfl rfl (by decide) rfl (by omega) ?_
          refine X.ldc2 10 i235_7 rfl rfl (by decide) ?_
          refine X.lcmp 11 i235_10 rfl rfl (fun z796 hz796 => ?_)
          refine X.ifge 24 14 i235_11 rfl rfl rfl (fun h797 => (by exfalso; omega)) (fun h797 => ?_)
          have h797c : (m 4 45 17) < 64 := by omega
          clear h797 hz796
          refine X.aload_n 15 i235_14 rfl rfl rfl ?_
          refine X.getF 18 i235_15 rfl rfl (by decide) rfl rfl ?_
          refine X.bipush 20 i235_18 rfl rfl (by decide) ?_
          refine X.lald 21 i235_20 rfl rfl (by decide) rfl (by omega) ?_
          refine X.goto 27 i235_21 rfl rfl ?_
          refine X.cut [] i235_27 rfl ?_
          refine X.l2i 28 i235_27 rfl rfl (by omega) ?_
          refine X.reti i235_28 rfl t235 ?_
          show X (EE s) d 232 199 [(0, zr g0 44), (1, zl a1), (3, zl z792)] [zi (m 4 45 17), zi 6, zi 788] m _
          refine X.bipush 201 i232_199 rfl rfl (by decide) ?_
          refine X.icmpge 211 204 i232_201 rfl rfl rfl (fun h798 => (by exfalso; omega)) (fun h798 => ?_)
          refine X.aload_n 205 i232_204 rfl rfl rfl ?_
          refine X.callv 208 [] [zi 6, zi 788] [(0, zr g0 44)] i232_205 rfl (by decide) rfl rfl (by omega) rfl rfl (by decide) rfl t235 (Nat.le_of_ble_eq_true rfl) (Nat.le_of_ble_eq_true rfl) rfl ?_
          refine X.aload_n 1 i235_0 rfl rfl rfl ?_
          refine X.getF 4 i235_1 rfl rfl (by decide) rfl rfl ?_
          refine X.bipush 6 i235_4 rfl rfl (by decide) ?_
          refine X.lald 7 i235_6 rfl rfl (by decide) rfl (by omega) ?_
          refine X.ldc2 10 i235_7 rfl rfl (by decide) ?_
          refine X.lcmp 11 i235_10 rfl rfl (fun z799 hz799 => ?_)
          refine X.ifge 24 14 i235_11 rfl rfl rfl (fun h800 => (by exfalso; omega)) (fun h800 => ?_)
          have h800c : (m 4 45 17) < 64 := by omega
          clear h800 hz799
          refine X.aload_n 15 i235_14 rfl rfl rfl ?_
          refine X.getF 18 i235_15 rfl rfl (by decide) rfl rfl ?_
          refine X.bipush 20 i235_18 rfl rfl (by decide) ?_
          refine X.lald 21 i235_20 rfl rfl (by decide) rfl (by omega) ?_
          refine X.goto 27 i235_21 rfl rfl ?_
          refine X.cut [] i235_27 rfl ?_
          refine X.l2i 28 i235_27 rfl rfl (by omega) ?_
          refine X.reti i235_28 rfl t235 ?_
          show X (EE s) d 232 208 [(0, zr g0 44), (1, zl a1), (3, zl z792)] [zi (m 4 45 17), zi 6, zi 788] m _
          refine X.goto 213 i232_208 rfl rfl ?_
          refine X.imul 214 i232_213 rfl rfl (by omega) ?_
          refine X.iadd 215 i232_214 rfl rfl (by omega) ?_
          refine X.istore 217 [(0, zr g0 44), (1, zl a1), (3, zl z792), (5, zi (788 + (6 * (m 4 45 17))))] i232_215 rfl rfl rfl ?_
          refine X.aload_n 218 i232_217 rfl rfl rfl ?_
          refine X.getF 221 i232_218 rfl rfl (by decide) rfl rfl ?_
          refine X.bipush 223 i232_221 rfl rfl (by decide) ?_
          refine X.dup2 224 i232_223 rfl rfl ?_
          refine X.lald 225 i232_224 rfl rfl (by decide) rfl (by omega) ?_
          refine X.lconst (y := 1) 226 i232_225 rfl rfl rfl ?_
          refine X.ladd 227 i232_226 rfl rfl (by omega) ?_
          refine X.last' 228 i232_227 rfl rfl (by decide) rfl (by omega) (fun hrm801 m801 hm801 => ?_)
          have hJ802 := w45_17 (hJ.up (B' := B + 1) (by omega)) hm801 (by omega)
          have km801 : ∀ g, m801 g 8 9 = m g 8 9 := fun g9 => by rw [hm801]; exact z_upd_o _ _ rfl
          refine X.aload_n 229 i232_228 rfl rfl rfl ?_
          refine X.getF 232 i232_229 rfl rfl (by decide) rfl rfl ?_
          refine X.iload 234 i232_232 rfl rfl rfl ?_
          refine X.aload_n 235 i232_234 rfl rfl rfl ?_
          refine X.getF 238 i232_235 rfl rfl (by decide) rfl rfl ?_
          refine X.iconst 239 i232_238 rfl rfl (by decide) ?_
          refine X.lald 240 i232_239 rfl rfl (by decide) rfl (by omega) ?_
          have h803 := r45_0 hJ802 4
          refine X.last' 241 i232_240 rfl rfl (by decide) rfl (by omega) (fun hrm804 m804 hm804 => ?_)
          have hJ805 := w45_788 hJ802 hm804 (by omega) hrm804
          have km804 : ∀ g, m804 g 8 9 = m801 g 8 9 := fun g9 => by rw [hm804]; exact z_upd_o _ _ rfl
          refine X.aload_n 242 i232_241 rfl rfl rfl ?_
          refine X.getF 245 i232_242 rfl rfl (by decide) rfl rfl ?_
          refine X.iload 247 i232_245 rfl rfl rfl ?_
          refine X.iconst 248 i232_247 rfl rfl (by decide) ?_
          refine X.iadd 249 i232_248 rfl rfl (by omega) ?_
          refine X.aload_n 250 i232_249 rfl rfl rfl ?_
          refine X.getF 253 i232_250 rfl rfl (by decide) rfl rfl ?_
          refine X.bipush 255 i232_253 rfl rfl (by decide) ?_
          refine X.lald 256 i232_255 rfl rfl (by decide) rfl (by omega) ?_
          refine X.last' 257 i232_256 rfl rfl (by decide) rfl (by omega) (fun hrm806 m806 hm806 => ?_)
          have hJ807 := w45_788 hJ805 hm806 (by omega) hrm806
          have km806 : ∀ g, m806 g 8 9 = m804 g 8 9 := fun g9 => by rw [hm806]; exact z_upd_o _ _ rfl
          refine X.aload_n 258 i232_257 rfl rfl rfl ?_
          refine X.getF 261 i232_258 rfl rfl (by decide) rfl rfl ?_
          refine X.iload 263 i232_261 rfl rfl rfl ?_
          refine X.iconst 264 i232_263 rfl rfl (by decide) ?_
          refine X.iadd 265 i232_264 rfl rfl (by omega) ?_
          refine X.aload_n 266 i232_265 rfl rfl rfl ?_
          refine X.getF 269 i232_266 rfl rfl (by decide) rfl rfl ?_
          refine X.bipush 271 i232_269 rfl rfl (by decide) ?_
          refine X.lald 272 i232_271 rfl rfl (by decide) rfl (by omega) ?_
          refine X.last' 273 i232_272 rfl rfl (by decide) rfl (by omega) (fun hrm808 m808 hm808 => ?_)
          have hJ809 := w45_788 hJ807 hm808 (by omega) hrm808
          have km808 : ∀ g, m808 g 8 9 = m806 g 8 9 := fun g9 => by rw [hm808]; exact z_upd_o _ _ rfl
          refine X.aload_n 274 i232_273 rfl rfl rfl ?_
          refine X.getF 277 i232_274 rfl rfl (by decide) rfl rfl ?_
          refine X.iload 279 i232_277 rfl rfl rfl ?_
          refine X.iconst 280 i232_279 rfl rfl (by decide) ?_
          refine X.iadd 281 i232_280 rfl rfl (by omega) ?_
          refine X.aload_n 282 i232_281 rfl rfl rfl ?_
          refine X.getF 285 i232_282 rfl rfl (by decide) rfl rfl ?_
          refine X.bipush 287 i232_285 rfl rfl (by decide) ?_
          refine X.lald 288 i232_287 rfl rfl (by decide) rfl (by omega) ?_
          refine X.last' 289 i232_288 rfl rfl (by decide) rfl (by omega) (fun hrm810 m810 hm810 => ?_)
          have hJ811 := w45_788 hJ809 hm810 (by omega) hrm810
          have km810 : ∀ g, m810 g 8 9 = m808 g 8 9 := fun g9 => by rw [hm810]; exact z_upd_o _ _ rfl
          refine X.aload_n 290 i232_289 rfl rfl rfl ?_
          refine X.getF 293 i232_290 rfl rfl (by decide) rfl rfl ?_
          refine X.iload 295 i232_293 rfl rfl rfl ?_
          refine X.iconst 296 i232_295 rfl rfl (by decide) ?_
          refine X.iadd 297 i232_296 rfl rfl (by omega) ?_
          refine X.aload_n 298 i232_297 rfl rfl rfl ?_
          refine X.getF 301 i232_298 rfl rfl (by decide) rfl rfl ?_
          refine X.bipush 303 i232_301 rfl rfl (by decide) ?_
          refine X.lald 304 i232_303 rfl rfl (by decide) rfl (by omega) ?_
          refine X.last' 305 i232_304 rfl rfl (by decide) rfl (by omega) (fun hrm812 m812 hm812 => ?_)
          have hJ813 := w45_788 hJ811 hm812 (by omega) hrm812
          have km812 : ∀ g, m812 g 8 9 = m810 g 8 9 := fun g9 => by rw [hm812]; exact z_upd_o _ _ rfl
          refine X.aload_n 306 i232_305 rfl rfl rfl ?_
          refine X.getF 309 i232_306 rfl rfl (by decide) rfl rfl ?_
          refine X.iload 311 i232_309 rfl rfl rfl ?_
          refine X.iconst 312 i232_311 rfl rfl (by decide) ?_
          refine X.iadd 313 i232_312 rfl rfl (by omega) ?_
          refine X.lload_n 314 i232_313 rfl rfl rfl ?_
          refine X.last' 315 i232_314 rfl rfl (by decide) rfl (by omega) (fun hrm814 m814 hm814 => ?_)
          have hJ815 := w45_788 hJ813 hm814 (by omega) hrm814
          have km814 : ∀ g, m814 g 8 9 = m812 g 8 9 := fun g9 => by rw [hm814]; exact z_upd_o _ _ rfl
          refine X.aload_n 316 i232_315 rfl rfl rfl ?_
          refine X.callv 319 [] [] [(0, zr g0 44)] i232_316 rfl (by decide) rfl rfl (by omega) rfl rfl (by decide) rfl t233 (Nat.le_of_ble_eq_true rfl) (Nat.le_of_ble_eq_true rfl) rfl ?_
          refine c233_1 (B := B + 1) g0  (by omega) (hJ815.up (by omega)) (by omega)  (fun m816 hJ817 km816 => ?_)
          show X (EE s) d 232 319 [(0, zr g0 44), (1, zl a1), (3, zl z792), (5, zi (788 + (6 * (m 4 45 17))))] [] m816 _
          refine X.lload_n 320 i232_319 rfl rfl rfl ?_
          refine X.lconst (y := 0) 321 i232_320 rfl rfl rfl ?_
          refine X.lcmp 322 i232_321 rfl rfl (fun z819 hz819 => ?_)
          refine X.ifne 329 325 i232_322 rfl rfl rfl (fun h820 => ?_) (fun h820 => ?_)
          · have h820c : a1 ≠ 0 := by omega
            clear h820 hz819
            refine X.cut [] i232_329 rfl ?_
            refine X.retv i232_329 rfl t232 ?_
            exact hQ  m816  (hJ817.up (by omega)) (fun g => by simp only [km801, km804, km806, km808, km810, km812, km814, km816]) 
          · have h820c : a1 = 0 := by omega
            clear h820 hz819
            refine X.aload_n 326 i232_325 rfl rfl rfl ?_
            refine X.callv 329 [] [] [(0, zr g0 44)] i232_326 rfl (by decide) rfl rfl (by omega) rfl rfl (by decide) rfl t236 (Nat.le_of_ble_eq_true rfl) (Nat.le_of_ble_eq_true rfl) rfl ?_
            refine c236_1 (B := B + 1) g0  (by omega) (hJ817.up (by omega)) (by omega)  (fun m821 hJ822 km821 => ?_)
            show X (EE s) d 232 329 [(0, zr g0 44), (1, zl a1), (3, zl z792), (5, zi (788 + (6 * (m 4 45 17))))] [] m821 _
            refine X.cut [] i232_329 rfl ?_
            refine X.retv i232_329 rfl t232 ?_
            exact hQ  m821  (hJ822.up (by omega)) (fun g => by simp only [km801, km804, km806, km808, km810, km812, km814, km816, km821]) 
        · have h795c : (m 4 45 17) ≥ 64 := by omega
          clear h795 hz794
          refine X.iconst 110 i232_109 rfl rfl (by decide) ?_
          refine X.istore 112 [(0, zr g0 44), (1, zl a1), (3, zl z792), (5, zi 0)] i232_110 rfl rfl rfl ?_
          refine l232_112_1 (s := s) (m0 := m0) (d := d) g0 a1 z792 (fun g => m g 8 9) (BE := B + 0) (by omega) (by omega) (by omega) (fun  m824 B825 hJ826 hBB825 hkm824 => ?_) ((4 - 0 : Int).toNat + 1) 0 m (B) (hJ.up (by omega)) (by omega) (fun g => rfl) (by omega) (by omega)
          refine X.bipush 149 i232_147 rfl rfl (by decide) ?_
          refine X.istore 151 [(0, zr g0 44), (1, zl a1), (3, zl z792), (5, zi 6)] i232_149 rfl rfl rfl ?_
          refine l232_151_1 (s := s) (m0 := m0) (d := d) g0 a1 z792 (fun g => m g 8 9) (BE := B825 + 0) (by omega) (by omega) (by omega) (fun  m827 B828 hJ829 hBB828 hkm827 => ?_) ((384 - 6 : Int).toNat + 1) 6 m824 (B825) (hJ826.up (by omega)) (by omega) (fun g => by simp only [hkm824]) (by omega) (by omega)
          refine X.sipush 193 i232_190 rfl rfl (by decide) ?_
          refine X.bipush 195 i232_193 rfl rfl (by decide) ?_
          refine X.aload_n 196 i232_195 rfl rfl rfl ?_
          refine X.callv 199 [] [zi 6, zi 788] [(0, zr g0 44)] i232_196 rfl (by decide) rfl rfl (by omega) rfl rfl (by decide) rfl t235 (Nat.le_of_ble_eq_true rfl) (Nat.le_of_ble_eq_true rfl) rfl ?_
          refine X.aload_n 1 i235_0 rfl rfl rfl ?_
          refine X.getF 4 i235_1 rfl rfl (by decide) rfl rfl ?_
          refine X.bipush 6 i235_4 rfl rfl (by decide) ?_
          refine X.lald 7 i235_6 rfl rfl (by decide) rfl (by omega) ?_
          have h830 := r45_17 hJ829 4
          refine X.ldc2 10 i235_7 rfl rfl (by decide) ?_
          refine X.lcmp 11 i235_10 rfl rfl (fun z831 hz831 => ?_)
          refine X.ifge 24 14 i235_11 rfl rfl rfl (fun h832 => ?_) (fun h832 => ?_)
          · have h832c : (m827 4 45 17) ≥ 64 := by omega
            clear h832 hz831
            refine X.cut [] i235_24 rfl ?_
            refine X.ldc2 27 i235_24 rfl rfl (by decide) ?_
            refine X.l2i 28 i235_27 rfl rfl (by omega) ?_
            refine X.reti i235_28 rfl t235 ?_
            show X (EE s) d 232 199 [(0, zr g0 44), (1, zl a1), (3, zl z792)] [zi 64, zi 6, zi 788] m827 _
            refine X.bipush 201 i232_199 rfl rfl (by decide) ?_
            refine X.icmpge 211 204 i232_201 rfl rfl rfl (fun h833 => ?_) (fun h833 => (by exfalso; omega))
            refine X.bipush 213 i232_211 rfl rfl (by decide) ?_
            refine X.imul 214 i232_213 rfl rfl (by omega) ?_
            refine X.iadd 215 i232_214 rfl rfl (by omega) ?_
            refine X.istore 217 [(0, zr g0 44), (1, zl a1), (3, zl z792), (5, zi (788 + (6 * 63)))] i232_215 rfl rfl rfl ?_
            refine X.aload_n 218 i232_217 rfl rfl rfl ?_
            refine X.getF 221 i232_218 rfl rfl (by decide) rfl rfl ?_
            refine X.bipush 223 i232_221 rfl rfl (by decide) ?_
            refine X.dup2 224 i232_223 rfl rfl ?_
            refine X.lald 225 i232_224 rfl rfl (by decide) rfl (by omega) ?_
            refine X.lconst (y := 1) 226 i232_225 rfl rfl rfl ?_
            refine X.ladd 227 i232_226 rfl rfl (by omega) ?_
            refine X.last' 228 i232_227 rfl rfl (by decide) rfl (by omega) (fun hrm834 m834 hm834 => ?_)
            have hJ835 := w45_17 (hJ829.up (B' := B828 + 1) (by omega)) hm834 (by omega)
            have km834 : ∀ g, m834 g 8 9 = m827 g 8 9 := fun g9 => by rw [hm834]; exact z_upd_o _ _ rfl
            refine X.aload_n 229 i232_228 rfl rfl rfl ?_
            refine X.getF 232 i232_229 rfl rfl (by decide) rfl rfl ?_
            refine X.iload 234 i232_232 rfl rfl rfl ?_
            refine X.aload_n 235 i232_234 rfl rfl rfl ?_
            refine X.getF 238 i232_235 rfl rfl (by decide) rfl rfl ?_
            refine X.iconst 239 i232_238 rfl rfl (by decide) ?_
            refine X.lald 240 i232_239 rfl rfl (by decide) rfl (by omega) ?_
            have h836 := r45_0 hJ835 4
            refine X.last' 241 i232_240 rfl rfl (by decide) rfl (by omega) (fun hrm837 m837 hm837 => ?_)
            have hJ838 := w45_788 hJ835 hm837 (by omega) hrm837
            have km837 : ∀ g, m837 g 8 9 = m834 g 8 9 := fun g9 => by rw [hm837]; exact z_upd_o _ _ rfl
            refine X.aload_n 242 i232_241 rfl rfl rfl ?_
            refine X.getF 245 i232_242 rfl rfl (by decide) rfl rfl ?_
            refine X.iload 247 i232_245 rfl rfl rfl ?_
            refine X.iconst 248 i232_247 rfl rfl (by decide) ?_
            refine X.iadd 249 i232_248 rfl rfl (by omega) ?_
            refine X.aload_n 250 i232_249 rfl rfl rfl ?_
            refine X.getF 253 i232_250 rfl rfl (by decide) rfl rfl ?_
            refine X.bipush 255 i232_253 rfl rfl (by decide) ?_
            refine X.lald 256 i232_255 rfl rfl (by decide) rfl (by omega) ?_
            refine X.last' 257 i232_256 rfl rfl (by decide) rfl (by omega) (fun hrm839 m839 hm839 => ?_)
            have hJ840 := w45_788 hJ838 hm839 (by omega) hrm839
            have km839 : ∀ g, m839 g 8 9 = m837 g 8 9 := fun g9 => by rw [hm839]; exact z_upd_o _ _ rfl
            refine X.aload_n 258 i232_257 rfl rfl rfl ?_
            refine X.getF 261 i232_258 rfl rfl (by decide) rfl rfl ?_
            refine X.iload 263 i232_261 rfl rfl rfl ?_
            refine X.iconst 264 i232_263 rfl rfl (by decide) ?_
            refine X.iadd 265 i232_264 rfl rfl (by omega) ?_
            refine X.aload_n 266 i232_265 rfl rfl rfl ?_
            refine X.getF 269 i232_266 rfl rfl (by decide) rfl rfl ?_
            refine X.bipush 271 i232_269 rfl rfl (by decide) ?_
            refine X.lald 272 i232_271 rfl rfl (by decide) rfl (by omega) ?_
            refine X.last' 273 i232_272 rfl rfl (by decide) rfl (by omega) (fun hrm841 m841 hm841 => ?_)
            have hJ842 := w45_788 hJ840 hm841 (by omega) hrm841
            have km841 : ∀ g, m841 g 8 9 = m839 g 8 9 := fun g9 => by rw [hm841]; exact z_upd_o _ _ rfl
            refine X.aload_n 274 i232_273 rfl rfl rfl ?_
            refine X.getF 277 i232_274 rfl rfl (by decide) rfl rfl ?_
            refine X.iload 279 i232_277 rfl rfl rfl ?_
            refine X.iconst 280 i232_279 rfl rfl (by decide) ?_
            refine X.iadd 281 i232_280 rfl rfl (by omega) ?_
            refine X.aload_n 282 i232_281 rfl rfl rfl ?_
            refine X.getF 285 i232_282 rfl rfl (by decide) rfl rfl ?_
            refine X.bipush 287 i232_285 rfl rfl (by decide) ?_
            refine X.lald 288 i232_287 rfl rfl (by decide) rfl (by omega) ?_
            refine X.last' 289 i232_288 rfl rfl (by decide) rfl (by omega) (fun hrm843 m843 hm843 => ?_)
            have hJ844 := w45_788 hJ842 hm843 (by omega) hrm843
            have km843 : ∀ g, m843 g 8 9 = m841 g 8 9 := fun g9 => by rw [hm843]; exact z_upd_o _ _ rfl
            refine X.aload_n 290 i232_289 rfl rfl rfl ?_
            refine X.getF 293 i232_290 rfl rfl (by decide) rfl rfl ?_
            refine X.iload 295 i232_293 rfl rfl rfl ?_
            refine X.iconst 296 i232_295 rfl rfl (by decide) ?_
            refine X.iadd 297 i232_296 rfl rfl (by omega) ?_
            refine X.aload_n 298 i232_297 rfl rfl rfl ?_
            refine X.getF 301 i232_298 rfl rfl (by decide) rfl rfl ?_
            refine X.bipush 303 i232_301 rfl rfl (by decide) ?_
            refine X.lald 304 i232_303 rfl rfl (by decide) rfl (by omega) ?_
            refine X.last' 305 i232_304 rfl rfl (by decide) rfl (by omega) (fun hrm845 m845 hm845 => ?_)
            have hJ846 := w45_788 hJ844 hm845 (by omega) hrm845
            have km845 : ∀ g, m845 g 8 9 = m843 g 8 9 := fun g9 => by rw [hm845]; exact z_upd_o _ _ rfl
            refine X.aload_n 306 i232_305 rfl rfl rfl ?_
            refine X.getF 309 i232_306 rfl rfl (by decide) rfl rfl ?_
            refine X.iload 311 i232_309 rfl rfl rfl ?_
            refine X.iconst 312 i232_311 rfl rfl (by decide) ?_
            refine X.iadd 313 i232_312 rfl rfl (by omega) ?_
            refine X.lload_n 314 i232_313 rfl rfl rfl ?_
            refine X.last' 315 i232_314 rfl rfl (by decide) rfl (by omega) (fun hrm847 m847 hm847 => ?_)
            have hJ848 := w45_788 hJ846 hm847 (by omega) hrm847
            have km847 : ∀ g, m847 g 8 9 = m845 g 8 9 := fun g9 => by rw [hm847]; exact z_upd_o _ _ rfl
            refine X.aload_n 316 i232_315 rfl rfl rfl ?_
            refine X.callv 319 [] [] [(0, zr g0 44)] i232_316 rfl (by decide) rfl rfl (by omega) rfl rfl (by decide) rfl t233 (Nat.le_of_ble_eq_true rfl) (Nat.le_of_ble_eq_true rfl) rfl ?_
            refine c233_1 (B := B828 + 1) g0  (by omega) (hJ848.up (by omega)) (by omega)  (fun m849 hJ850 km849 => ?_)
            show X (EE s) d 232 319 [(0, zr g0 44), (1, zl a1), (3, zl z792), (5, zi (788 + (6 * 63)))] [] m849 _
            refine X.lload_n 320 i232_319 rfl rfl rfl ?_
            refine X.lconst (y := 0) 321 i232_320 rfl rfl rfl ?_
            refine X.lcmp 322 i232_321 rfl rfl (fun z852 hz852 => ?_)
            refine X.ifne 329 325 i232_322 rfl rfl rfl (fun h853 => ?_) (fun h853 => ?_)
            · have h853c : a1 ≠ 0 := by omega
              clear h853 hz852
              refine X.cut [] i232_329 rfl ?_
              refine X.retv i232_329 rfl t232 ?_
              exact hQ  m849  (hJ850.up (by omega)) (fun g => by simp only [hkm827, km834, km837, km839, km841, km843, km845, km847, km849]) 
            · have h853c : a1 = 0 := by omega
              clear h853 hz852
              refine X.aload_n 326 i232_325 rfl rfl rfl ?_
              refine X.callv 329 [] [] [(0, zr g0 44)] i232_326 rfl (by decide) rfl rfl (by omega) rfl rfl (by decide) rfl t236 (Nat.le_of_ble_eq_true rfl) (Nat.le_of_ble_eq_true rfl) rfl ?_
              refine c236_1 (B := B828 + 1) g0  (by omega) (hJ850.up (by omega)) (by omega)  (fun m854 hJ855 km854 => ?_)
              show X (EE s) d 232 329 [(0, zr g0 44), (1, zl a1), (3, zl z792), (5, zi (788 + (6 * 63)))] [] m854 _
              refine X.cut [] i232_329 rfl ?_
              refine X.retv i232_329 rfl t232 ?_
              exact hQ  m854  (hJ855.up (by omega)) (fun g => by simp only [hkm827, km834, km837, km839, km841, km843, km845, km847, km849, km854]) 
          · have h832c : (m827 4 45 17) < 64 := by omega
            clear h832 hz831
            refine X.aload_n 15 i235_14 rfl rfl rfl ?_
            refine X.getF 18 i235_15 rfl rfl (by decide) rfl rfl ?_
            refine X.bipush 20 i235_18 rfl rfl (by decide) ?_
            refine X.lald 21 i235_20 rfl rfl (by decide) rfl (by omega) ?_
            refine X.goto 27 i235_21 rfl rfl ?_
            refine X.cut [] i235_27 rfl ?_
            refine X.l2i 28 i235_27 rfl rfl (by omega) ?_
            refine X.reti i235_28 rfl t235 ?_
            show X (EE s) d 232 199 [(0, zr g0 44), (1, zl a1), (3, zl z792)] [zi (m827 4 45 17), zi 6, zi 788] m827 _
            refine X.bipush 201 i232_199 rfl rfl (by decide) ?_
            refine X.icmpge 211 204 i232_201 rfl rfl rfl (fun h857 => (by exfalso; omega)) (fun h857 => ?_)
            refine X.aload_n 205 i232_204 rfl rfl rfl ?_
            refine X.callv 208 [] [zi 6, zi 788] [(0, zr g0 44)] i232_205 rfl (by decide) rfl rfl (by omega) rfl rfl (by decide) rfl t235 (Nat.le_of_ble_eq_true rfl) (Nat.le_of_ble_eq_true rfl) rfl ?_
            refine X.aload_n 1 i235_0 rfl rfl rfl ?_
            refine X.getF 4 i235_1 rfl rfl (by decide) rfl rfl ?_
            refine X.bipush 6 i235_4 rfl rfl (by decide) ?_
            refine X.lald 7 i235_6 rfl rfl (by decide) rfl (by omega) ?_
            refine X.ldc2 10 i235_7 rfl rfl (by decide) ?_
            refine X.lcmp 11 i235_10 rfl rfl (fun z858 hz858 => ?_)
            refine X.ifge 24 14 i235_11 rfl rfl rfl (fun h859 => (by exfalso; omega)) (fun h859 => ?_)
            have h859c : (m827 4 45 17) < 64 := by omega
            clear h859 hz858
            refine X.aload_n 15 i235_14 rfl rfl rfl ?_
            refine X.getF 18 i235_15 rfl rfl (by decide) rfl rfl ?_
            refine X.bipush 20 i235_18 rfl rfl (by decide) ?_
            refine X.lald 21 i235_20 rfl rfl (by decide) rfl (by omega) ?_
            refine X.goto 27 i235_21 rfl rfl ?_
            refine X.cut [] i235_27 rfl ?_
            refine X.l2i 28 i235_27 rfl rfl (by omega) ?_
            refine X.reti i235_28 rfl t235 ?_
            show X (EE s) d 232 208 [(0, zr g0 44), (1, zl a1), (3, zl z792)] [zi (m827 4 45 17), zi 6, zi 788] m827 _
            refine X.goto 213 i232_208 rfl rfl ?_
            refine X.imul 214 i232_213 rfl rfl (by omega) ?_
            refine X.iadd 215 i232_214 rfl rfl (by omega) ?_
            refine X.istore 217 [(0, zr g0 44), (1, zl a1), (3, zl z792), (5, zi (788 + (6 * (m827 4 45 17))))] i232_215 rfl rfl rfl ?_
            refine X.aload_n 218 i232_217 rfl rfl rfl ?_
            refine X.getF 221 i232_218 rfl rfl (by decide) rfl rfl ?_
            refine X.bipush 223 i232_221 rfl rfl (by decide) ?_
            refine X.dup2 224 i232_223 rfl rfl ?_
            refine X.lald 225 i232_224 rfl rfl (by decide) rfl (by omega) ?_
            refine X.lconst (y := 1) 226 i232_225 rfl rfl rfl ?_
            refine X.ladd 227 i232_226 rfl rfl (by omega) ?_
            refine X.last' 228 i232_227 rfl rfl (by decide) rfl (by omega) (fun hrm860 m860 hm860 => ?_)
            have hJ861 := w45_17 (hJ829.up (B' := B828 + 1) (by omega)) hm860 (by omega)
            have km860 : ∀ g, m860 g 8 9 = m827 g 8 9 := fun g9 => by rw [hm860]; exact z_upd_o _ _ rfl
            refine X.aload_n 229 i232_228 rfl rfl rfl ?_
            refine X.getF 232 i232_229 rfl rfl (by decide) rfl rfl ?_
            refine X.iload 234 i232_232 rfl rfl rfl ?_
            refine X.aload_n 235 i232_234 rfl rfl rfl ?_
            refine X.getF 238 i232_235 rfl rfl (by decide) rfl rfl ?_
            refine X.iconst 239 i232_238 rfl rfl (by decide) ?_
            refine X.lald 240 i232_239 rfl rfl (by decide) rfl (by omega) ?_
            have h862 := r45_0 hJ861 4
            refine X.last' 241 i232_240 rfl rfl (by decide) rfl (by omega) (fun hrm863 m863 hm863 => ?_)
            have hJ864 := w45_788 hJ861 hm863 (by omega) hrm863
            have km863 : ∀ g, m863 g 8 9 = m860 g 8 9 := fun g9 => by rw [hm863]; exact z_upd_o _ _ rfl
            refine X.aload_n 242 i232_241 rfl rfl rfl ?_
            refine X.getF 245 i232_242 rfl rfl (by decide) rfl rfl ?_
            refine X.iload 247 i232_245 rfl rfl rfl ?_
            refine X.iconst 248 i232_247 rfl rfl (by decide) ?_
            refine X.iadd 249 i232_248 rfl rfl (by omega) ?_
            refine X.aload_n 250 i232_249 rfl rfl rfl ?_
            refine X.getF 253 i232_250 rfl rfl (by decide) rfl rfl ?_
            refine X.bipush 255 i232_253 rfl rfl (by decide) ?_
            refine X.lald 256 i232_255 rfl rfl (by decide) rfl (by omega) ?_
            refine X.last' 257 i232_256 rfl rfl (by decide) rfl (by omega) (fun hrm865 m865 hm865 => ?_)
            have hJ866 := w45_788 hJ864 hm865 (by omega) hrm865
            have km865 : ∀ g, m865 g 8 9 = m863 g 8 9 := fun g9 => by rw [hm865]; exact z_upd_o _ _ rfl
            refine X.aload_n 258 i232_257 rfl rfl rfl ?_
            refine X.getF 261 i232_258 rfl rfl (by decide) rfl rfl ?_
            refine X.iload 263 i232_261 rfl rfl rfl ?_
            refine X.iconst 264 i232_263 rfl rfl (by decide) ?_
            refine X.iadd 265 i232_264 rfl rfl (by omega) ?_
            refine X.aload_n 266 i232_265 rfl rfl rfl ?_
            refine X.getF 269 i232_266 rfl rfl (by decide) rfl rfl ?_
            refine X.bipush 271 i232_269 rfl rfl (by decide) ?_
            refine X.lald 272 i232_271 rfl rfl (by decide) rfl (by omega) ?_
            refine X.last' 273 i232_272 rfl rfl (by decide) rfl (by omega) (fun hrm867 m867 hm867 => ?_)
            have hJ868 := w45_788 hJ866 hm867 (by omega) hrm867
            have km867 : ∀ g, m867 g 8 9 = m865 g 8 9 := fun g9 => by rw [hm867]; exact z_upd_o _ _ rfl
            refine X.aload_n 274 i232_273 rfl rfl rfl ?_
            refine X.getF 277 i232_274 rfl rfl (by decide) rfl rfl ?_
            refine X.iload 279 i232_277 rfl rfl rfl ?_
            refine X.iconst 280 i232_279 rfl rfl (by decide) ?_
            refine X.iadd 281 i232_280 rfl rfl (by omega) ?_
            refine X.aload_n 282 i232_281 rfl rfl rfl ?_
            refine X.getF 285 i232_282 rfl rfl (by decide) rfl rfl ?_
            refine X.bipush 287 i232_285 rfl rfl (by decide) ?_
            refine X.lald 288 i232_287 rfl rfl (by decide) rfl (by omega) ?_
            refine X.last' 289 i232_288 rfl rfl (by decide) rfl (by omega) (fun hrm869 m869 hm869 => ?_)
            have hJ870 := w45_788 hJ868 hm869 (by omega) hrm869
            have km869 : ∀ g, m869 g 8 9 = m867 g 8 9 := fun g9 => by rw [hm869]; exact z_upd_o _ _ rfl
            refine X.aload_n 290 i232_289 rfl rfl rfl ?_
            refine X.getF 293 i232_290 rfl rfl (by decide) rfl rfl ?_
            refine X.iload 295 i232_293 rfl rfl rfl ?_
            refine X.iconst 296 i232_295 rfl rfl (by decide) ?_
            refine X.iadd 297 i232_296 rfl rfl (by omega) ?_
            refine X.aload_n 298 i232_297 rfl rfl rfl ?_
            refine X.getF 301 i232_298 rfl rfl (by decide) rfl rfl ?_
            refine X.bipush 303 i232_301 rfl rfl (by decide) ?_
            refine X.lald 304 i232_303 rfl rfl (by decide) rfl (by omega) ?_
            refine X.last' 305 i232_304 rfl rfl (by decide) rfl (by omega) (fun hrm871 m871 hm871 => ?_)
            have hJ872 := w45_788 hJ870 hm871 (by omega) hrm871
            have km871 : ∀ g, m871 g 8 9 = m869 g 8 9 := fun g9 => by rw [hm871]; exact z_upd_o _ _ rfl
            refine X.aload_n 306 i232_305 rfl rfl rfl ?_
            refine X.getF 309 i232_306 rfl rfl (by decide) rfl rfl ?_
            refine X.iload 311 i232_309 rfl rfl rfl ?_
            refine X.iconst 312 i232_311 rfl rfl (by decide) ?_
            refine X.iadd 313 i232_312 rfl rfl (by omega) ?_
            refine X.lload_n 314 i232_313 rfl rfl rfl ?_
            refine X.last' 315 i232_314 rfl rfl (by decide) rfl (by omega) (fun hrm873 m873 hm873 => ?_)
            have hJ874 := w45_788 hJ872 hm873 (by omega) hrm873
            have km873 : ∀ g, m873 g 8 9 = m871 g 8 9 := fun g9 => by rw [hm873]; exact z_upd_o _ _ rfl
            refine X.aload_n 316 i232_315 rfl rfl rfl ?_
            refine X.callv 319 [] [] [(0, zr g0 44)] i232_316 rfl (by decide) rfl rfl (by omega) rfl rfl (by decide) rfl t233 (Nat.le_of_ble_eq_true rfl) (Nat.le_of_ble_eq_true rfl) rfl ?_
            refine c233_1 (B := B828 + 1) g0  (by omega) (hJ874.up (by omega)) (by omega)  (fun m875 hJ876 km875 => ?_)
            show X (EE s) d 232 319 [(0, zr g0 44), (1, zl a1), (3, zl z792), (5, zi (788 + (6 * (m827 4 45 17))))] [] m875 _
            refine X.lload_n 320 i232_319 rfl rfl rfl ?_
            refine X.lconst (y := 0) 321 i232_320 rfl rfl rfl ?_
            refine X.lcmp 322 i232_321 rfl rfl (fun z878 hz878 => ?_)
            refine X.ifne 329 325 i232_322 rfl rfl rfl (fun h879 => ?_) (fun h879 => ?_)
            · have h879c : a1 ≠ 0 := by omega
              clear h879 hz878
              refine X.cut [] i232_329 rfl ?_
              refine X.retv i232_329 rfl t232 ?_
              exact hQ  m875  (hJ876.up (by omega)) (fun g => by simp only [hkm827, km860, km863, km865, km867, km869, km871, km873, km875]) 
            · have h879c : a1 = 0 := by omega
              clear h879 hz878
              refine X.aload_n 326 i232_325 rfl rfl rfl ?_
              refine X.callv 329 [] [] [(0, zr g0 44)] i232_326 rfl (by decide) rfl rfl (by omega) rfl rfl (by decide) rfl t236 (Nat.le_of_ble_eq_true rfl) (Nat.le_of_ble_eq_true rfl) rfl ?_
              refine c236_1 (B := B828 + 1) g0  (by omega) (hJ876.up (by omega)) (by omega)  (fun m880 hJ881 km880 => ?_)
              show X (EE s) d 232 329 [(0, zr g0 44), (1, zl a1), (3, zl z792), (5, zi (788 + (6 * (m827 4 45 17))))] [] m880 _
              refine X.cut [] i232_329 rfl ?_
              refine X.retv i232_329 rfl t232 ?_
              exact hQ  m880  (hJ881.up (by omega)) (fun g => by simp only [hkm827, km860, km863, km865, km867, km869, km871, km873, km875, km880]) 
      · have h791c : (m 4 45 21) ≠ 1 := by omega
        clear h791 hz790
        refine X.aload_n 67 i232_66 rfl rfl rfl ?_
        refine X.getF 70 i232_67 rfl rfl (by decide) rfl rfl ?_
        refine X.iconst 71 i232_70 rfl rfl (by decide) ?_
        refine X.lald 72 i232_71 rfl rfl (by decide) rfl (by omega) ?_
        have h883 := r45_0 hJ 4
        refine X.aload_n 73 i232_72 rfl rfl rfl ?_
        refine X.getF 76 i232_73 rfl rfl (by decide) rfl rfl ?_
        refine X.bipush 78 i232_76 rfl rfl (by decide) ?_
        refine X.lald 79 i232_78 rfl rfl (by decide) rfl (by omega) ?_
        have h884 := r45_8 hJ 4
        refine X.lremp 80 i232_79 rfl rfl (by omega) ?_
        have hz885 := z_modb (x := (m 4 45 0)) (y := (m 4 45 8)) (by omega) (by omega)
        obtain ⟨z885, ez885⟩ : ∃ z, z = ((m 4 45 0) % (m 4 45 8)) := ⟨_, rfl⟩
        rw [← ez885] at hz885 ⊢
        clear ez885
        refine X.lconst (y := 0) 81 i232_80 rfl rfl rfl ?_
        refine X.lcmp 82 i232_81 rfl rfl (fun z886 hz886 => ?_)
        refine X.ifeq 91 85 i232_82 rfl rfl rfl (fun h887 => ?_) (fun h887 => ?_)
        · have h887c : z885 = 0 := by omega
          clear h887 hz886
          refine X.iconst 92 i232_91 rfl rfl (by decide) ?_
          refine X.i2l 93 i232_92 rfl rfl ?_
          refine X.llF 94 .lor (fun x y => x ||| y) i232_93 rfl rfl rfl (fun _ _ => rfl) (fun z888 hz888 => ?_)
          refine X.lstore_n 95 [(0, zr g0 44), (1, zl a1), (3, zl z888)] i232_94 rfl rfl rfl ?_
          refine X.aload_n 96 i232_95 rfl rfl rfl ?_
          refine X.getF 99 i232_96 rfl rfl (by decide) rfl rfl ?_
          refine X.bipush 101 i232_99 rfl rfl (by decide) ?_
          refine X.lald 102 i232_101 rfl rfl (by decide) rfl (by omega) ?_
          have h889 := r45_17 hJ 4
          refine X.ldc2 105 i232_102 rfl rfl (by decide) ?_
          refine X.lcmp 106 i232_105 rfl rfl (fun z890 hz890 => ?_)
          refine X.iflt 190 109 i232_106 rfl rfl rfl (fun h891 => ?_) (fun h891 => ?_)
          · have h891c : (m 4 45 17) < 64 := by omega
            clear h891 hz890
            refine X.sipush 193 i232_190 rfl rfl (by decide) ?_
            refine X.bipush 195 i232_193 rfl rfl (by decide) ?_
            refine X.aload_n 196 i232_195 rfl rfl rfl ?_
            refine X.callv 199 [] [zi 6, zi 788] [(0, zr g0 44)] i232_196 rfl (by decide) rfl rfl (by omega) rfl rfl (by decide) rfl t235 (Nat.le_of_ble_eq_true rfl) (Nat.le_of_ble_eq_true rfl) rfl ?_
            refine X.aload_n 1 i235_0 rfl rfl rfl ?_
            refine X.getF 4 i235_1 rfl rfl (by decide) rfl rfl ?_
            refine X.bipush 6 i235_4 rfl rfl (by decide) ?_
            refine X.lald 7 i235_6 rfl rfl (by decide) rfl (by omega) ?_
            refine X.ldc2 10 i235_7 rfl rfl (by decide) ?_
            refine X.lcmp 11 i235_10 rfl rfl (fun z892 hz892 => ?_)
            refine X.ifge 24 14 i235_11 rfl rfl rfl (fun h893 => (by exfalso; omega)) (fun h893 => ?_)
            have h893c : (m 4 45 17) < 64 := by omega
            clear h893 hz892
            refine X.aload_n 15 i235_14 rfl rfl rfl ?_
            refine X.getF 18 i235_15 rfl rfl (by decide) rfl rfl ?_
            refine X.bipush 20 i235_18 rfl rfl (by decide) ?_
            refine X.lald 21 i235_20 rfl rfl (by decide) rfl (by omega) ?_
            refine X.goto 27 i235_21 rfl rfl ?_
            refine X.cut [] i235_27 rfl ?_
            refine X.l2i 28 i235_27 rfl rfl (by omega) ?_
            refine X.reti i235_28 rfl t235 ?_
            show X (EE s) d 232 199 [(0, zr g0 44), (1, zl a1), (3, zl z888)] [zi (m 4 45 17), zi 6, zi 788] m _
            refine X.bipush 201 i232_199 rfl rfl (by decide) ?_
            refine X.icmpge 211 204 i232_201 rfl rfl rfl (fun h894 => (by exfalso; omega)) (fun h894 => ?_)
            refine X.aload_n 205 i232_204 rfl rfl rfl ?_
            refine X.callv 208 [] [zi 6, zi 788] [(0, zr g0 44)] i232_205 rfl (by decide) rfl rfl (by omega) rfl rfl (by decide) rfl t235 (Nat.le_of_ble_eq_true rfl) (Nat.le_of_ble_eq_true rfl) rfl ?_
            refine X.aload_n 1 i235_0 rfl rfl rfl ?_
            refine X.getF 4 i235_1 rfl rfl (by decide) rfl rfl ?_
            refine X.bipush 6 i235_4 rfl rfl (by decide) ?_
            refine X.lald 7 i235_6 rfl rfl (by decide) rfl (by omega) ?_
            refine X.ldc2 10 i235_7 rfl rfl (by decide) ?_
            refine X.lcmp 11 i235_10 rfl rfl (fun z895 hz895 => ?_)
            refine X.ifge 24 14 i235_11 rfl rfl rfl (fun h896 => (by exfalso; omega)) (fun h896 => ?_)
            have h896c : (m 4 45 17) < 64 := by omega
            clear h896 hz895
            refine X.aload_n 15 i235_14 rfl rfl rfl ?_
            refine X.getF 18 i235_15 rfl rfl (by decide) rfl rfl ?_
            refine X.bipush 20 i235_18 rfl rfl (by decide) ?_
            refine X.lald 21 i235_20 rfl rfl (by decide) rfl (by omega) ?_
            refine X.goto 27 i235_21 rfl rfl ?_
            refine X.cut [] i235_27 rfl ?_
            refine X.l2i 28 i235_27 rfl rfl (by omega) ?_
            refine X.reti i235_28 rfl t235 ?_
            show X (EE s) d 232 208 [(0, zr g0 44), (1, zl a1), (3, zl z888)] [zi (m 4 45 17), zi 6, zi 788] m _
            refine X.goto 213 i232_208 rfl rfl ?_
            refine X.imul 214 i232_213 rfl rfl (by omega) ?_
            refine X.iadd 215 i232_214 rfl rfl (by omega) ?_
            refine X.istore 217 [(0, zr g0 44), (1, zl a1), (3, zl z888), (5, zi (788 + (6 * (m 4 45 17))))] i232_215 rfl rfl rfl ?_
            refine X.aload_n 218 i232_217 rfl rfl rfl ?_
            refine X.getF 221 i232_218 rfl rfl (by decide) rfl rfl ?_
            refine X.bipush 223 i232_221 rfl rfl (by decide) ?_
            refine X.dup2 224 i232_223 rfl rfl ?_
            refine X.lald 225 i232_224 rfl rfl (by decide) rfl (by omega) ?_
            refine X.lconst (y := 1) 226 i232_225 rfl rfl rfl ?_
            refine X.ladd 227 i232_226 rfl rfl (by omega) ?_
            refine X.last' 228 i232_227 rfl rfl (by decide) rfl (by omega) (fun hrm897 m897 hm897 => ?_)
            have hJ898 := w45_17 (hJ.up (B' := B + 1) (by omega)) hm897 (by omega)
            have km897 : ∀ g, m897 g 8 9 = m g 8 9 := fun g9 => by rw [hm897]; exact z_upd_o _ _ rfl
            refine X.aload_n 229 i232_228 rfl rfl rfl ?_
            refine X.getF 232 i232_229 rfl rfl (by decide) rfl rfl ?_
            refine X.iload 234 i232_232 rfl rfl rfl ?_
            refine X.aload_n 235 i232_234 rfl rfl rfl ?_
            refine X.getF 238 i232_235 rfl rfl (by decide) rfl rfl ?_
            refine X.iconst 239 i232_238 rfl rfl (by decide) ?_
            refine X.lald 240 i232_239 rfl rfl (by decide) rfl (by omega) ?_
            have h899 := r45_0 hJ898 4
            refine X.last' 241 i232_240 rfl rfl (by decide) rfl (by omega) (fun hrm900 m900 hm900 => ?_)
            have hJ901 := w45_788 hJ898 hm900 (by omega) hrm900
            have km900 : ∀ g, m900 g 8 9 = m897 g 8 9 := fun g9 => by rw [hm900]; exact z_upd_o _ _ rfl
            refine X.aload_n 242 i232_241 rfl rfl rfl ?_
            refine X.getF 245 i232_242 rfl rfl (by decide) rfl rfl ?_
            refine X.iload 247 i232_245 rfl rfl rfl ?_
            refine X.iconst 248 i232_247 rfl rfl (by decide) ?_
            refine X.iadd 249 i232_248 rfl rfl (by omega) ?_
            refine X.aload_n 250 i232_249 rfl rfl rfl ?_
            refine X.getF 253 i232_250 rfl rfl (by decide) rfl rfl ?_
            refine X.bipush 255 i232_253 rfl rfl (by decide) ?_
            refine X.lald 256 i232_255 rfl rfl (by decide) rfl (by omega) ?_
            refine X.last' 257 i232_256 rfl rfl (by decide) rfl (by omega) (fun hrm902 m902 hm902 => ?_)
            have hJ903 := w45_788 hJ901 hm902 (by omega) hrm902
            have km902 : ∀ g, m902 g 8 9 = m900 g 8 9 := fun g9 => by rw [hm902]; exact z_upd_o _ _ rfl
            refine X.aload_n 258 i232_257 rfl rfl rfl ?_
            refine X.getF 261 i232_258 rfl rfl (by decide) rfl rfl ?_
            refine X.iload 263 i232_261 rfl rfl rfl ?_
            refine X.iconst 264 i232_263 rfl rfl (by decide) ?_
            refine X.iadd 265 i232_264 rfl rfl (by omega) ?_
            refine X.aload_n 266 i232_265 rfl rfl rfl ?_
            refine X.getF 269 i232_266 rfl rfl (by decide) rfl rfl ?_
            refine X.bipush 271 i232_269 rfl rfl (by decide) ?_
            refine X.lald 272 i232_271 rfl rfl (by decide) rfl (by omega) ?_
            refine X.last' 273 i232_272 rfl rfl (by decide) rfl (by omega) (fun hrm904 m904 hm904 => ?_)
            have hJ905 := w45_788 hJ903 hm904 (by omega) hrm904
            have km904 : ∀ g, m904 g 8 9 = m902 g 8 9 := fun g9 => by rw [hm904]; exact z_upd_o _ _ rfl
            refine X.aload_n 274 i232_273 rfl rfl rfl ?_
            refine X.getF 277 i232_274 rfl rfl (by decide) rfl rfl ?_
            refine X.iload 279 i232_277 rfl rfl rfl ?_
            refine X.iconst 280 i232_279 rfl rfl (by decide) ?_
            refine X.iadd 281 i232_280 rfl rfl (by omega) ?_
            refine X.aload_n 282 i232_281 rfl rfl rfl ?_
            refine X.getF 285 i232_282 rfl rfl (by decide) rfl rfl ?_
            refine X.bipush 287 i232_285 rfl rfl (by decide) ?_
            refine X.lald 288 i232_287 rfl rfl (by decide) rfl (by omega) ?_
            refine X.last' 289 i232_288 rfl rfl (by decide) rfl (by omega) (fun hrm906 m906 hm906 => ?_)
            have hJ907 := w45_788 hJ905 hm906 (by omega) hrm906
            have km906 : ∀ g, m906 g 8 9 = m904 g 8 9 := fun g9 => by rw [hm906]; exact z_upd_o _ _ rfl
            refine X.aload_n 290 i232_289 rfl rfl rfl ?_
            refine X.getF 293 i232_290 rfl rfl (by decide) rfl rfl ?_
            refine X.iload 295 i232_293 rfl rfl rfl ?_
            refine X.iconst 296 i232_295 rfl rfl (by decide) ?_
            refine X.iadd 297 i232_296 rfl rfl (by omega) ?_
            refine X.aload_n 298 i232_297 rfl rfl rfl ?_
            refine X.getF 301 i232_298 rfl rfl (by decide) rfl rfl ?_
            refine X.bipush 303 i232_301 rfl rfl (by decide) ?_
            refine X.lald 304 i232_303 rfl rfl (by decide) rfl (by omega) ?_
            refine X.last' 305 i232_304 rfl rfl (by decide) rfl (by omega) (fun hrm908 m908 hm908 => ?_)
            have hJ909 := w45_788 hJ907 hm908 (by omega) hrm908
            have km908 : ∀ g, m908 g 8 9 = m906 g 8 9 := fun g9 => by rw [hm908]; exact z_upd_o _ _ rfl
            refine X.aload_n 306 i232_305 rfl rfl rfl ?_
            refine X.getF 309 i232_306 rfl rfl (by decide) rfl rfl ?_
            refine X.iload 311 i232_309 rfl rfl rfl ?_
            refine X.iconst 312 i232_311 rfl rfl (by decide) ?_
            refine X.iadd 313 i232_312 rfl rfl (by omega) ?_
            refine X.lload_n 314 i232_313 rfl rfl rfl ?_
            refine X.last' 315 i232_314 rfl rfl (by decide) rfl (by omega) (fun hrm910 m910 hm910 => ?_)
            have hJ911 := w45_788 hJ909 hm910 (by omega) hrm910
            have km910 : ∀ g, m910 g 8 9 = m908 g 8 9 := fun g9 => by rw [hm910]; exact z_upd_o _ _ rfl
            refine X.aload_n 316 i232_315 rfl rfl rfl ?_
            refine X.callv 319 [] [] [(0, zr g0 44)] i232_316 rfl (by decide) rfl rfl (by omega) rfl rfl (by decide) rfl t233 (Nat.le_of_ble_eq_true rfl) (Nat.le_of_ble_eq_true rfl) rfl ?_
            refine c233_1 (B := B + 1) g0  (by omega) (hJ911.up (by omega)) (by omega)  (fun m912 hJ913 km912 => ?_)
            show X (EE s) d 232 319 [(0, zr g0 44), (1, zl a1), (3, zl z888), (5, zi (788 + (6 * (m 4 45 17))))] [] m912 _
            refine X.lload_n 320 i232_319 rfl rfl rfl ?_
            refine X.lconst (y := 0) 321 i232_320 rfl rfl rfl ?_
            refine X.lcmp 322 i232_321 rfl rfl (fun z915 hz915 => ?_)
            refine X.ifne 329 325 i232_322 rfl rfl rfl (fun h916 => ?_) (fun h916 => ?_)
            · have h916c : a1 ≠ 0 := by omega
              clear h916 hz915
              refine X.cut [] i232_329 rfl ?_
              refine X.retv i232_329 rfl t232 ?_
              exact hQ  m912  (hJ913.up (by omega)) (fun g => by simp only [km897, km900, km902, km904, km906, km908, km910, km912]) 
            · have h916c : a1 = 0 := by omega
              clear h916 hz915
              refine X.aload_n 326 i232_325 rfl rfl rfl ?_
              refine X.callv 329 [] [] [(0, zr g0 44)] i232_326 rfl (by decide) rfl rfl (by omega) rfl rfl (by decide) rfl t236 (Nat.le_of_ble_eq_true rfl) (Nat.le_of_ble_eq_true rfl) rfl ?_
              refine c236_1 (B := B + 1) g0  (by omega) (hJ913.up (by omega)) (by omega)  (fun m917 hJ918 km917 => ?_)
              show X (EE s) d 232 329 [(0, zr g0 44), (1, zl a1), (3, zl z888), (5, zi (788 + (6 * (m 4 45 17))))] [] m917 _
              refine X.cut [] i232_329 rfl ?_
              refine X.retv i232_329 rfl t232 ?_
              exact hQ  m917  (hJ918.up (by omega)) (fun g => by simp only [km897, km900, km902, km904, km906, km908, km910, km912, km917]) 
          · have h891c : (m 4 45 17) ≥ 64 := by omega
            clear h891 hz890
            refine X.iconst 110 i232_109 rfl rfl (by decide) ?_
            refine X.istore 112 [(0, zr g0 44), (1, zl a1), (3, zl z888), (5, zi 0)] i232_110 rfl rfl rfl ?_
            refine l232_112_1 (s := s) (m0 := m0) (d := d) g0 a1 z888 (fun g => m g 8 9) (BE := B + 0) (by omega) (by omega) (by omega) (fun  m920 B921 hJ922 hBB921 hkm920 => ?_) ((4 - 0 : Int).toNat + 1) 0 m (B) (hJ.up (by omega)) (by omega) (fun g => rfl) (by omega) (by omega)
            refine X.bipush 149 i232_147 rfl rfl (by decide) ?_
            refine X.istore 151 [(0, zr g0 44), (1, zl a1), (3, zl z888), (5, zi 6)] i232_149 rfl rfl rfl ?_
            refine l232_151_1 (s := s) (m0 := m0) (d := d) g0 a1 z888 (fun g => m g 8 9) (BE := B921 + 0) (by omega) (by omega) (by omega) (fun  m923 B924 hJ925 hBB924 hkm923 => ?_) ((384 - 6 : Int).toNat + 1) 6 m920 (B921) (hJ922.up (by omega)) (by omega) (fun g => by simp only [hkm920]) (by omega) (by omega)
            refine X.sipush 193 i232_190 rfl rfl (by decide) ?_
            refine X.bipush 195 i232_193 rfl rfl (by decide) ?_
            refine X.aload_n 196 i232_195 rfl rfl rfl ?_
            refine X.callv 199 [] [zi 6, zi 788] [(0, zr g0 44)] i232_196 rfl (by decide) rfl rfl (by omega) rfl rfl (by decide) rfl t235 (Nat.le_of_ble_eq_true rfl) (Nat.le_of_ble_eq_true rfl) rfl ?_
            refine X.aload_n 1 i235_0 rfl rfl rfl ?_
            refine X.getF 4 i235_1 rfl rfl (by decide) rfl rfl ?_
            refine X.bipush 6 i235_4 rfl rfl (by decide) ?_
            refine X.lald 7 i235_6 rfl rfl (by decide) rfl (by omega) ?_
            have h926 := r45_17 hJ925 4
            refine X.ldc2 10 i235_7 rfl rfl (by decide) ?_
            refine X.lcmp 11 i235_10 rfl rfl (fun z927 hz927 => ?_)
            refine X.ifge 24 14 i235_11 rfl rfl rfl (fun h928 => ?_) (fun h928 => ?_)
            · have h928c : (m923 4 45 17) ≥ 64 := by omega
              clear h928 hz927
              refine X.cut [] i235_24 rfl ?_
              refine X.ldc2 27 i235_24 rfl rfl (by decide) ?_
              refine X.l2i 28 i235_27 rfl rfl (by omega) ?_
              refine X.reti i235_28 rfl t235 ?_
              show X (EE s) d 232 199 [(0, zr g0 44), (1, zl a1), (3, zl z888)] [zi 64, zi 6, zi 788] m923 _
              refine X.bipush 201 i232_199 rfl rfl (by decide) ?_
              refine X.icmpge 211 204 i232_201 rfl rfl rfl (fun h929 => ?_) (fun h929 => (by exfalso; omega))
              refine X.bipush 213 i232_211 rfl rfl (by decide) ?_
              refine X.imul 214 i232_213 rfl rfl (by omega) ?_
              refine X.iadd 215 i232_214 rfl rfl (by omega) ?_
              refine X.istore 217 [(0, zr g0 44), (1, zl a1), (3, zl z888), (5, zi (788 + (6 * 63)))] i232_215 rfl rfl rfl ?_
              refine X.aload_n 218 i232_217 rfl rfl rfl ?_
              refine X.getF 221 i232_218 rfl rfl (by decide) rfl rfl ?_
              refine X.bipush 223 i232_221 rfl rfl (by decide) ?_
              refine X.dup2 224 i232_223 rfl rfl ?_
              refine X.lald 225 i232_224 rfl rfl (by decide) rfl (by omega) ?_
              refine X.lconst (y := 1) 226 i232_225 rfl rfl rfl ?_
              refine X.ladd 227 i232_226 rfl rfl (by omega) ?_
              refine X.last' 228 i232_227 rfl rfl (by decide) rfl (by omega) (fun hrm930 m930 hm930 => ?_)
              have hJ931 := w45_17 (hJ925.up (B' := B924 + 1) (by omega)) hm930 (by omega)
              have km930 : ∀ g, m930 g 8 9 = m923 g 8 9 := fun g9 => by rw [hm930]; exact z_upd_o _ _ rfl
              refine X.aload_n 229 i232_228 rfl rfl rfl ?_
              refine X.getF 232 i232_229 rfl rfl (by decide) rfl rfl ?_
              refine X.iload 234 i232_232 rfl rfl rfl ?_
              refine X.aload_n 235 i232_234 rfl rfl rfl ?_
              refine X.getF 238 i232_235 rfl rfl (by decide) rfl rfl ?_
              refine X.iconst 239 i232_238 rfl rfl (by decide) ?_
              refine X.lald 240 i232_239 rfl rfl (by decide) rfl (by omega) ?_
              have h932 := r45_0 hJ931 4
              refine X.last' 241 i232_240 rfl rfl (by decide) rfl (by omega) (fun hrm933 m933 hm933 => ?_)
              have hJ934 := w45_788 hJ931 hm933 (by omega) hrm933
              have km933 : ∀ g, m933 g 8 9 = m930 g 8 9 := fun g9 => by rw [hm933]; exact z_upd_o _ _ rfl
              refine X.aload_n 242 i232_241 rfl rfl rfl ?_
              refine X.getF 245 i232_242 rfl rfl (by decide) rfl rfl ?_
              refine X.iload 247 i232_245 rfl rfl rfl ?_
              refine X.iconst 248 i232_247 rfl rfl (by decide) ?_
              refine X.iadd 249 i232_248 rfl rfl (by omega) ?_
              refine X.aload_n 250 i232_249 rfl rfl rfl ?_
              refine X.getF 253 i232_250 rfl rfl (by decide) rfl rfl ?_
              refine X.bipush 255 i232_253 rfl rfl (by decide) ?_
              refine X.lald 256 i232_255 rfl rfl (by decide) rfl (by omega) ?_
              refine X.last' 257 i232_256 rfl rfl (by decide) rfl (by omega) (fun hrm935 m935 hm935 => ?_)
              have hJ936 := w45_788 hJ934 hm935 (by omega) hrm935
              have km935 : ∀ g, m935 g 8 9 = m933 g 8 9 := fun g9 => by rw [hm935]; exact z_upd_o _ _ rfl
              refine X.aload_n 258 i232_257 rfl rfl rfl ?_
              refine X.getF 261 i232_258 rfl rfl (by decide) rfl rfl ?_
              refine X.iload 263 i232_261 rfl rfl rfl ?_
              refine X.iconst 264 i232_263 rfl rfl (by decide) ?_
              refine X.iadd 265 i232_264 rfl rfl (by omega) ?_
              refine X.aload_n 266 i232_265 rfl rfl rfl ?_
              refine X.getF 269 i232_266 rfl rfl (by decide) rfl rfl ?_
              refine X.bipush 271 i232_269 rfl rfl (by decide) ?_
              refine X.lald 272 i232_271 rfl rfl (by decide) rfl (by omega) ?_
              refine X.last' 273 i232_272 rfl rfl (by decide) rfl (by omega) (fun hrm937 m937 hm937 => ?_)
              have hJ938 := w45_788 hJ936 hm937 (by omega) hrm937
              have km937 : ∀ g, m937 g 8 9 = m935 g 8 9 := fun g9 => by rw [hm937]; exact z_upd_o _ _ rfl
              refine X.aload_n 274 i232_273 rfl rfl rfl ?_
              refine X.getF 277 i232_274 rfl rfl (by decide) rfl rfl ?_
              refine X.iload 279 i232_277 rfl rfl rfl ?_
              refine X.iconst 280 i232_279 rfl rfl (by decide) ?_
              refine X.iadd 281 i232_280 rfl rfl (by omega) ?_
              refine X.aload_n 282 i232_281 rfl rfl rfl ?_
              refine X.getF 285 i232_282 rfl rfl (by decide) rfl rfl ?_
              refine X.bipush 287 i232_285 rfl rfl (by decide) ?_
              refine X.lald 288 i232_287 rfl rfl (by decide) rfl (by omega) ?_
              refine X.last' 289 i232_288 rfl rfl (by decide) rfl (by omega) (fun hrm939 m939 hm939 => ?_)
              have hJ940 := w45_788 hJ938 hm939 (by omega) hrm939
              have km939 : ∀ g, m939 g 8 9 = m937 g 8 9 := fun g9 => by rw [hm939]; exact z_upd_o _ _ rfl
              refine X.aload_n 290 i232_289 rfl rfl rfl ?_
              refine X.getF 293 i232_290 rfl rfl (by decide) rfl rfl ?_
              refine X.iload 295 i232_293 rfl rfl rfl ?_
              refine X.iconst 296 i232_295 rfl rfl (by decide) ?_
              refine X.iadd 297 i232_296 rfl rfl (by omega) ?_
              refine X.aload_n 298 i232_297 rfl rfl rfl ?_
              refine X.getF 301 i232_298 rfl rfl (by decide) rfl rfl ?_
              refine X.bipush 303 i232_301 rfl rfl (by decide) ?_
              refine X.lald 304 i232_303 rfl rfl (by decide) rfl (by omega) ?_
              refine X.last' 305 i232_304 rfl rfl (by decide) rfl (by omega) (fun hrm941 m941 hm941 => ?_)
              have hJ942 := w45_788 hJ940 hm941 (by omega) hrm941
              have km941 : ∀ g, m941 g 8 9 = m939 g 8 9 := fun g9 => by rw [hm941]; exact z_upd_o _ _ rfl
              refine X.aload_n 306 i232_305 rfl rfl rfl ?_
              refine X.getF 309 i232_306 rfl rfl (by decide) rfl rfl ?_
              refine X.iload 311 i232_309 rfl rfl rfl ?_
              refine X.iconst 312 i232_311 rfl rfl (by decide) ?_
              refine X.iadd 313 i232_312 rfl rfl (by omega) ?_
              refine X.lload_n 314 i232_313 rfl rfl rfl ?_
              refine X.last' 315 i232_314 rfl rfl (by decide) rfl (by omega) (fun hrm943 m943 hm943 => ?_)
              have hJ944 := w45_788 hJ942 hm943 (by omega) hrm943
              have km943 : ∀ g, m943 g 8 9 = m941 g 8 9 := fun g9 => by rw [hm943]; exact z_upd_o _ _ rfl
              refine X.aload_n 316 i232_315 rfl rfl rfl ?_
              refine X.callv 319 [] [] [(0, zr g0 44)] i232_316 rfl (by decide) rfl rfl (by omega) rfl rfl (by decide) rfl t233 (Nat.le_of_ble_eq_true rfl) (Nat.le_of_ble_eq_true rfl) rfl ?_
              refine c233_1 (B := B924 + 1) g0  (by omega) (hJ944.up (by omega)) (by omega)  (fun m945 hJ946 km945 => ?_)
              show X (EE s) d 232 319 [(0, zr g0 44), (1, zl a1), (3, zl z888), (5, zi (788 + (6 * 63)))] [] m945 _
              refine X.lload_n 320 i232_319 rfl rfl rfl ?_
              refine X.lconst (y := 0) 321 i232_320 rfl rfl rfl ?_
              refine X.lcmp 322 i232_321 rfl rfl (fun z948 hz948 => ?_)
              refine X.ifne 329 325 i232_322 rfl rfl rfl (fun h949 => ?_) (fun h949 => ?_)
              · have h949c : a1 ≠ 0 := by omega
                clear h949 hz948
                refine X.cut [] i232_329 rfl ?_
                refine X.retv i232_329 rfl t232 ?_
                exact hQ  m945  (hJ946.up (by omega)) (fun g => by simp only [hkm923, km930, km933, km935, km937, km939, km941, km943, km945]) 
              · have h949c : a1 = 0 := by omega
                clear h949 hz948
                refine X.aload_n 326 i232_325 rfl rfl rfl ?_
                refine X.callv 329 [] [] [(0, zr g0 44)] i232_326 rfl (by decide) rfl rfl (by omega) rfl rfl (by decide) rfl t236 (Nat.le_of_ble_eq_true rfl) (Nat.le_of_ble_eq_true rfl) rfl ?_
                refine c236_1 (B := B924 + 1) g0  (by omega) (hJ946.up (by omega)) (by omega)  (fun m950 hJ951 km950 => ?_)
                show X (EE s) d 232 329 [(0, zr g0 44), (1, zl a1), (3, zl z888), (5, zi (788 + (6 * 63)))] [] m950 _
                refine X.cut [] i232_329 rfl ?_
                refine X.retv i232_329 rfl t232 ?_
                exact hQ  m950  (hJ951.up (by omega)) (fun g => by simp only [hkm923, km930, km933, km935, km937, km939, km941, km943, km945, km950]) 
            · have h928c : (m923 4 45 17) < 64 := by omega
              clear h928 hz927
              refine X.aload_n 15 i235_14 rfl rfl rfl ?_
              refine X.getF 18 i235_15 rfl rfl (by decide) rfl rfl ?_
              refine X.bipush 20 i235_18 rfl rfl (by decide) ?_
              refine X.lald 21 i235_20 rfl rfl (by decide) rfl (by omega) ?_
              refine X.goto 27 i235_21 rfl rfl ?_
              refine X.cut [] i235_27 rfl ?_
              refine X.l2i 28 i235_27 rfl rfl (by omega) ?_
              refine X.reti i235_28 rfl t235 ?_
              show X (EE s) d 232 199 [(0, zr g0 44), (1, zl a1), (3, zl z888)] [zi (m923 4 45 17), zi 6, zi 788] m923 _
              refine X.bipush 201 i232_199 rfl rfl (by decide) ?_
              refine X.icmpge 211 204 i232_201 rfl rfl rfl (fun h953 => (by exfalso; omega)) (fun h953 => ?_)
              refine X.aload_n 205 i232_204 rfl rfl rfl ?_
              refine X.callv 208 [] [zi 6, zi 788] [(0, zr g0 44)] i232_205 rfl (by decide) rfl rfl (by omega) rfl rfl (by decide) rfl t235 (Nat.le_of_ble_eq_true rfl) (Nat.le_of_ble_eq_true rfl) rfl ?_
              refine X.aload_n 1 i235_0 rfl rfl rfl ?_
              refine X.getF 4 i235_1 rfl rfl (by decide) rfl rfl ?_
              refine X.bipush 6 i235_4 rfl rfl (by decide) ?_
              refine X.lald 7 i235_6 rfl rfl (by decide) rfl (by omega) ?_
              refine X.ldc2 10 i235_7 rfl rfl (by decide) ?_
              refine X.lcmp 11 i235_10 rfl rfl (fun z954 hz954 => ?_)
              refine X.ifge 24 14 i235_11 rfl rfl rfl (fun h955 => (by exfalso; omega)) (fun h955 => ?_)
              have h955c : (m923 4 45 17) < 64 := by omega
              clear h955 hz954
              refine X.aload_n 15 i235_14 rfl rfl rfl ?_
              refine X.getF 18 i235_15 rfl rfl (by decide) rfl rfl ?_
              refine X.bipush 20 i235_18 rfl rfl (by decide) ?_
              refine X.lald 21 i235_20 rfl rfl (by decide) rfl (by omega) ?_
              refine X.goto 27 i235_21 rfl rfl ?_
              refine X.cut [] i235_27 rfl ?_
              refine X.l2i 28 i235_27 rfl rfl (by omega) ?_
              refine X.reti i235_28 rfl t235 ?_
              show X (EE s) d 232 208 [(0, zr g0 44), (1, zl a1), (3, zl z888)] [zi (m923 4 45 17), zi 6, zi 788] m923 _
              refine X.goto 213 i232_208 rfl rfl ?_
              refine X.imul 214 i232_213 rfl rfl (by omega) ?_
              refine X.iadd 215 i232_214 rfl rfl (by omega) ?_
              refine X.istore 217 [(0, zr g0 44), (1, zl a1), (3, zl z888), (5, zi (788 + (6 * (m923 4 45 17))))] i232_215 rfl rfl rfl ?_
              refine X.aload_n 218 i232_217 rfl rfl rfl ?_
              refine X.getF 221 i232_218 rfl rfl (by decide) rfl rfl ?_
              refine X.bipush 223 i232_221 rfl rfl (by decide) ?_
              refine X.dup2 224 i232_223 rfl rfl ?_
              refine X.lald 225 i232_224 rfl rfl (by decide) rfl (by omega) ?_
              refine X.lconst (y := 1) 226 i232_225 rfl rfl rfl ?_
              refine X.ladd 227 i232_226 rfl rfl (by omega) ?_
              refine X.last' 228 i232_227 rfl rfl (by decide) rfl (by omega) (fun hrm956 m956 hm956 => ?_)
              have hJ957 := w45_17 (hJ925.up (B' := B924 + 1) (by omega)) hm956 (by omega)
              have km956 : ∀ g, m956 g 8 9 = m923 g 8 9 := fun g9 => by rw [hm956]; exact z_upd_o _ _ rfl
              refine X.aload_n 229 i232_228 rfl rfl rfl ?_
              refine X.getF 232 i232_229 rfl rfl (by decide) rfl rfl ?_
              refine X.iload 234 i232_232 rfl rfl rfl ?_
              refine X.aload_n 235 i232_234 rfl rfl rfl ?_
              refine X.getF 238 i232_235 rfl rfl (by decide) rfl rfl ?_
              refine X.iconst 239 i232_238 rfl rfl (by decide) ?_
              refine X.lald 240 i232_239 rfl rfl (by decide) rfl (by omega) ?_
              have h958 := r45_0 hJ957 4
              refine X.last' 241 i232_240 rfl rfl (by decide) rfl (by omega) (fun hrm959 m959 hm959 => ?_)
              have hJ960 := w45_788 hJ957 hm959 (by omega) hrm959
              have km959 : ∀ g, m959 g 8 9 = m956 g 8 9 := fun g9 => by rw [hm959]; exact z_upd_o _ _ rfl
              refine X.aload_n 242 i232_241 rfl rfl rfl ?_
              refine X.getF 245 i232_242 rfl rfl (by decide) rfl rfl ?_
              refine X.iload 247 i232_245 rfl rfl rfl ?_
              refine X.iconst 248 i232_247 rfl rfl (by decide) ?_
              refine X.iadd 249 i232_248 rfl rfl (by omega) ?_
              refine X.aload_n 250 i232_249 rfl rfl rfl ?_
              refine X.getF 253 i232_250 rfl rfl (by decide) rfl rfl ?_
              refine X.bipush 255 i232_253 rfl rfl (by decide) ?_
              refine X.lald 256 i232_255 rfl rfl (by decide) rfl (by omega) ?_
              refine X.last' 257 i232_256 rfl rfl (by decide) rfl (by omega) (fun hrm961 m961 hm961 => ?_)
              have hJ962 := w45_788 hJ960 hm961 (by omega) hrm961
              have km961 : ∀ g, m961 g 8 9 = m959 g 8 9 := fun g9 => by rw [hm961]; exact z_upd_o _ _ rfl
              refine X.aload_n 258 i232_257 rfl rfl rfl ?_
              refine X.getF 261 i232_258 rfl rfl (by decide) rfl rfl ?_
              refine X.iload 263 i232_261 rfl rfl rfl ?_
              refine X.iconst 264 i232_263 rfl rfl (by decide) ?_
              refine X.iadd 265 i232_264 rfl rfl (by omega) ?_
              refine X.aload_n 266 i232_265 rfl rfl rfl ?_
              refine X.getF 269 i232_266 rfl rfl (by decide) rfl rfl ?_
              refine X.bipush 271 i232_269 rfl rfl (by decide) ?_
              refine X.lald 272 i232_271 rfl rfl (by decide) rfl (by omega) ?_
              refine X.last' 273 i232_272 rfl rfl (by decide) rfl (by omega) (fun hrm963 m963 hm963 => ?_)
              have hJ964 := w45_788 hJ962 hm963 (by omega) hrm963
              have km963 : ∀ g, m963 g 8 9 = m961 g 8 9 := fun g9 => by rw [hm963]; exact z_upd_o _ _ rfl
              refine X.aload_n 274 i232_273 rfl rfl rfl ?_
              refine X.getF 277 i232_274 rfl rfl (by decide) rfl rfl ?_
              refine X.iload 279 i232_277 rfl rfl rfl ?_
              refine X.iconst 280 i232_279 rfl rfl (by decide) ?_
              refine X.iadd 281 i232_280 rfl rfl (by omega) ?_
              refine X.aload_n 282 i232_281 rfl rfl rfl ?_
              refine X.getF 285 i232_282 rfl rfl (by decide) rfl rfl ?_
              refine X.bipush 287 i232_285 rfl rfl (by decide) ?_
              refine X.lald 288 i232_287 rfl rfl (by decide) rfl (by omega) ?_
              refine X.last' 289 i232_288 rfl rfl (by decide) rfl (by omega) (fun hrm965 m965 hm965 => ?_)
              have hJ966 := w45_788 hJ964 hm965 (by omega) hrm965
              have km965 : ∀ g, m965 g 8 9 = m963 g 8 9 := fun g9 => by rw [hm965]; exact z_upd_o _ _ rfl
              refine X.aload_n 290 i232_289 rfl rfl rfl ?_
              refine X.getF 293 i232_290 rfl rfl (by decide) rfl rfl ?_
              refine X.iload 295 i232_293 rfl rfl rfl ?_
              refine X.iconst 296 i232_295 rfl rfl (by decide) ?_
              refine X.iadd 297 i232_296 rfl rfl (by omega) ?_
              refine X.aload_n 298 i232_297 rfl rfl rfl ?_
              refine X.getF 301 i232_298 rfl rfl (by decide) rfl rfl ?_
              refine X.bipush 303 i232_301 rfl rfl (by decide) ?_
              refine X.lald 304 i232_303 rfl rfl (by decide) rfl (by omega) ?_
              refine X.last' 305 i232_304 rfl rfl (by decide) rfl (by omega) (fun hrm967 m967 hm967 => ?_)
              have hJ968 := w45_788 hJ966 hm967 (by omega) hrm967
              have km967 : ∀ g, m967 g 8 9 = m965 g 8 9 := fun g9 => by rw [hm967]; exact z_upd_o _ _ rfl
              refine X.aload_n 306 i232_305 rfl rfl rfl ?_
              refine X.getF 309 i232_306 rfl rfl (by decide) rfl rfl ?_
              refine X.iload 311 i232_309 rfl rfl rfl ?_
              refine X.iconst 312 i232_311 rfl rfl (by decide) ?_
              refine X.iadd 313 i232_312 rfl rfl (by omega) ?_
              refine X.lload_n 314 i232_313 rfl rfl rfl ?_
              refine X.last' 315 i232_314 rfl rfl (by decide) rfl (by omega) (fun hrm969 m969 hm969 => ?_)
              have hJ970 := w45_788 hJ968 hm969 (by omega) hrm969
              have km969 : ∀ g, m969 g 8 9 = m967 g 8 9 := fun g9 => by rw [hm969]; exact z_upd_o _ _ rfl
              refine X.aload_n 316 i232_315 rfl rfl rfl ?_
              refine X.callv 319 [] [] [(0, zr g0 44)] i232_316 rfl (by decide) rfl rfl (by omega) rfl rfl (by decide) rfl t233 (Nat.le_of_ble_eq_true rfl) (Nat.le_of_ble_eq_true rfl) rfl ?_
              refine c233_1 (B := B924 + 1) g0  (by omega) (hJ970.up (by omega)) (by omega)  (fun m971 hJ972 km971 => ?_)
              show X (EE s) d 232 319 [(0, zr g0 44), (1, zl a1), (3, zl z888), (5, zi (788 + (6 * (m923 4 45 17))))] [] m971 _
              refine X.lload_n 320 i232_319 rfl rfl rfl ?_
              refine X.lconst (y := 0) 321 i232_320 rfl rfl rfl ?_
              refine X.lcmp 322 i232_321 rfl rfl (fun z974 hz974 => ?_)
              refine X.ifne 329 325 i232_322 rfl rfl rfl (fun h975 => ?_) (fun h975 => ?_)
              · have h975c : a1 ≠ 0 := by omega
                clear h975 hz974
                refine X.cut [] i232_329 rfl ?_
                refine X.retv i232_329 rfl t232 ?_
                exact hQ  m971  (hJ972.up (by omega)) (fun g => by simp only [hkm923, km956, km959, km961, km963, km965, km967, km969, km971]) 
              · have h975c : a1 = 0 := by omega
                clear h975 hz974
                refine X.aload_n 326 i232_325 rfl rfl rfl ?_
                refine X.callv 329 [] [] [(0, zr g0 44)] i232_326 rfl (by decide) rfl rfl (by omega) rfl rfl (by decide) rfl t236 (Nat.le_of_ble_eq_true rfl) (Nat.le_of_ble_eq_true rfl) rfl ?_
                refine c236_1 (B := B924 + 1) g0  (by omega) (hJ972.up (by omega)) (by omega)  (fun m976 hJ977 km976 => ?_)
                show X (EE s) d 232 329 [(0, zr g0 44), (1, zl a1), (3, zl z888), (5, zi (788 + (6 * (m923 4 45 17))))] [] m976 _
                refine X.cut [] i232_329 rfl ?_
                refine X.retv i232_329 rfl t232 ?_
                exact hQ  m976  (hJ977.up (by omega)) (fun g => by simp only [hkm923, km956, km959, km961, km963, km965, km967, km969, km971, km976]) 
        · have h887c : z885 ≠ 0 := by omega
          clear h887 hz886
          refine X.sipush 88 i232_85 rfl rfl (by decide) ?_
          refine X.goto 92 i232_88 rfl rfl ?_
          refine X.i2l 93 i232_92 rfl rfl ?_
          refine X.llF 94 .lor (fun x y => x ||| y) i232_93 rfl rfl rfl (fun _ _ => rfl) (fun z979 hz979 => ?_)
          refine X.lstore_n 95 [(0, zr g0 44), (1, zl a1), (3, zl z979)] i232_94 rfl rfl rfl ?_
          refine X.aload_n 96 i232_95 rfl rfl rfl ?_
          refine X.getF 99 i232_96 rfl rfl (by decide) rfl rfl ?_
          refine X.bipush 101 i232_99 rfl rfl (by decide) ?_
          refine X.lald 102 i232_101 rfl rfl (by decide) rfl (by omega) ?_
          have h980 := r45_17 hJ 4
          refine X.ldc2 105 i232_102 rfl rfl (by decide) ?_
          refine X.lcmp 106 i232_105 rfl rfl (fun z981 hz981 => ?_)
          refine X.iflt 190 109 i232_106 rfl rfl rfl (fun h982 => ?_) (fun h982 => ?_)
          · have h982c : (m 4 45 17) < 64 := by omega
            clear h982 hz981
            refine X.sipush 193 i232_190 rfl rfl (by decide) ?_
            refine X.bipush 195 i232_193 rfl rfl (by decide) ?_
            refine X.aload_n 196 i232_195 rfl rfl rfl ?_
            refine X.callv 199 [] [zi 6, zi 788] [(0, zr g0 44)] i232_196 rfl (by decide) rfl rfl (by omega) rfl rfl (by decide) rfl t235 (Nat.le_of_ble_eq_true rfl) (Nat.le_of_ble_eq_true rfl) rfl ?_
            refine X.aload_n 1 i235_0 rfl rfl rfl ?_
            refine X.getF 4 i235_1 rfl rfl (by decide) rfl rfl ?_
            refine X.bipush 6 i235_4 rfl rfl (by decide) ?_
            refine X.lald 7 i235_6 rfl rfl (by decide) rfl (by omega) ?_
            refine X.ldc2 10 i235_7 rfl rfl (by decide) ?_
            refine X.lcmp 11 i235_10 rfl rfl (fun z983 hz983 => ?_)
            refine X.ifge 24 14 i235_11 rfl rfl rfl (fun h984 => (by exfalso; omega)) (fun h984 => ?_)
            have h984c : (m 4 45 17) < 64 := by omega
            clear h984 hz983
            refine X.aload_n 15 i235_14 rfl rfl rfl ?_
            refine X.getF 18 i235_15 rfl rfl (by decide) rfl rfl ?_
            refine X.bipush 20 i235_18 rfl rfl (by decide) ?_
            refine X.lald 21 i235_20 rfl rfl (by decide) rfl (by omega) ?_
            refine X.goto 27 i235_21 rfl rfl ?_
            refine X.cut [] i235_27 rfl ?_
            refine X.l2i 28 i235_27 rfl rfl (by omega) ?_
            refine X.reti i235_28 rfl t235 ?_
            show X (EE s) d 232 199 [(0, zr g0 44), (1, zl a1), (3, zl z979)] [zi (m 4 45 17), zi 6, zi 788] m _
            refine X.bipush 201 i232_199 rfl rfl (by decide) ?_
            refine X.icmpge 211 204 i232_201 rfl rfl rfl (fun h985 => (by exfalso; omega)) (fun h985 => ?_)
            refine X.aload_n 205 i232_204 rfl rfl rfl ?_
            refine X.callv 208 [] [zi 6, zi 788] [(0, zr g0 44)] i232_205 rfl (by decide) rfl rfl (by omega) rfl rfl (by decide) rfl t235 (Nat.le_of_ble_eq_true rfl) (Nat.le_of_ble_eq_true rfl) rfl ?_
            refine X.aload_n 1 i235_0 rfl rfl rfl ?_
            refine X.getF 4 i235_1 rfl rfl (by decide) rfl rfl ?_
            refine X.bipush 6 i235_4 rfl rfl (by decide) ?_
            refine X.lald 7 i235_6 rfl rfl (by decide) rfl (by omega) ?_
            refine X.ldc2 10 i235_7 rfl rfl (by decide) ?_
            refine X.lcmp 11 i235_10 rfl rfl (fun z986 hz986 => ?_)
            refine X.ifge 24 14 i235_11 rfl rfl rfl (fun h987 => (by exfalso; omega)) (fun h987 => ?_)
            have h987c : (m 4 45 17) < 64 := by omega
            clear h987 hz986
            refine X.aload_n 15 i235_14 rfl rfl rfl ?_
            refine X.getF 18 i235_15 rfl rfl (by decide) rfl rfl ?_
            refine X.bipush 20 i235_18 rfl rfl (by decide) ?_
            refine X.lald 21 i235_20 rfl rfl (by decide) rfl (by omega) ?_
            refine X.goto 27 i235_21 rfl rfl ?_
            refine X.cut [] i235_27 rfl ?_
            refine X.l2i 28 i235_27 rfl rfl (by omega) ?_
            refine X.reti i235_28 rfl t235 ?_
            show X (EE s) d 232 208 [(0, zr g0 44), (1, zl a1), (3, zl z979)] [zi (m 4 45 17), zi 6, zi 788] m _
            refine X.goto 213 i232_208 rfl rfl ?_
            refine X.imul 214 i232_213 rfl rfl (by omega) ?_
            refine X.iadd 215 i232_214 rfl rfl (by omega) ?_
            refine X.istore 217 [(0, zr g0 44), (1, zl a1), (3, zl z979), (5, zi (788 + (6 * (m 4 45 17))))] i232_215 rfl rfl rfl ?_
            refine X.aload_n 218 i232_217 rfl rfl rfl ?_
            refine X.getF 221 i232_218 rfl rfl (by decide) rfl rfl ?_
            refine X.bipush 223 i232_221 rfl rfl (by decide) ?_
            refine X.dup2 224 i232_223 rfl rfl ?_
            refine X.lald 225 i232_224 rfl rfl (by decide) rfl (by omega) ?_
            refine X.lconst (y := 1) 226 i232_225 rfl rfl rfl ?_
            refine X.ladd 227 i232_226 rfl rfl (by omega) ?_
            refine X.last' 228 i232_227 rfl rfl (by decide) rfl (by omega) (fun hrm988 m988 hm988 => ?_)
            have hJ989 := w45_17 (hJ.up (B' := B + 1) (by omega)) hm988 (by omega)
            have km988 : ∀ g, m988 g 8 9 = m g 8 9 := fun g9 => by rw [hm988]; exact z_upd_o _ _ rfl
            refine X.aload_n 229 i232_228 rfl rfl rfl ?_
            refine X.getF 232 i232_229 rfl rfl (by decide) rfl rfl ?_
            refine X.iload 234 i232_232 rfl rfl rfl ?_
            refine X.aload_n 235 i232_234 rfl rfl rfl ?_
            refine X.getF 238 i232_235 rfl rfl (by decide) rfl rfl ?_
            refine X.iconst 239 i232_238 rfl rfl (by decide) ?_
            refine X.lald 240 i232_239 rfl rfl (by decide) rfl (by omega) ?_
            have h990 := r45_0 hJ989 4
            refine X.last' 241 i232_240 rfl rfl (by decide) rfl (by omega) (fun hrm991 m991 hm991 => ?_)
            have hJ992 := w45_788 hJ989 hm991 (by omega) hrm991
            have km991 : ∀ g, m991 g 8 9 = m988 g 8 9 := fun g9 => by rw [hm991]; exact z_upd_o _ _ rfl
            refine X.aload_n 242 i232_241 rfl rfl rfl ?_
            refine X.getF 245 i232_242 rfl rfl (by decide) rfl rfl ?_
            refine X.iload 247 i232_245 rfl rfl rfl ?_
            refine X.iconst 248 i232_247 rfl rfl (by decide) ?_
            refine X.iadd 249 i232_248 rfl rfl (by omega) ?_
            refine X.aload_n 250 i232_249 rfl rfl rfl ?_
            refine X.getF 253 i232_250 rfl rfl (by decide) rfl rfl ?_
            refine X.bipush 255 i232_253 rfl rfl (by decide) ?_
            refine X.lald 256 i232_255 rfl rfl (by decide) rfl (by omega) ?_
            refine X.last' 257 i232_256 rfl rfl (by decide) rfl (by omega) (fun hrm993 m993 hm993 => ?_)
            have hJ994 := w45_788 hJ992 hm993 (by omega) hrm993
            have km993 : ∀ g, m993 g 8 9 = m991 g 8 9 := fun g9 => by rw [hm993]; exact z_upd_o _ _ rfl
            refine X.aload_n 258 i232_257 rfl rfl rfl ?_
            refine X.getF 261 i232_258 rfl rfl (by decide) rfl rfl ?_
            refine X.iload 263 i232_261 rfl rfl rfl ?_
            refine X.iconst 264 i232_263 rfl rfl (by decide) ?_
            refine X.iadd 265 i232_264 rfl rfl (by omega) ?_
            refine X.aload_n 266 i232_265 rfl rfl rfl ?_
            refine X.getF 269 i232_266 rfl rfl (by decide) rfl rfl ?_
            refine X.bipush 271 i232_269 rfl rfl (by decide) ?_
            refine X.lald 272 i232_271 rfl rfl (by decide) rfl (by omega) ?_
            refine X.last' 273 i232_272 rfl rfl (by decide) rfl (by omega) (fun hrm995 m995 hm995 => ?_)
            have hJ996 := w45_788 hJ994 hm995 (by omega) hrm995
            have km995 : ∀ g, m995 g 8 9 = m993 g 8 9 := fun g9 => by rw [hm995]; exact z_upd_o _ _ rfl
            refine X.aload_n 274 i232_273 rfl rfl rfl ?_
            refine X.getF 277 i232_274 rfl rfl (by decide) rfl rfl ?_
            refine X.iload 279 i232_277 rfl rfl rfl ?_
            refine X.iconst 280 i232_279 rfl rfl (by decide) ?_
            refine X.iadd 281 i232_280 rfl rfl (by omega) ?_
            refine X.aload_n 282 i232_281 rfl rfl rfl ?_
            refine X.getF 285 i232_282 rfl rfl (by decide) rfl rfl ?_
            refine X.bipush 287 i232_285 rfl rfl (by decide) ?_
            refine X.lald 288 i232_287 rfl rfl (by decide) rfl (by omega) ?_
            refine X.last' 289 i232_288 rfl rfl (by decide) rfl (by omega) (fun hrm997 m997 hm997 => ?_)
            have hJ998 := w45_788 hJ996 hm997 (by omega) hrm997
            have km997 : ∀ g, m997 g 8 9 = m995 g 8 9 := fun g9 => by rw [hm997]; exact z_upd_o _ _ rfl
            refine X.aload_n 290 i232_289 rfl rfl rfl ?_
            refine X.getF 293 i232_290 rfl rfl (by decide) rfl rfl ?_
            refine X.iload 295 i232_293 rfl rfl rfl ?_
            refine X.iconst 296 i232_295 rfl rfl (by decide) ?_
            refine X.iadd 297 i232_296 rfl rfl (by omega) ?_
            refine X.aload_n 298 i232_297 rfl rfl rfl ?_
            refine X.getF 301 i232_298 rfl rfl (by decide) rfl rfl ?_
            refine X.bipush 303 i232_301 rfl rfl (by decide) ?_
            refine X.lald 304 i232_303 rfl rfl (by decide) rfl (by omega) ?_
            refine X.last' 305 i232_304 rfl rfl (by decide) rfl (by omega) (fun hrm999 m999 hm999 => ?_)
            have hJ1000 := w45_788 hJ998 hm999 (by omega) hrm999
            have km999 : ∀ g, m999 g 8 9 = m997 g 8 9 := fun g9 => by rw [hm999]; exact z_upd_o _ _ rfl
            refine X.aload_n 306 i232_305 rfl rfl rfl ?_
            refine X.getF 309 i232_306 rfl rfl (by decide) rfl rfl ?_
            refine X.iload 311 i232_309 rfl rfl rfl ?_
            refine X.iconst 312 i232_311 rfl rfl (by decide) ?_
            refine X.iadd 313 i232_312 rfl rfl (by omega) ?_
            refine X.lload_n 314 i232_313 rfl rfl rfl ?_
            refine X.last' 315 i232_314 rfl rfl (by decide) rfl (by omega) (fun hrm1001 m1001 hm1001 => ?_)
            have hJ1002 := w45_788 hJ1000 hm1001 (by omega) hrm1001
            have km1001 : ∀ g, m1001 g 8 9 = m999 g 8 9 := fun g9 => by rw [hm1001]; exact z_upd_o _ _ rfl
            refine X.aload_n 316 i232_315 rfl rfl rfl ?_
            refine X.callv 319 [] [] [(0, zr g0 44)] i232_316 rfl (by decide) rfl rfl (by omega) rfl rfl (by decide) rfl t233 (Nat.le_of_ble_eq_true rfl) (Nat.le_of_ble_eq_true rfl) rfl ?_
            refine c233_1 (B := B + 1) g0  (by omega) (hJ1002.up (by omega)) (by omega)  (fun m1003 hJ1004 km1003 => ?_)
            show X (EE s) d 232 319 [(0, zr g0 44), (1, zl a1), (3, zl z979), (5, zi (788 + (6 * (m 4 45 17))))] [] m1003 _
            refine X.lload_n 320 i232_319 rfl rfl rfl ?_
            refine X.lconst (y := 0) 321 i232_320 rfl rfl rfl ?_
            refine X.lcmp 322 i232_321 rfl rfl (fun z1006 hz1006 => ?_)
            refine X.ifne 329 325 i232_322 rfl rfl rfl (fun h1007 => ?_) (fun h1007 => ?_)
            · have h1007c : a1 ≠ 0 := by omega
              clear h1007 hz1006
              refine X.cut [] i232_329 rfl ?_
              refine X.retv i232_329 rfl t232 ?_
              exact hQ  m1003  (hJ1004.up (by omega)) (fun g => by simp only [km988, km991, km993, km995, km997, km999, km1001, km1003]) 
            · have h1007c : a1 = 0 := by omega
              clear h1007 hz1006
              refine X.aload_n 326 i232_325 rfl rfl rfl ?_
              refine X.callv 329 [] [] [(0, zr g0 44)] i232_326 rfl (by decide) rfl rfl (by omega) rfl rfl (by decide) rfl t236 (Nat.le_of_ble_eq_true rfl) (Nat.le_of_ble_eq_true rfl) rfl ?_
              refine c236_1 (B := B + 1) g0  (by omega) (hJ1004.up (by omega)) (by omega)  (fun m1008 hJ1009 km1008 => ?_)
              show X (EE s) d 232 329 [(0, zr g0 44), (1, zl a1), (3, zl z979), (5, zi (788 + (6 * (m 4 45 17))))] [] m1008 _
              refine X.cut [] i232_329 rfl ?_
              refine X.retv i232_329 rfl t232 ?_
              exact hQ  m1008  (hJ1009.up (by omega)) (fun g => by simp only [km988, km991, km993, km995, km997, km999, km1001, km1003, km1008]) 
          · have h982c : (m 4 45 17) ≥ 64 := by omega
            clear h982 hz981
            refine X.iconst 110 i232_109 rfl rfl (by decide) ?_
            refine X.istore 112 [(0, zr g0 44), (1, zl a1), (3, zl z979), (5, zi 0)] i232_110 rfl rfl rfl ?_
            refine l232_112_1 (s := s) (m0 := m0) (d := d) g0 a1 z979 (fun g => m g 8 9) (BE := B + 0) (by omega) (by omega) (by omega) (fun  m1011 B1012 hJ1013 hBB1012 hkm1011 => ?_) ((4 - 0 : Int).toNat + 1) 0 m (B) (hJ.up (by omega)) (by omega) (fun g => rfl) (by omega) (by omega)
            refine X.bipush 149 i232_147 rfl rfl (by decide) ?_
            refine X.istore 151 [(0, zr g0 44), (1, zl a1), (3, zl z979), (5, zi 6)] i232_149 rfl rfl rfl ?_
            refine l232_151_1 (s := s) (m0 := m0) (d := d) g0 a1 z979 (fun g => m g 8 9) (BE := B1012 + 0) (by omega) (by omega) (by omega) (fun  m1014 B1015 hJ1016 hBB1015 hkm1014 => ?_) ((384 - 6 : Int).toNat + 1) 6 m1011 (B1012) (hJ1013.up (by omega)) (by omega) (fun g => by simp only [hkm1011]) (by omega) (by omega)
            refine X.sipush 193 i232_190 rfl rfl (by decide) ?_
            refine X.bipush 195 i232_193 rfl rfl (by decide) ?_
            refine X.aload_n 196 i232_195 rfl rfl rfl ?_
            refine X.callv 199 [] [zi 6, zi 788] [(0, zr g0 44)] i232_196 rfl (by decide) rfl rfl (by omega) rfl rfl (by decide) rfl t235 (Nat.le_of_ble_eq_true rfl) (Nat.le_of_ble_eq_true rfl) rfl ?_
            refine X.aload_n 1 i235_0 rfl rfl rfl ?_
            refine X.getF 4 i235_1 rfl rfl (by decide) rfl rfl ?_
            refine X.bipush 6 i235_4 rfl rfl (by decide) ?_
            refine X.lald 7 i235_6 rfl rfl (by decide) rfl (by omega) ?_
            have h1017 := r45_17 hJ1016 4
            refine X.ldc2 10 i235_7 rfl rfl (by decide) ?_
            refine X.lcmp 11 i235_10 rfl rfl (fun z1018 hz1018 => ?_)
            refine X.ifge 24 14 i235_11 rfl rfl rfl (fun h1019 => ?_) (fun h1019 => ?_)
            · have h1019c : (m1014 4 45 17) ≥ 64 := by omega
              clear h1019 hz1018
              refine X.cut [] i235_24 rfl ?_
              refine X.ldc2 27 i235_24 rfl rfl (by decide) ?_
              refine X.l2i 28 i235_27 rfl rfl (by omega) ?_
              refine X.reti i235_28 rfl t235 ?_
              show X (EE s) d 232 199 [(0, zr g0 44), (1, zl a1), (3, zl z979)] [zi 64, zi 6, zi 788] m1014 _
              refine X.bipush 201 i232_199 rfl rfl (by decide) ?_
              refine X.icmpge 211 204 i232_201 rfl rfl rfl (fun h1020 => ?_) (fun h1020 => (by exfalso; omega))
              refine X.bipush 213 i232_211 rfl rfl (by decide) ?_
              refine X.imul 214 i232_213 rfl rfl (by omega) ?_
              refine X.iadd 215 i232_214 rfl rfl (by omega) ?_
              refine X.istore 217 [(0, zr g0 44), (1, zl a1), (3, zl z979), (5, zi (788 + (6 * 63)))] i232_215 rfl rfl rfl ?_
              refine X.aload_n 218 i232_217 rfl rfl rfl ?_
              refine X.getF 221 i232_218 rfl rfl (by decide) rfl rfl ?_
              refine X.bipush 223 i232_221 rfl rfl (by decide) ?_
              refine X.dup2 224 i232_223 rfl rfl ?_
              refine X.lald 225 i232_224 rfl rfl (by decide) rfl (by omega) ?_
              refine X.lconst (y := 1) 226 i232_225 rfl rfl rfl ?_
              refine X.ladd 227 i232_226 rfl rfl (by omega) ?_
              refine X.last' 228 i232_227 rfl rfl (by decide) rfl (by omega) (fun hrm1021 m1021 hm1021 => ?_)
              have hJ1022 := w45_17 (hJ1016.up (B' := B1015 + 1) (by omega)) hm1021 (by omega)
              have km1021 : ∀ g, m1021 g 8 9 = m1014 g 8 9 := fun g9 => by rw [hm1021]; exact z_upd_o _ _ rfl
              refine X.aload_n 229 i232_228 rfl rfl rfl ?_
              refine X.getF 232 i232_229 rfl rfl (by decide) rfl rfl ?_
              refine X.iload 234 i232_232 rfl rfl rfl ?_
              refine X.aload_n 235 i232_234 rfl rfl rfl ?_
              refine X.getF 238 i232_235 rfl rfl (by decide) rfl rfl ?_
              refine X.iconst 239 i232_238 rfl rfl (by decide) ?_
              refine X.lald 240 i232_239 rfl rfl (by decide) rfl (by omega) ?_
              have h1023 := r45_0 hJ1022 4
              refine X.last' 241 i232_240 rfl rfl (by decide) rfl (by omega) (fun hrm1024 m1024 hm1024 => ?_)
              have hJ1025 := w45_788 hJ1022 hm1024 (by omega) hrm1024
              have km1024 : ∀ g, m1024 g 8 9 = m1021 g 8 9 := fun g9 => by rw [hm1024]; exact z_upd_o _ _ rfl
              refine X.aload_n 242 i232_241 rfl rfl rfl ?_
              refine X.getF 245 i232_242 rfl rfl (by decide) rfl rfl ?_
              refine X.iload 247 i232_245 rfl rfl rfl ?_
              refine X.iconst 248 i232_247 rfl rfl (by decide) ?_
              refine X.iadd 249 i232_248 rfl rfl (by omega) ?_
              refine X.aload_n 250 i232_249 rfl rfl rfl ?_
              refine X.getF 253 i232_250 rfl rfl (by decide) rfl rfl ?_
              refine X.bipush 255 i232_253 rfl rfl (by decide) ?_
              refine X.lald 256 i232_255 rfl rfl (by decide) rfl (by omega) ?_
              refine X.last' 257 i232_256 rfl rfl (by decide) rfl (by omega) (fun hrm1026 m1026 hm1026 => ?_)
              have hJ1027 := w45_788 hJ1025 hm1026 (by omega) hrm1026
              have km1026 : ∀ g, m1026 g 8 9 = m1024 g 8 9 := fun g9 => by rw [hm1026]; exact z_upd_o _ _ rfl
              refine X.aload_n 258 i232_257 rfl rfl rfl ?_
              refine X.getF 261 i232_258 rfl rfl (by decide) rfl rfl ?_
              refine X.iload 263 i232_261 rfl rfl rfl ?_
              refine X.iconst 264 i232_263 rfl rfl (by decide) ?_
              refine X.iadd 265 i232_264 rfl rfl (by omega) ?_
              refine X.aload_n 266 i232_265 rfl rfl rfl ?_
              refine X.getF 269 i232_266 rfl rfl (by decide) rfl rfl ?_
              refine X.bipush 271 i232_269 rfl rfl (by decide) ?_
              refine X.lald 272 i232_271 rfl rfl (by decide) rfl (by omega) ?_
              refine X.last' 273 i232_272 rfl rfl (by decide) rfl (by omega) (fun hrm1028 m1028 hm1028 => ?_)
              have hJ1029 := w45_788 hJ1027 hm1028 (by omega) hrm1028
              have km1028 : ∀ g, m1028 g 8 9 = m1026 g 8 9 := fun g9 => by rw [hm1028]; exact z_upd_o _ _ rfl
              refine X.aload_n 274 i232_273 rfl rfl rfl ?_
              refine X.getF 277 i232_274 rfl rfl (by decide) rfl rfl ?_
              refine X.iload 279 i232_277 rfl rfl rfl ?_
              refine X.iconst 280 i232_279 rfl rfl (by decide) ?_
              refine X.iadd 281 i232_280 rfl rfl (by omega) ?_
              refine X.aload_n 282 i232_281 rfl rfl rfl ?_
              refine X.getF 285 i232_282 rfl rfl (by decide) rfl rfl ?_
              refine X.bipush 287 i232_285 rfl rfl (by decide) ?_
              refine X.lald 288 i232_287 rfl rfl (by decide) rfl (by omega) ?_
              refine X.last' 289 i232_288 rfl rfl (by decide) rfl (by omega) (fun hrm1030 m1030 hm1030 => ?_)
              have hJ1031 := w45_788 hJ1029 hm1030 (by omega) hrm1030
              have km1030 : ∀ g, m1030 g 8 9 = m1028 g 8 9 := fun g9 => by rw [hm1030]; exact z_upd_o _ _ rfl
              refine X.aload_n 290 i232_289 rfl rfl rfl ?_
              refine X.getF 293 i232_290 rfl rfl (by decide) rfl rfl ?_
              refine X.iload 295 i232_293 rfl rfl rfl ?_
              refine X.iconst 296 i232_295 rfl rfl (by decide) ?_
              refine X.iadd 297 i232_296 rfl rfl (by omega) ?_
              refine X.aload_n 298 i232_297 rfl rfl rfl ?_
              refine X.getF 301 i232_298 rfl rfl (by decide) rfl rfl ?_
              refine X.bipush 303 i232_301 rfl rfl (by decide) ?_
              refine X.lald 304 i232_303 rfl rfl (by decide) rfl (by omega) ?_
              refine X.last' 305 i232_304 rfl rfl (by decide) rfl (by omega) (fun hrm1032 m1032 hm1032 => ?_)
              have hJ1033 := w45_788 hJ1031 hm1032 (by omega) hrm1032
              have km1032 : ∀ g, m1032 g 8 9 = m1030 g 8 9 := fun g9 => by rw [hm1032]; exact z_upd_o _ _ rfl
              refine X.aload_n 306 i232_305 rfl rfl rfl ?_
              refine X.getF 309 i232_306 rfl rfl (by decide) rfl rfl ?_
              refine X.iload 311 i232_309 rfl rfl rfl ?_
              refine X.iconst 312 i232_311 rfl rfl (by decide) ?_
              refine X.iadd 313 i232_312 rfl rfl (by omega) ?_
              refine X.lload_n 314 i232_313 rfl rfl rfl ?_
              refine X.last' 315 i232_314 rfl rfl (by decide) rfl (by omega) (fun hrm1034 m1034 hm1034 => ?_)
              have hJ1035 := w45_788 hJ1033 hm1034 (by omega) hrm1034
              have km1034 : ∀ g, m1034 g 8 9 = m1032 g 8 9 := fun g9 => by rw [hm1034]; exact z_upd_o _ _ rfl
              refine X.aload_n 316 i232_315 rfl rfl rfl ?_
              refine X.callv 319 [] [] [(0, zr g0 44)] i232_316 rfl (by decide) rfl rfl (by omega) rfl rfl (by decide) rfl t233 (Nat.le_of_ble_eq_true rfl) (Nat.le_of_ble_eq_true rfl) rfl ?_
              refine c233_1 (B := B1015 + 1) g0  (by omega) (hJ1035.up (by omega)) (by omega)  (fun m1036 hJ1037 km1036 => ?_)
              show X (EE s) d 232 319 [(0, zr g0 44), (1, zl a1), (3, zl z979), (5, zi (788 + (6 * 63)))] [] m1036 _
              refine X.lload_n 320 i232_319 rfl rfl rfl ?_
              refine X.lconst (y := 0) 321 i232_320 rfl rfl rfl ?_
              refine X.lcmp 322 i232_321 rfl rfl (fun z1039 hz1039 => ?_)
              refine X.ifne 329 325 i232_322 rfl rfl rfl (fun h1040 => ?_) (fun h1040 => ?_)
              · have h1040c : a1 ≠ 0 := by omega
                clear h1040 hz1039
                refine X.cut [] i232_329 rfl ?_
                refine X.retv i232_329 rfl t232 ?_
                exact hQ  m1036  (hJ1037.up (by omega)) (fun g => by simp only [hkm1014, km1021, km1024, km1026, km1028, km1030, km1032, km1034, km1036]) 
              · have h1040c : a1 = 0 := by omega
                clear h1040 hz1039
                refine X.aload_n 326 i232_325 rfl rfl rfl ?_
                refine X.callv 329 [] [] [(0, zr g0 44)] i232_326 rfl (by decide) rfl rfl (by omega) rfl rfl (by decide) rfl t236 (Nat.le_of_ble_eq_true rfl) (Nat.le_of_ble_eq_true rfl) rfl ?_
                refine c236_1 (B := B1015 + 1) g0  (by omega) (hJ1037.up (by omega)) (by omega)  (fun m1041 hJ1042 km1041 => ?_)
                show X (EE s) d 232 329 [(0, zr g0 44), (1, zl a1), (3, zl z979), (5, zi (788 + (6 * 63)))] [] m1041 _
                refine X.cut [] i232_329 rfl ?_
                refine X.retv i232_329 rfl t232 ?_
                exact hQ  m1041  (hJ1042.up (by omega)) (fun g => by simp only [hkm1014, km1021, km1024, km1026, km1028, km1030, km1032, km1034, km1036, km1041]) 
            · have h1019c : (m1014 4 45 17) < 64 := by omega
              clear h1019 hz1018
              refine X.aload_n 15 i235_14 rfl rfl rfl ?_
              refine X.getF 18 i235_15 rfl rfl (by decide) rfl rfl ?_
              refine X.bipush 20 i235_18 rfl rfl (by decide) ?_
              refine X.lald 21 i235_20 rfl rfl (by decide) rfl (by omega) ?_
              refine X.goto 27 i235_21 rfl rfl ?_
              refine X.cut [] i235_27 rfl ?_
              refine X.l2i 28 i235_27 rfl rfl (by omega) ?_
              refine X.reti i235_28 rfl t235 ?_
              show X (EE s) d 232 199 [(0, zr g0 44), (1, zl a1), (3, zl z979)] [zi (m1014 4 45 17), zi 6, zi 788] m1014 _
              refine X.bipush 201 i232_199 rfl rfl (by decide) ?_
              refine X.icmpge 211 204 i232_201 rfl rfl rfl (fun h1044 => (by exfalso; omega)) (fun h1044 => ?_)
              refine X.aload_n 205 i232_204 rfl rfl rfl ?_
              refine X.callv 208 [] [zi 6, zi 788] [(0, zr g0 44)] i232_205 rfl (by decide) rfl rfl (by omega) rfl rfl (by decide) rfl t235 (Nat.le_of_ble_eq_true rfl) (Nat.le_of_ble_eq_true rfl) rfl ?_
              refine X.aload_n 1 i235_0 rfl rfl rfl ?_
              refine X.getF 4 i235_1 rfl rfl (by decide) rfl rfl ?_
              refine X.bipush 6 i235_4 rfl rfl (by decide) ?_
              refine X.lald 7 i235_6 rfl rfl (by decide) rfl (by omega) ?_
              refine X.ldc2 10 i235_7 rfl rfl (by decide) ?_
              refine X.lcmp 11 i235_10 rfl rfl (fun z1045 hz1045 => ?_)
              refine X.ifge 24 14 i235_11 rfl rfl rfl (fun h1046 => (by exfalso; omega)) (fun h1046 => ?_)
              have h1046c : (m1014 4 45 17) < 64 := by omega
              clear h1046 hz1045
              refine X.aload_n 15 i235_14 rfl rfl rfl ?_
              refine X.getF 18 i235_15 rfl rfl (by decide) rfl rfl ?_
              refine X.bipush 20 i235_18 rfl rfl (by decide) ?_
              refine X.lald 21 i235_20 rfl rfl (by decide) rfl (by omega) ?_
              refine X.goto 27 i235_21 rfl rfl ?_
              refine X.cut [] i235_27 rfl ?_
              refine X.l2i 28 i235_27 rfl rfl (by omega) ?_
              refine X.reti i235_28 rfl t235 ?_
              show X (EE s) d 232 208 [(0, zr g0 44), (1, zl a1), (3, zl z979)] [zi (m1014 4 45 17), zi 6, zi 788] m1014 _
              refine X.goto 213 i232_208 rfl rfl ?_
              refine X.imul 214 i232_213 rfl rfl (by omega) ?_
              refine X.iadd 215 i232_214 rfl rfl (by omega) ?_
              refine X.istore 217 [(0, zr g0 44), (1, zl a1), (3, zl z979), (5, zi (788 + (6 * (m1014 4 45 17))))] i232_215 rfl rfl rfl ?_
              refine X.aload_n 218 i232_217 rfl rfl rfl ?_
              refine X.getF 221 i232_218 rfl rfl (by decide) rfl rfl ?_
              refine X.bipush 223 i232_221 rfl rfl (by decide) ?_
              refine X.dup2 224 i232_223 rfl rfl ?_
              refine X.lald 225 i232_224 rfl rfl (by decide) rfl (by omega) ?_
              refine X.lconst (y := 1) 226 i232_225 rfl rfl rfl ?_
              refine X.ladd 227 i232_226 rfl rfl (by omega) ?_
              refine X.last' 228 i232_227 rfl rfl (by decide) rfl (by omega) (fun hrm1047 m1047 hm1047 => ?_)
              have hJ1048 := w45_17 (hJ1016.up (B' := B1015 + 1) (by omega)) hm1047 (by omega)
              have km1047 : ∀ g, m1047 g 8 9 = m1014 g 8 9 := fun g9 => by rw [hm1047]; exact z_upd_o _ _ rfl
              refine X.aload_n 229 i232_228 rfl rfl rfl ?_
              refine X.getF 232 i232_229 rfl rfl (by decide) rfl rfl ?_
              refine X.iload 234 i232_232 rfl rfl rfl ?_
              refine X.aload_n 235 i232_234 rfl rfl rfl ?_
              refine X.getF 238 i232_235 rfl rfl (by decide) rfl rfl ?_
              refine X.iconst 239 i232_238 rfl rfl (by decide) ?_
              refine X.lald 240 i232_239 rfl rfl (by decide) rfl (by omega) ?_
              have h1049 := r45_0 hJ1048 4
              refine X.last' 241 i232_240 rfl rfl (by decide) rfl (by omega) (fun hrm1050 m1050 hm1050 => ?_)
              have hJ1051 := w45_788 hJ1048 hm1050 (by omega) hrm1050
              have km1050 : ∀ g, m1050 g 8 9 = m1047 g 8 9 := fun g9 => by rw [hm1050]; exact z_upd_o _ _ rfl
              refine X.aload_n 242 i232_241 rfl rfl rfl ?_
              refine X.getF 245 i232_242 rfl rfl (by decide) rfl rfl ?_
              refine X.iload 247 i232_245 rfl rfl rfl ?_
              refine X.iconst 248 i232_247 rfl rfl (by decide) ?_
              refine X.iadd 249 i232_248 rfl rfl (by omega) ?_
              refine X.aload_n 250 i232_249 rfl rfl rfl ?_
              refine X.getF 253 i232_250 rfl rfl (by decide) rfl rfl ?_
              refine X.bipush 255 i232_253 rfl rfl (by decide) ?_
              refine X.lald 256 i232_255 rfl rfl (by decide) rfl (by omega) ?_
              refine X.last' 257 i232_256 rfl rfl (by decide) rfl (by omega) (fun hrm1052 m1052 hm1052 => ?_)
              have hJ1053 := w45_788 hJ1051 hm1052 (by omega) hrm1052
              have km1052 : ∀ g, m1052 g 8 9 = m1050 g 8 9 := fun g9 => by rw [hm1052]; exact z_upd_o _ _ rfl
              refine X.aload_n 258 i232_257 rfl rfl rfl ?_
              refine X.getF 261 i232_258 rfl rfl (by decide) rfl rfl ?_
              refine X.iload 263 i232_261 rfl rfl rfl ?_
              refine X.iconst 264 i232_263 rfl rfl (by decide) ?_
              refine X.iadd 265 i232_264 rfl rfl (by omega) ?_
              refine X.aload_n 266 i232_265 rfl rfl rfl ?_
              refine X.getF 269 i232_266 rfl rfl (by decide) rfl rfl ?_
              refine X.bipush 271 i232_269 rfl rfl (by decide) ?_
              refine X.lald 272 i232_271 rfl rfl (by decide) rfl (by omega) ?_
              refine X.last' 273 i232_272 rfl rfl (by decide) rfl (by omega) (fun hrm1054 m1054 hm1054 => ?_)
              have hJ1055 := w45_788 hJ1053 hm1054 (by omega) hrm1054
              have km1054 : ∀ g, m1054 g 8 9 = m1052 g 8 9 := fun g9 => by rw [hm1054]; exact z_upd_o _ _ rfl
              refine X.aload_n 274 i232_273 rfl rfl rfl ?_
              refine X.getF 277 i232_274 rfl rfl (by decide) rfl rfl ?_
              refine X.iload 279 i232_277 rfl rfl rfl ?_
              refine X.iconst 280 i232_279 rfl rfl (by decide) ?_
              refine X.iadd 281 i232_280 rfl rfl (by omega) ?_
              refine X.aload_n 282 i232_281 rfl rfl rfl ?_
              refine X.getF 285 i232_282 rfl rfl (by decide) rfl rfl ?_
              refine X.bipush 287 i232_285 rfl rfl (by decide) ?_
              refine X.lald 288 i232_287 rfl rfl (by decide) rfl (by omega) ?_
              refine X.last' 289 i232_288 rfl rfl (by decide) rfl (by omega) (fun hrm1056 m1056 hm1056 => ?_)
              have hJ1057 := w45_788 hJ1055 hm1056 (by omega) hrm1056
              have km1056 : ∀ g, m1056 g 8 9 = m1054 g 8 9 := fun g9 => by rw [hm1056]; exact z_upd_o _ _ rfl
              refine X.aload_n 290 i232_289 rfl rfl rfl ?_
              refine X.getF 293 i232_290 rfl rfl (by decide) rfl rfl ?_
              refine X.iload 295 i232_293 rfl rfl rfl ?_
              refine X.iconst 296 i232_295 rfl rfl (by decide) ?_
              refine X.iadd 297 i232_296 rfl rfl (by omega) ?_
              refine X.aload_n 298 i232_297 rfl rfl rfl ?_
              refine X.getF 301 i232_298 rfl rfl (by decide) rfl rfl ?_
              refine X.bipush 303 i232_301 rfl rfl (by decide) ?_
              refine X.lald 304 i232_303 rfl rfl (by decide) rfl (by omega) ?_
              refine X.last' 305 i232_304 rfl rfl (by decide) rfl (by omega) (fun hrm1058 m1058 hm1058 => ?_)
              have hJ1059 := w45_788 hJ1057 hm1058 (by omega) hrm1058
              have km1058 : ∀ g, m1058 g 8 9 = m1056 g 8 9 := fun g9 => by rw [hm1058]; exact z_upd_o _ _ rfl
              refine X.aload_n 306 i232_305 rfl rfl rfl ?_
              refine X.getF 309 i232_306 rfl rfl (by decide) rfl rfl ?_
              refine X.iload 311 i232_309 rfl rfl rfl ?_
              refine X.iconst 312 i232_311 rfl rfl (by decide) ?_
              refine X.iadd 313 i232_312 rfl rfl (by omega) ?_
              refine X.lload_n 314 i232_313 rfl rfl rfl ?_
              refine X.last' 315 i232_314 rfl rfl (by decide) rfl (by omega) (fun hrm1060 m1060 hm1060 => ?_)
              have hJ1061 := w45_788 hJ1059 hm1060 (by omega) hrm1060
              have km1060 : ∀ g, m1060 g 8 9 = m1058 g 8 9 := fun g9 => by rw [hm1060]; exact z_upd_o _ _ rfl
              refine X.aload_n 316 i232_315 rfl rfl rfl ?_
              refine X.callv 319 [] [] [(0, zr g0 44)] i232_316 rfl (by decide) rfl rfl (by omega) rfl rfl (by decide) rfl t233 (Nat.le_of_ble_eq_true rfl) (Nat.le_of_ble_eq_true rfl) rfl ?_
              refine c233_1 (B := B1015 + 1) g0  (by omega) (hJ1061.up (by omega)) (by omega)  (fun m1062 hJ1063 km1062 => ?_)
              show X (EE s) d 232 319 [(0, zr g0 44), (1, zl a1), (3, zl z979), (5, zi (788 + (6 * (m1014 4 45 17))))] [] m1062 _
              refine X.lload_n 320 i232_319 rfl rfl rfl ?_
              refine X.lconst (y := 0) 321 i232_320 rfl rfl rfl ?_
              refine X.lcmp 322 i232_321 rfl rfl (fun z1065 hz1065 => ?_)
              refine X.ifne 329 325 i232_322 rfl rfl rfl (fun h1066 => ?_) (fun h1066 => ?_)
              · have h1066c : a1 ≠ 0 := by omega
                clear h1066 hz1065
                refine X.cut [] i232_329 rfl ?_
                refine X.retv i232_329 rfl t232 ?_
                exact hQ  m1062  (hJ1063.up (by omega)) (fun g => by simp only [hkm1014, km1047, km1050, km1052, km1054, km1056, km1058, km1060, km1062]) 
              · have h1066c : a1 = 0 := by omega
                clear h1066 hz1065
                refine X.aload_n 326 i232_325 rfl rfl rfl ?_
                refine X.callv 329 [] [] [(0, zr g0 44)] i232_326 rfl (by decide) rfl rfl (by omega) rfl rfl (by decide) rfl t236 (Nat.le_of_ble_eq_true rfl) (Nat.le_of_ble_eq_true rfl) rfl ?_
                refine c236_1 (B := B1015 + 1) g0  (by omega) (hJ1063.up (by omega)) (by omega)  (fun m1067 hJ1068 km1067 => ?_)
                show X (EE s) d 232 329 [(0, zr g0 44), (1, zl a1), (3, zl z979), (5, zi (788 + (6 * (m1014 4 45 17))))] [] m1067 _
                refine X.cut [] i232_329 rfl ?_
                refine X.retv i232_329 rfl t232 ?_
                exact hQ  m1067  (hJ1068.up (by omega)) (fun g => by simp only [hkm1014, km1047, km1050, km1052, km1054, km1056, km1058, km1060, km1062, km1067]) 
  · have h503c : z501 = 0 := by omega
    clear h503 hz502
    refine X.aload_n 21 i232_20 rfl rfl rfl ?_
    refine X.callv 24 [] [] [(0, zr g0 44)] i232_21 rfl (by decide) rfl rfl (by omega) rfl rfl (by decide) rfl t233 (Nat.le_of_ble_eq_true rfl) (Nat.le_of_ble_eq_true rfl) rfl ?_
    refine c233_1 (B := B) g0  (by omega) (hJ.up (by omega)) (by omega)  (fun m1070 hJ1071 km1070 => ?_)
    show X (EE s) d 232 24 [(0, zr g0 44), (1, zl a1)] [] m1070 _
    refine X.retv i232_24 rfl t232 ?_
    exact hQ  m1070  (hJ1071.up (by omega)) (fun g => by simp only [km1070]) 
-- WorkMeterModel.goes
theorem c230_1 {s : Nat × (Nat → Int32)} {m0 m : zM} {B : Int} {d : Nat} {Q : Option zV → zM → Prop} (g0 : Nat) (hd : 18 ≤ d) (hJ : J m0 B m) (hB : B + 1 ≤ 1000000000) (hQ : ∀ m', J m0 (B + 1) m' → (∀ g, m' g 8 9 = m g 8 9) → Q none m') : X (EE s) d 230 0 [(0, zr g0 44)] [] m Q := by
  refine X.aload_n 1 i230_0 rfl rfl rfl ?_
  refine X.getF 4 i230_1 rfl rfl (by decide) rfl rfl ?_
  refine X.bipush 6 i230_4 rfl rfl (by decide) ?_
  refine X.dup2 7 i230_6 rfl rfl ?_
  refine X.lald 8 i230_7 rfl rfl (by decide) rfl (by omega) ?_
  refine X.aload_n 9 i230_8 rfl rfl rfl ?_
  refine X.callv 12 [] [zl (m 4 45 27), zi 27, zr 4 45] [(0, zr g0 44)] i230_9 rfl (by decide) rfl rfl (by omega) rfl rfl (by decide) rfl t231 (Nat.le_of_ble_eq_true rfl) (Nat.le_of_ble_eq_true rfl) rfl ?_
  refine c231_1 (B := B) g0  (by omega) (hJ.up (by omega)) (by omega)  (fun v503 hv503 => ?_)
  show X (EE s) d 230 12 [(0, zr g0 44)] [zl v503, zl (m 4 45 27), zi 27, zr 4 45] m _
  refine X.llF 13 .lor (fun x y => x ||| y) i230_12 rfl rfl rfl (fun _ _ => rfl) (fun z504 hz504 => ?_)
  refine X.last' 14 i230_13 rfl rfl (by decide) rfl (by omega) (fun hrm505 m505 hm505 => ?_)
  have hJ506 := w45_19 hJ hm505 (by omega) hrm505
  have km505 : ∀ g, m505 g 8 9 = m g 8 9 := fun g9 => by rw [hm505]; exact z_upd_o _ _ rfl
  refine X.aload_n 15 i230_14 rfl rfl rfl ?_
  refine X.getF 18 i230_15 rfl rfl (by decide) rfl rfl ?_
  refine X.iconst 19 i230_18 rfl rfl (by decide) ?_
  refine X.lald 20 i230_19 rfl rfl (by decide) rfl (by omega) ?_
  have h507 := r45_0 hJ506 4
  refine X.ldc2 23 i230_20 rfl rfl (by decide) ?_
  refine X.lcmp 24 i230_23 rfl rfl (fun z508 hz508 => ?_)
  refine X.ifne 28 27 i230_24 rfl rfl rfl (fun h509 => ?_) (fun h509 => ?_)
  · have h509c : (m505 4 45 0) ≠ 2000000000 := by omega
    clear h509 hz508
    refine X.aload_n 29 i230_28 rfl rfl rfl ?_
    refine X.getF 32 i230_29 rfl rfl (by decide) rfl rfl ?_
    refine X.iconst 33 i230_32 rfl rfl (by decide) ?_
    refine X.dup2 34 i230_33 rfl rfl ?_
    refine X.lald 35 i230_34 rfl rfl (by decide) rfl (by omega) ?_
    refine X.lconst (y := 1) 36 i230_35 rfl rfl rfl ?_
    refine X.ladd 37 i230_36 rfl rfl (by omega) ?_
    refine X.last' 38 i230_37 rfl rfl (by decide) rfl (by omega) (fun hrm510 m510 hm510 => ?_)
    have hJ511 := w45_0 hJ506 hm510 (by omega)
    have km510 : ∀ g, m510 g 8 9 = m505 g 8 9 := fun g9 => by rw [hm510]; exact z_upd_o _ _ rfl
    refine X.aload_n 39 i230_38 rfl rfl rfl ?_
    refine X.getF 42 i230_39 rfl rfl (by decide) rfl rfl ?_
    refine X.iconst 43 i230_42 rfl rfl (by decide) ?_
    refine X.lald 44 i230_43 rfl rfl (by decide) rfl (by omega) ?_
    have h512 := r45_0 hJ511 4
    refine X.aload_n 45 i230_44 rfl rfl rfl ?_
    refine X.getF 48 i230_45 rfl rfl (by decide) rfl rfl ?_
    refine X.bipush 50 i230_48 rfl rfl (by decide) ?_
    refine X.lald 51 i230_50 rfl rfl (by decide) rfl (by omega) ?_
    have h513 := r45_8 hJ511 4
    refine X.lremp 52 i230_51 rfl rfl (by omega) ?_
    have hz514 := z_modb (x := (m510 4 45 0)) (y := (m510 4 45 8)) (by omega) (by omega)
    obtain ⟨z514, ez514⟩ : ∃ z, z = ((m510 4 45 0) % (m510 4 45 8)) := ⟨_, rfl⟩
    rw [← ez514] at hz514 ⊢
    clear ez514
    refine X.lconst (y := 0) 53 i230_52 rfl rfl rfl ?_
    refine X.lcmp 54 i230_53 rfl rfl (fun z515 hz515 => ?_)
    refine X.ifne 62 57 i230_54 rfl rfl rfl (fun h516 => ?_) (fun h516 => ?_)
    · have h516c : z514 ≠ 0 := by omega
      clear h516 hz515
      refine X.cut [] i230_62 rfl ?_
      refine X.retv i230_62 rfl t230 ?_
      exact hQ  m510  (hJ511.up (by omega)) (fun g => by simp only [km505, km510]) 
    · have h516c : z514 = 0 := by omega
      clear h516 hz515
      refine X.aload_n 58 i230_57 rfl rfl rfl ?_
      refine X.lconst (y := 0) 59 i230_58 rfl rfl rfl ?_
      refine X.callv 62 [zl 0] [] [(0, zr g0 44), (1, zl 0)] i230_59 rfl (by decide) rfl rfl (by omega) rfl rfl (by decide) rfl t232 (Nat.le_of_ble_eq_true rfl) (Nat.le_of_ble_eq_true rfl) rfl ?_
      refine c232_1 (B := B) g0 0 (by omega) (hJ511.up (by omega)) (by omega) (by omega) (fun m517 hJ518 km517 => ?_)
      show X (EE s) d 230 62 [(0, zr g0 44)] [] m517 _
      refine X.cut [] i230_62 rfl ?_
      refine X.retv i230_62 rfl t230 ?_
      exact hQ  m517  (hJ518.up (by omega)) (fun g => by simp only [km505, km510, km517]) 
  · have h509c : (m505 4 45 0) = 2000000000 := by omega
    clear h509 hz508
    refine X.retv i230_27 rfl t230 ?_
    exact hQ  m505  (hJ506.up (by omega)) (fun g => by simp only [km505]) 
-- WorkMeterModel.registers
theorem c216_2 {s : Nat × (Nat → Int32)} {m0 m : zM} {B : Int} {d : Nat} {Q : Option zV → zM → Prop} (g0 : Nat) (a1 a2 a3 : Int) (hd : 16 ≤ d) (hJ : J m0 B m) (hB : B + 0 ≤ 1000000000) (ha1 : 0 ≤ a1) (ha2 : 1 ≤ a2) (ha3 : 0 ≤ a3 ∧ a3 ≤ 3000000000) (hQ : ∀ m', J m0 (B) m' → (∀ g, m' g 8 9 = m g 8 9) → Q none m') : X (EE s) d 216 0 [(0, zr g0 44), (1, zl a1), (3, zl a2), (5, zl a3)] [] m Q := by
  refine X.aload_n 1 i216_0 rfl rfl rfl ?_
  refine X.aload_n 2 i216_1 rfl rfl rfl ?_
  refine X.getF 5 i216_2 rfl rfl (by decide) rfl rfl ?_
  refine X.iconst 6 i216_5 rfl rfl (by decide) ?_
  refine X.lald 7 i216_6 rfl rfl (by decide) rfl (by omega) ?_
  have h501 := r45_0 hJ 4
  refine X.l2i 8 i216_7 rfl rfl (by omega) ?_
  refine X.callv 11 [zi (m 4 45 0)] [] [(0, zr g0 44), (1, zi (m 4 45 0))] i216_8 rfl (by decide) rfl rfl (by omega) rfl rfl (by decide) rfl t217 (Nat.le_of_ble_eq_true rfl) (Nat.le_of_ble_eq_true rfl) rfl ?_
  refine c217_1 (B := B) g0 (m 4 45 0) (by omega) (hJ.up (by omega)) (by omega) (by omega) (fun v504 hv504 => ?_)
  show X (EE s) d 216 11 [(0, zr g0 44), (1, zl a1), (3, zl a2), (5, zl a3)] [zi v504] m _
  refine X.istore 13 [(0, zr g0 44), (1, zl a1), (3, zl a2), (5, zl a3), (7, zi v504)] i216_11 rfl rfl rfl ?_
  refine X.aload_n 14 i216_13 rfl rfl rfl ?_
  refine X.getF 17 i216_14 rfl rfl (by decide) rfl rfl ?_
  refine X.bipush 19 i216_17 rfl rfl (by decide) ?_
  refine X.iload 21 i216_19 rfl rfl rfl ?_
  refine X.iadd 22 i216_21 rfl rfl (by omega) ?_
  refine X.lald 23 i216_22 rfl rfl (by decide) rfl (by omega) ?_
  refine X.aload_n 24 i216_23 rfl rfl rfl ?_
  refine X.getF 27 i216_24 rfl rfl (by decide) rfl rfl ?_
  refine X.iconst 28 i216_27 rfl rfl (by decide) ?_
  refine X.lald 29 i216_28 rfl rfl (by decide) rfl (by omega) ?_
  have h505 := r45_5 hJ 4
  refine X.ldivF 30 i216_29 rfl rfl (by omega) (fun z506 => ?_)
  refine X.lstore 32 [(0, zr g0 44), (1, zl a1), (3, zl a2), (5, zl a3), (7, zi v504), (8, zl z506)] i216_30 rfl rfl rfl ?_
  refine X.lload_n 33 i216_32 rfl rfl rfl ?_
  refine X.lconst (y := 0) 34 i216_33 rfl rfl rfl ?_
  refine X.lcmp 35 i216_34 rfl rfl (fun z507 hz507 => ?_)
  refine X.ifle 46 38 i216_35 rfl rfl rfl (fun h508 => ?_) (fun h508 => ?_)
  · have h508c : a1 ≤ 0 := by omega
    clear h508 hz507
    refine X.lload_n 47 i216_46 rfl rfl rfl ?_
    refine X.lconst (y := 0) 48 i216_47 rfl rfl rfl ?_
    refine X.lcmp 49 i216_48 rfl rfl (fun z509 hz509 => ?_)
    refine X.ifge 61 52 i216_49 rfl rfl rfl (fun h510 => ?_) (fun h510 => (by exfalso; omega))
    have h510c : a1 ≥ 0 := by omega
    clear h510 hz509
    refine X.aload_n 62 i216_61 rfl rfl rfl ?_
    refine X.iconst 63 i216_62 rfl rfl (by decide) ?_
    refine X.lload_n 64 i216_63 rfl rfl rfl ?_
    refine X.lload_n 65 i216_64 rfl rfl rfl ?_
    refine X.calls 68 [zl a1, zl a2] [zi 1, zr g0 44] [(0, zl a1), (2, zl a2)] i216_65 (by decide) rfl rfl (by omega) rfl rfl t221 (Nat.le_of_ble_eq_true rfl) (Nat.le_of_ble_eq_true rfl) rfl ?_
    refine X.lload_n 1 i221_0 rfl rfl rfl ?_
    refine X.lconst (y := 0) 2 i221_1 rfl rfl rfl ?_
    refine X.lcmp 3 i221_2 rfl rfl (fun z511 hz511 => ?_)
    refine X.iflt 20 6 i221_3 rfl rfl rfl (fun h512 => (by exfalso; omega)) (fun h512 => ?_)
    have h512c : a1 ≥ 0 := by omega
    clear h512 hz511
    refine X.lload_n 7 i221_6 rfl rfl rfl ?_
    refine X.lconst (y := 0) 8 i221_7 rfl rfl rfl ?_
    refine X.lcmp 9 i221_8 rfl rfl (fun z513 hz513 => ?_)
    refine X.iflt 16 12 i221_9 rfl rfl rfl (fun h514 => (by exfalso; omega)) (fun h514 => ?_)
    have h514c : a2 ≥ 0 := by omega
    clear h514 hz513
    refine X.iconst 13 i221_12 rfl rfl (by decide) ?_
    refine X.goto 31 i221_13 rfl rfl ?_
    refine X.cut [] i221_31 rfl ?_
    refine X.reti i221_31 rfl t221 ?_
    show X (EE s) d 216 68 [(0, zr g0 44), (1, zl a1), (3, zl a2), (5, zl a3), (7, zi v504), (8, zl z506)] [zi 1, zi 1, zr g0 44] m _
    refine X.iadd 69 i216_68 rfl rfl (by omega) ?_
    refine X.iload 71 i216_69 rfl rfl rfl ?_
    refine X.lload_n 72 i216_71 rfl rfl rfl ?_
    refine X.calls 75 [zl a2] [zi v504, zi (1 + 1), zr g0 44] [(0, zl a2)] i216_72 (by decide) rfl rfl (by omega) rfl rfl t215 (Nat.le_of_ble_eq_true rfl) (Nat.le_of_ble_eq_true rfl) rfl ?_
    refine X.lload_n 1 i215_0 rfl rfl rfl ?_
    refine X.lconst (y := 0) 2 i215_1 rfl rfl rfl ?_
    refine X.lcmp 3 i215_2 rfl rfl (fun z515 hz515 => ?_)
    refine X.ifge 11 6 i215_3 rfl rfl rfl (fun h516 => ?_) (fun h516 => (by exfalso; omega))
    have h516c : a2 ≥ 0 := by omega
    clear h516 hz515
    refine X.lload_n 12 i215_11 rfl rfl rfl ?_
    refine X.cut [] i215_12 rfl ?_
    refine X.retl i215_12 rfl t215 ?_
    show X (EE s) d 216 75 [(0, zr g0 44), (1, zl a1), (3, zl a2), (5, zl a3), (7, zi v504), (8, zl z506)] [zl a2, zi v504, zi (1 + 1), zr g0 44] m _
    refine X.callv 78 [zi (1 + 1), zi v504, zl a2] [] [(0, zr g0 44), (1, zi (1 + 1)), (2, zi v504), (3, zl a2)] i216_75 rfl (by decide) rfl rfl (by omega) rfl rfl (by decide) rfl t220 (Nat.le_of_ble_eq_true rfl) (Nat.le_of_ble_eq_true rfl) rfl ?_
    refine X.aload_n 1 i220_0 rfl rfl rfl ?_
    refine X.getF 4 i220_1 rfl rfl (by decide) rfl rfl ?_
    refine X.bipush 6 i220_4 rfl rfl (by decide) ?_
    refine X.iconst 7 i220_6 rfl rfl (by decide) ?_
    refine X.iload_n 8 i220_7 rfl rfl rfl ?_
    refine X.imul 9 i220_8 rfl rfl (by omega) ?_
    refine X.iadd 10 i220_9 rfl rfl (by omega) ?_
    refine X.iload_n 11 i220_10 rfl rfl rfl ?_
    refine X.iadd 12 i220_11 rfl rfl (by omega) ?_
    refine X.dup2 13 i220_12 rfl rfl ?_
    refine X.lald 14 i220_13 rfl rfl (by decide) rfl (by omega) ?_
    refine X.lload_n 15 i220_14 rfl rfl rfl ?_
    refine X.llF 16 .ladd (fun x y => x + y) i220_15 rfl rfl rfl (fun _ _ => rfl) (fun z517 hz517 => ?_)
    refine X.last' 17 i220_16 rfl rfl (by decide) rfl (by omega) (fun hrm518 m518 hm518 => ?_)
    have hJ519 := w45_19 hJ hm518 (by omega) hrm518
    have km518 : ∀ g, m518 g 8 9 = m g 8 9 := fun g9 => by rw [hm518]; exact z_upd_o _ _ rfl
    refine X.aload_n 18 i220_17 rfl rfl rfl ?_
    refine X.getF 21 i220_18 rfl rfl (by decide) rfl rfl ?_
    refine X.bipush 23 i220_21 rfl rfl (by decide) ?_
    refine X.iconst 24 i220_23 rfl rfl (by decide) ?_
    refine X.iload_n 25 i220_24 rfl rfl rfl ?_
    refine X.imul 26 i220_25 rfl rfl (by omega) ?_
    refine X.iadd 27 i220_26 rfl rfl (by omega) ?_
    refine X.iconst 28 i220_27 rfl rfl (by decide) ?_
    refine X.iadd 29 i220_28 rfl rfl (by omega) ?_
    refine X.dup2 30 i220_29 rfl rfl ?_
    refine X.lald 31 i220_30 rfl rfl (by decide) rfl (by omega) ?_
    refine X.lload_n 32 i220_31 rfl rfl rfl ?_
    refine X.llF 33 .ladd (fun x y => x + y) i220_32 rfl rfl rfl (fun _ _ => rfl) (fun z520 hz520 => ?_)
    refine X.last' 34 i220_33 rfl rfl (by decide) rfl (by omega) (fun hrm521 m521 hm521 => ?_)
    have hJ522 := w45_19 hJ519 hm521 (by omega) hrm521
    have km521 : ∀ g, m521 g 8 9 = m518 g 8 9 := fun g9 => by rw [hm521]; exact z_upd_o _ _ rfl
    refine X.retv i220_34 rfl t220 ?_
    show X (EE s) d 216 78 [(0, zr g0 44), (1, zl a1), (3, zl a2), (5, zl a3), (7, zi v504), (8, zl z506)] [] m521 _
    refine X.aload_n 79 i216_78 rfl rfl rfl ?_
    refine X.bipush 81 i216_79 rfl rfl (by decide) ?_
    refine X.iload 83 i216_81 rfl rfl rfl ?_
    refine X.lload 85 i216_83 rfl rfl rfl ?_
    refine X.callv 88 [zi 6, zi v504, zl a3] [] [(0, zr g0 44), (1, zi 6), (2, zi v504), (3, zl a3)] i216_85 rfl (by decide) rfl rfl (by omega) rfl rfl (by decide) rfl t220 (Nat.le_of_ble_eq_true rfl) (Nat.le_of_ble_eq_true rfl) rfl ?_
    refine X.aload_n 1 i220_0 rfl rfl rfl ?_
    refine X.getF 4 i220_1 rfl rfl (by decide) rfl rfl ?_
    refine X.bipush 6 i220_4 rfl rfl (by decide) ?_
    refine X.iconst 7 i220_6 rfl rfl (by decide) ?_
    refine X.iload_n 8 i220_7 rfl rfl rfl ?_
    refine X.imul 9 i220_8 rfl rfl (by omega) ?_
    refine X.iadd 10 i220_9 rfl rfl (by omega) ?_
    refine X.iload_n 11 i220_10 rfl rfl rfl ?_
    refine X.iadd 12 i220_11 rfl rfl (by omega) ?_
    refine X.dup2 13 i220_12 rfl rfl ?_
    refine X.lald 14 i220_13 rfl rfl (by decide) rfl (by omega) ?_
    refine X.lload_n 15 i220_14 rfl rfl rfl ?_
    refine X.llF 16 .ladd (fun x y => x + y) i220_15 rfl rfl rfl (fun _ _ => rfl) (fun z523 hz523 => ?_)
    refine X.last' 17 i220_16 rfl rfl (by decide) rfl (by omega) (fun hrm524 m524 hm524 => ?_)
    have hJ525 := w45_19 hJ522 hm524 (by omega) hrm524
    have km524 : ∀ g, m524 g 8 9 = m521 g 8 9 := fun g9 => by rw [hm524]; exact z_upd_o _ _ rfl
    refine X.aload_n 18 i220_17 rfl rfl rfl ?_
    refine X.getF 21 i220_18 rfl rfl (by decide) rfl rfl ?_
    refine X.bipush 23 i220_21 rfl rfl (by decide) ?_
    refine X.iconst 24 i220_23 rfl rfl (by decide) ?_
    refine X.iload_n 25 i220_24 rfl rfl rfl ?_
    refine X.imul 26 i220_25 rfl rfl (by omega) ?_
    refine X.iadd 27 i220_26 rfl rfl (by omega) ?_
    refine X.iconst 28 i220_27 rfl rfl (by decide) ?_
    refine X.iadd 29 i220_28 rfl rfl (by omega) ?_
    refine X.dup2 30 i220_29 rfl rfl ?_
    refine X.lald 31 i220_30 rfl rfl (by decide) rfl (by omega) ?_
    refine X.lload_n 32 i220_31 rfl rfl rfl ?_
    refine X.llF 33 .ladd (fun x y => x + y) i220_32 rfl rfl rfl (fun _ _ => rfl) (fun z526 hz526 => ?_)
    refine X.last' 34 i220_33 rfl rfl (by decide) rfl (by omega) (fun hrm527 m527 hm527 => ?_)
    have hJ528 := w45_19 hJ525 hm527 (by omega) hrm527
    have km527 : ∀ g, m527 g 8 9 = m524 g 8 9 := fun g9 => by rw [hm527]; exact z_upd_o _ _ rfl
    refine X.retv i220_34 rfl t220 ?_
    show X (EE s) d 216 88 [(0, zr g0 44), (1, zl a1), (3, zl a2), (5, zl a3), (7, zi v504), (8, zl z506)] [] m527 _
    refine X.aload_n 89 i216_88 rfl rfl rfl ?_
    refine X.getF 92 i216_89 rfl rfl (by decide) rfl rfl ?_
    refine X.bipush 94 i216_92 rfl rfl (by decide) ?_
    refine X.dup2 95 i216_94 rfl rfl ?_
    refine X.lald 96 i216_95 rfl rfl (by decide) rfl (by omega) ?_
    refine X.aload_n 97 i216_96 rfl rfl rfl ?_
    refine X.getF 100 i216_97 rfl rfl (by decide) rfl rfl ?_
    refine X.bipush 102 i216_100 rfl rfl (by decide) ?_
    refine X.iload 104 i216_102 rfl rfl rfl ?_
    refine X.iadd 105 i216_104 rfl rfl (by omega) ?_
    refine X.lald 106 i216_105 rfl rfl (by decide) rfl (by omega) ?_
    refine X.aload_n 107 i216_106 rfl rfl rfl ?_
    refine X.getF 110 i216_107 rfl rfl (by decide) rfl rfl ?_
    refine X.iconst 111 i216_110 rfl rfl (by decide) ?_
    refine X.lald 112 i216_111 rfl rfl (by decide) rfl (by omega) ?_
    have h529 := r45_5 hJ528 4
    refine X.ldivF 113 i216_112 rfl rfl (by omega) (fun z530 => ?_)
    refine X.lload 115 i216_113 rfl rfl rfl ?_
    refine X.llF 116 .lsub (fun x y => x - y) i216_115 rfl rfl rfl (fun _ _ => rfl) (fun z531 hz531 => ?_)
    refine X.aload_n 117 i216_116 rfl rfl rfl ?_
    refine X.getF 120 i216_117 rfl rfl (by decide) rfl rfl ?_
    refine X.bipush 122 i216_120 rfl rfl (by decide) ?_
    refine X.iload 124 i216_122 rfl rfl rfl ?_
    refine X.iadd 125 i216_124 rfl rfl (by omega) ?_
    refine X.lald 126 i216_125 rfl rfl (by decide) rfl (by omega) ?_
    refine X.llF 127 .lmul (fun x y => x * y) i216_126 rfl rfl rfl (fun _ _ => rfl) (fun z532 hz532 => ?_)
    refine X.llF 128 .lsub (fun x y => x - y) i216_127 rfl rfl rfl (fun _ _ => rfl) (fun z533 hz533 => ?_)
    refine X.last' 129 i216_128 rfl rfl (by decide) rfl (by omega) (fun hrm534 m534 hm534 => ?_)
    have hJ535 := w45_10 hJ528 hm534 hrm534
    have km534 : ∀ g, m534 g 8 9 = m527 g 8 9 := fun g9 => by rw [hm534]; exact z_upd_o _ _ rfl
    refine X.aload_n 130 i216_129 rfl rfl rfl ?_
    refine X.getF 133 i216_130 rfl rfl (by decide) rfl rfl ?_
    refine X.bipush 135 i216_133 rfl rfl (by decide) ?_
    refine X.dup2 136 i216_135 rfl rfl ?_
    refine X.lald 137 i216_136 rfl rfl (by decide) rfl (by omega) ?_
    refine X.lload_n 138 i216_137 rfl rfl rfl ?_
    refine X.lconst (y := 0) 139 i216_138 rfl rfl rfl ?_
    refine X.lcmp 140 i216_139 rfl rfl (fun z536 hz536 => ?_)
    refine X.ifle 147 143 i216_140 rfl rfl rfl (fun h537 => ?_) (fun h537 => (by exfalso; omega))
    have h537c : a1 ≤ 0 := by omega
    clear h537 hz536
    refine X.cut [(0, zr g0 44), (1, zl a1), (5, zl a3)] i216_147 rfl ?_
    refine X.lconst (y := 0) 148 i216_147 rfl rfl rfl ?_
    refine X.llF 149 .ladd (fun x y => x + y) i216_148 rfl rfl rfl (fun _ _ => rfl) (fun z538 hz538 => ?_)
    refine X.last' 150 i216_149 rfl rfl (by decide) rfl (by omega) (fun hrm539 m539 hm539 => ?_)
    have hJ540 := w45_19 hJ535 hm539 (by omega) hrm539
    have km539 : ∀ g, m539 g 8 9 = m534 g 8 9 := fun g9 => by rw [hm539]; exact z_upd_o _ _ rfl
    refine X.aload_n 151 i216_150 rfl rfl rfl ?_
    refine X.getF 154 i216_151 rfl rfl (by decide) rfl rfl ?_
    refine X.bipush 156 i216_154 rfl rfl (by decide) ?_
    refine X.dup2 157 i216_156 rfl rfl ?_
    refine X.lald 158 i216_157 rfl rfl (by decide) rfl (by omega) ?_
    refine X.lload_n 159 i216_158 rfl rfl rfl ?_
    refine X.lconst (y := 0) 160 i216_159 rfl rfl rfl ?_
    refine X.lcmp 161 i216_160 rfl rfl (fun z541 hz541 => ?_)
    refine X.ifge 169 164 i216_161 rfl rfl rfl (fun h542 => ?_) (fun h542 => (by exfalso; omega))
    have h542c : a1 ≥ 0 := by omega
    clear h542 hz541
    refine X.cut [(0, zr g0 44), (5, zl a3)] i216_169 rfl ?_
    refine X.lconst (y := 0) 170 i216_169 rfl rfl rfl ?_
    refine X.llF 171 .ladd (fun x y => x + y) i216_170 rfl rfl rfl (fun _ _ => rfl) (fun z543 hz543 => ?_)
    refine X.last' 172 i216_171 rfl rfl (by decide) rfl (by omega) (fun hrm544 m544 hm544 => ?_)
    have hJ545 := w45_19 hJ540 hm544 (by omega) hrm544
    have km544 : ∀ g, m544 g 8 9 = m539 g 8 9 := fun g9 => by rw [hm544]; exact z_upd_o _ _ rfl
    refine X.aload_n 173 i216_172 rfl rfl rfl ?_
    refine X.getF 176 i216_173 rfl rfl (by decide) rfl rfl ?_
    refine X.bipush 178 i216_176 rfl rfl (by decide) ?_
    refine X.dup2 179 i216_178 rfl rfl ?_
    refine X.lald 180 i216_179 rfl rfl (by decide) rfl (by omega) ?_
    refine X.lload 182 i216_180 rfl rfl rfl ?_
    refine X.llF 183 .ladd (fun x y => x + y) i216_182 rfl rfl rfl (fun _ _ => rfl) (fun z546 hz546 => ?_)
    refine X.last' 184 i216_183 rfl rfl (by decide) rfl (by omega) (fun hrm547 m547 hm547 => ?_)
    have hJ548 := w45_19 hJ545 hm547 (by omega) hrm547
    have km547 : ∀ g, m547 g 8 9 = m544 g 8 9 := fun g9 => by rw [hm547]; exact z_upd_o _ _ rfl
    refine X.retv i216_184 rfl t216 ?_
    exact hQ  m547  (hJ548.up (by omega)) (fun g => by simp only [km518, km521, km524, km527, km534, km539, km544, km547]) 
  · have h508c : a1 > 0 := by omega
    clear h508 hz507
    refine X.aload_n 39 i216_38 rfl rfl rfl ?_
    refine X.iconst 40 i216_39 rfl rfl (by decide) ?_
    refine X.iload 42 i216_40 rfl rfl rfl ?_
    refine X.lload_n 43 i216_42 rfl rfl rfl ?_
    refine X.callv 46 [zi 0, zi v504, zl a1] [] [(0, zr g0 44), (1, zi 0), (2, zi v504), (3, zl a1)] i216_43 rfl (by decide) rfl rfl (by omega) rfl rfl (by decide) rfl t220 (Nat.le_of_ble_eq_true rfl) (Nat.le_of_ble_eq_true rfl) rfl ?_
    refine X.aload_n 1 i220_0 rfl rfl rfl ?_
    refine X.getF 4 i220_1 rfl rfl (by decide) rfl rfl ?_
    refine X.bipush 6 i220_4 rfl rfl (by decide) ?_
    refine X.iconst 7 i220_6 rfl rfl (by decide) ?_
    refine X.iload_n 8 i220_7 rfl rfl rfl ?_
    refine X.imul 9 i220_8 rfl rfl (by omega) ?_
    refine X.iadd 10 i220_9 rfl rfl (by omega) ?_
    refine X.iload_n 11 i220_10 rfl rfl rfl ?_
    refine X.iadd 12 i220_11 rfl rfl (by omega) ?_
    refine X.dup2 13 i220_12 rfl rfl ?_
    refine X.lald 14 i220_13 rfl rfl (by decide) rfl (by omega) ?_
    refine X.lload_n 15 i220_14 rfl rfl rfl ?_
    refine X.llF 16 .ladd (fun x y => x + y) i220_15 rfl rfl rfl (fun _ _ => rfl) (fun z549 hz549 => ?_)
    refine X.last' 17 i220_16 rfl rfl (by decide) rfl (by omega) (fun hrm550 m550 hm550 => ?_)
    have hJ551 := w45_19 hJ hm550 (by omega) hrm550
    have km550 : ∀ g, m550 g 8 9 = m g 8 9 := fun g9 => by rw [hm550]; exact z_upd_o _ _ rfl
    refine X.aload_n 18 i220_17 rfl rfl rfl ?_
    refine X.getF 21 i220_18 rfl rfl (by decide) rfl rfl ?_
    refine X.bipush 23 i220_21 rfl rfl (by decide) ?_
    refine X.iconst 24 i220_23 rfl rfl (by decide) ?_
    refine X.iload_n 25 i220_24 rfl rfl rfl ?_
    refine X.imul 26 i220_25 rfl rfl (by omega) ?_
    refine X.iadd 27 i220_26 rfl rfl (by omega) ?_
    refine X.iconst 28 i220_27 rfl rfl (by decide) ?_
    refine X.iadd 29 i220_28 rfl rfl (by omega) ?_
    refine X.dup2 30 i220_29 rfl rfl ?_
    refine X.lald 31 i220_30 rfl rfl (by decide) rfl (by omega) ?_
    refine X.lload_n 32 i220_31 rfl rfl rfl ?_
    refine X.llF 33 .ladd (fun x y => x + y) i220_32 rfl rfl rfl (fun _ _ => rfl) (fun z552 hz552 => ?_)
    refine X.last' 34 i220_33 rfl rfl (by decide) rfl (by omega) (fun hrm553 m553 hm553 => ?_)
    have hJ554 := w45_19 hJ551 hm553 (by omega) hrm553
    have km553 : ∀ g, m553 g 8 9 = m550 g 8 9 := fun g9 => by rw [hm553]; exact z_upd_o _ _ rfl
    refine X.retv i220_34 rfl t220 ?_
    show X (EE s) d 216 46 [(0, zr g0 44), (1, zl a1), (3, zl a2), (5, zl a3), (7, zi v504), (8, zl z506)] [] m553 _
    refine X.lload_n 47 i216_46 rfl rfl rfl ?_
    refine X.lconst (y := 0) 48 i216_47 rfl rfl rfl ?_
    refine X.lcmp 49 i216_48 rfl rfl (fun z555 hz555 => ?_)
    refine X.ifge 61 52 i216_49 rfl rfl rfl (fun h556 => ?_) (fun h556 => (by exfalso; omega))
    have h556c : a1 ≥ 0 := by omega
    clear h556 hz555
    refine X.aload_n 62 i216_61 rfl rfl rfl ?_
    refine X.iconst 63 i216_62 rfl rfl (by decide) ?_
    refine X.lload_n 64 i216_63 rfl rfl rfl ?_
    refine X.lload_n 65 i216_64 rfl rfl rfl ?_
    refine X.calls 68 [zl a1, zl a2] [zi 1, zr g0 44] [(0, zl a1), (2, zl a2)] i216_65 (by decide) rfl rfl (by omega) rfl rfl t221 (Nat.le_of_ble_eq_true rfl) (Nat.le_of_ble_eq_true rfl) rfl ?_
    refine X.lload_n 1 i221_0 rfl rfl rfl ?_
    refine X.lconst (y := 0) 2 i221_1 rfl rfl rfl ?_
    refine X.lcmp 3 i221_2 rfl rfl (fun z557 hz557 => ?_)
    refine X.iflt 20 6 i221_3 rfl rfl rfl (fun h558 => (by exfalso; omega)) (fun h558 => ?_)
    have h558c : a1 ≥ 0 := by omega
    clear h558 hz557
    refine X.lload_n 7 i221_6 rfl rfl rfl ?_
    refine X.lconst (y := 0) 8 i221_7 rfl rfl rfl ?_
    refine X.lcmp 9 i221_8 rfl rfl (fun z559 hz559 => ?_)
    refine X.iflt 16 12 i221_9 rfl rfl rfl (fun h560 => (by exfalso; omega)) (fun h560 => ?_)
    have h560c : a2 ≥ 0 := by omega
    clear h560 hz559
    refine X.iconst 13 i221_12 rfl rfl (by decide) ?_
    refine X.goto 31 i221_13 rfl rfl ?_
    refine X.cut [] i221_31 rfl ?_
    refine X.reti i221_31 rfl t221 ?_
    show X (EE s) d 216 68 [(0, zr g0 44), (1, zl a1), (3, zl a2), (5, zl a3), (7, zi v504), (8, zl z506)] [zi 1, zi 1, zr g0 44] m553 _
    refine X.iadd 69 i216_68 rfl rfl (by omega) ?_
    refine X.iload 71 i216_69 rfl rfl rfl ?_
    refine X.lload_n 72 i216_71 rfl rfl rfl ?_
    refine X.calls 75 [zl a2] [zi v504, zi (1 + 1), zr g0 44] [(0, zl a2)] i216_72 (by decide) rfl rfl (by omega) rfl rfl t215 (Nat.le_of_ble_eq_true rfl) (Nat.le_of_ble_eq_true rfl) rfl ?_
    refine X.lload_n 1 i215_0 rfl rfl rfl ?_
    refine X.lconst (y := 0) 2 i215_1 rfl rfl rfl ?_
    refine X.lcmp 3 i215_2 rfl rfl (fun z561 hz561 => ?_)
    refine X.ifge 11 6 i215_3 rfl rfl rfl (fun h562 => ?_) (fun h562 => (by exfalso; omega))
    have h562c : a2 ≥ 0 := by omega
    clear h562 hz561
    refine X.lload_n 12 i215_11 rfl rfl rfl ?_
    refine X.cut [] i215_12 rfl ?_
    refine X.retl i215_12 rfl t215 ?_
    show X (EE s) d 216 75 [(0, zr g0 44), (1, zl a1), (3, zl a2), (5, zl a3), (7, zi v504), (8, zl z506)] [zl a2, zi v504, zi (1 + 1), zr g0 44] m553 _
    refine X.callv 78 [zi (1 + 1), zi v504, zl a2] [] [(0, zr g0 44), (1, zi (1 + 1)), (2, zi v504), (3, zl a2)] i216_75 rfl (by decide) rfl rfl (by omega) rfl rfl (by decide) rfl t220 (Nat.le_of_ble_eq_true rfl) (Nat.le_of_ble_eq_true rfl) rfl ?_
    refine X.aload_n 1 i220_0 rfl rfl rfl ?_
    refine X.getF 4 i220_1 rfl rfl (by decide) rfl rfl ?_
    refine X.bipush 6 i220_4 rfl rfl (by decide) ?_
    refine X.iconst 7 i220_6 rfl rfl (by decide) ?_
    refine X.iload_n 8 i220_7 rfl rfl rfl ?_
    refine X.imul 9 i220_8 rfl rfl (by omega) ?_
    refine X.iadd 10 i220_9 rfl rfl (by omega) ?_
    refine X.iload_n 11 i220_10 rfl rfl rfl ?_
    refine X.iadd 12 i220_11 rfl rfl (by omega) ?_
    refine X.dup2 13 i220_12 rfl rfl ?_
    refine X.lald 14 i220_13 rfl rfl (by decide) rfl (by omega) ?_
    refine X.lload_n 15 i220_14 rfl rfl rfl ?_
    refine X.llF 16 .ladd (fun x y => x + y) i220_15 rfl rfl rfl (fun _ _ => rfl) (fun z563 hz563 => ?_)
    refine X.last' 17 i220_16 rfl rfl (by decide) rfl (by omega) (fun hrm564 m564 hm564 => ?_)
    have hJ565 := w45_19 hJ554 hm564 (by omega) hrm564
    have km564 : ∀ g, m564 g 8 9 = m553 g 8 9 := fun g9 => by rw [hm564]; exact z_upd_o _ _ rfl
    refine X.aload_n 18 i220_17 rfl rfl rfl ?_
    refine X.getF 21 i220_18 rfl rfl (by decide) rfl rfl ?_
    refine X.bipush 23 i220_21 rfl rfl (by decide) ?_
    refine X.iconst 24 i220_23 rfl rfl (by decide) ?_
    refine X.iload_n 25 i220_24 rfl rfl rfl ?_
    refine X.imul 26 i220_25 rfl rfl (by omega) ?_
    refine X.iadd 27 i220_26 rfl rfl (by omega) ?_
    refine X.iconst 28 i220_27 rfl rfl (by decide) ?_
    refine X.iadd 29 i220_28 rfl rfl (by omega) ?_
    refine X.dup2 30 i220_29 rfl rfl ?_
    refine X.lald 31 i220_30 rfl rfl (by decide) rfl (by omega) ?_
    refine X.lload_n 32 i220_31 rfl rfl rfl ?_
    refine X.llF 33 .ladd (fun x y => x + y) i220_32 rfl rfl rfl (fun _ _ => rfl) (fun z566 hz566 => ?_)
    refine X.last' 34 i220_33 rfl rfl (by decide) rfl (by omega) (fun hrm567 m567 hm567 => ?_)
    have hJ568 := w45_19 hJ565 hm567 (by omega) hrm567
    have km567 : ∀ g, m567 g 8 9 = m564 g 8 9 := fun g9 => by rw [hm567]; exact z_upd_o _ _ rfl
    refine X.retv i220_34 rfl t220 ?_
    show X (EE s) d 216 78 [(0, zr g0 44), (1, zl a1), (3, zl a2), (5, zl a3), (7, zi v504), (8, zl z506)] [] m567 _
    refine X.aload_n 79 i216_78 rfl rfl rfl ?_
    refine X.bipush 81 i216_79 rfl rfl (by decide) ?_
    refine X.iload 83 i216_81 rfl rfl rfl ?_
    refine X.lload 85 i216_83 rfl rfl rfl ?_
    refine X.callv 88 [zi 6, zi v504, zl a3] [] [(0, zr g0 44), (1, zi 6), (2, zi v504), (3, zl a3)] i216_85 rfl (by decide) rfl rfl (by omega) rfl rfl (by decide) rfl t220 (Nat.le_of_ble_eq_true rfl) (Nat.le_of_ble_eq_true rfl) rfl ?_
    refine X.aload_n 1 i220_0 rfl rfl rfl ?_
    refine X.getF 4 i220_1 rfl rfl (by decide) rfl rfl ?_
    refine X.bipush 6 i220_4 rfl rfl (by decide) ?_
    refine X.iconst 7 i220_6 rfl rfl (by decide) ?_
    refine X.iload_n 8 i220_7 rfl rfl rfl ?_
    refine X.imul 9 i220_8 rfl rfl (by omega) ?_
    refine X.iadd 10 i220_9 rfl rfl (by omega) ?_
    refine X.iload_n 11 i220_10 rfl rfl rfl ?_
    refine X.iadd 12 i220_11 rfl rfl (by omega) ?_
    refine X.dup2 13 i220_12 rfl rfl ?_
    refine X.lald 14 i220_13 rfl rfl (by decide) rfl (by omega) ?_
    refine X.lload_n 15 i220_14 rfl rfl rfl ?_
    refine X.llF 16 .ladd (fun x y => x + y) i220_15 rfl rfl rfl (fun _ _ => rfl) (fun z569 hz569 => ?_)
    refine X.last' 17 i220_16 rfl rfl (by decide) rfl (by omega) (fun hrm570 m570 hm570 => ?_)
    have hJ571 := w45_19 hJ568 hm570 (by omega) hrm570
    have km570 : ∀ g, m570 g 8 9 = m567 g 8 9 := fun g9 => by rw [hm570]; exact z_upd_o _ _ rfl
    refine X.aload_n 18 i220_17 rfl rfl rfl ?_
    refine X.getF 21 i220_18 rfl rfl (by decide) rfl rfl ?_
    refine X.bipush 23 i220_21 rfl rfl (by decide) ?_
    refine X.iconst 24 i220_23 rfl rfl (by decide) ?_
    refine X.iload_n 25 i220_24 rfl rfl rfl ?_
    refine X.imul 26 i220_25 rfl rfl (by omega) ?_
    refine X.iadd 27 i220_26 rfl rfl (by omega) ?_
    refine X.iconst 28 i220_27 rfl rfl (by decide) ?_
    refine X.iadd 29 i220_28 rfl rfl (by omega) ?_
    refine X.dup2 30 i220_29 rfl rfl ?_
    refine X.lald 31 i220_30 rfl rfl (by decide) rfl (by omega) ?_
    refine X.lload_n 32 i220_31 rfl rfl rfl ?_
    refine X.llF 33 .ladd (fun x y => x + y) i220_32 rfl rfl rfl (fun _ _ => rfl) (fun z572 hz572 => ?_)
    refine X.last' 34 i220_33 rfl rfl (by decide) rfl (by omega) (fun hrm573 m573 hm573 => ?_)
    have hJ574 := w45_19 hJ571 hm573 (by omega) hrm573
    have km573 : ∀ g, m573 g 8 9 = m570 g 8 9 := fun g9 => by rw [hm573]; exact z_upd_o _ _ rfl
    refine X.retv i220_34 rfl t220 ?_
    show X (EE s) d 216 88 [(0, zr g0 44), (1, zl a1), (3, zl a2), (5, zl a3), (7, zi v504), (8, zl z506)] [] m573 _
    refine X.aload_n 89 i216_88 rfl rfl rfl ?_
    refine X.getF 92 i216_89 rfl rfl (by decide) rfl rfl ?_
    refine X.bipush 94 i216_92 rfl rfl (by decide) ?_
    refine X.dup2 95 i216_94 rfl rfl ?_
    refine X.lald 96 i216_95 rfl rfl (by decide) rfl (by omega) ?_
    refine X.aload_n 97 i216_96 rfl rfl rfl ?_
    refine X.getF 100 i216_97 rfl rfl (by decide) rfl rfl ?_
    refine X.bipush 102 i216_100 rfl rfl (by decide) ?_
    refine X.iload 104 i216_102 rfl rfl rfl ?_
    refine X.iadd 105 i216_104 rfl rfl (by omega) ?_
    refine X.lald 106 i216_105 rfl rfl (by decide) rfl (by omega) ?_
    refine X.aload_n 107 i216_106 rfl rfl rfl ?_
    refine X.getF 110 i216_107 rfl rfl (by decide) rfl rfl ?_
    refine X.iconst 111 i216_110 rfl rfl (by decide) ?_
    refine X.lald 112 i216_111 rfl rfl (by decide) rfl (by omega) ?_
    have h575 := r45_5 hJ574 4
    refine X.ldivF 113 i216_112 rfl rfl (by omega) (fun z576 => ?_)
    refine X.lload 115 i216_113 rfl rfl rfl ?_
    refine X.llF 116 .lsub (fun x y => x - y) i216_115 rfl rfl rfl (fun _ _ => rfl) (fun z577 hz577 => ?_)
    refine X.aload_n 117 i216_116 rfl rfl rfl ?_
    refine X.getF 120 i216_117 rfl rfl (by decide) rfl rfl ?_
    refine X.bipush 122 i216_120 rfl rfl (by decide) ?_
    refine X.iload 124 i216_122 rfl rfl rfl ?_
    refine X.iadd 125 i216_124 rfl rfl (by omega) ?_
    refine X.lald 126 i216_125 rfl rfl (by decide) rfl (by omega) ?_
    refine X.llF 127 .lmul (fun x y => x * y) i216_126 rfl rfl rfl (fun _ _ => rfl) (fun z578 hz578 => ?_)
    refine X.llF 128 .lsub (fun x y => x - y) i216_127 rfl rfl rfl (fun _ _ => rfl) (fun z579 hz579 => ?_)
    refine X.last' 129 i216_128 rfl rfl (by decide) rfl (by omega) (fun hrm580 m580 hm580 => ?_)
    have hJ581 := w45_10 hJ574 hm580 hrm580
    have km580 : ∀ g, m580 g 8 9 = m573 g 8 9 := fun g9 => by rw [hm580]; exact z_upd_o _ _ rfl
    refine X.aload_n 130 i216_129 rfl rfl rfl ?_
    refine X.getF 133 i216_130 rfl rfl (by decide) rfl rfl ?_
    refine X.bipush 135 i216_133 rfl rfl (by decide) ?_
    refine X.dup2 136 i216_135 rfl rfl ?_
    refine X.lald 137 i216_136 rfl rfl (by decide) rfl (by omega) ?_
    refine X.lload_n 138 i216_137 rfl rfl rfl ?_
    refine X.lconst (y := 0) 139 i216_138 rfl rfl rfl ?_
    refine X.lcmp 140 i216_139 rfl rfl (fun z582 hz582 => ?_)
    refine X.ifle 147 143 i216_140 rfl rfl rfl (fun h583 => (by exfalso; omega)) (fun h583 => ?_)
    have h583c : a1 > 0 := by omega
    clear h583 hz582
    refine X.lload_n 144 i216_143 rfl rfl rfl ?_
    refine X.goto 148 i216_144 rfl rfl ?_
    refine X.cut [(0, zr g0 44), (1, zl a1), (5, zl a3)] i216_148 rfl ?_
    refine X.llF 149 .ladd (fun x y => x + y) i216_148 rfl rfl rfl (fun _ _ => rfl) (fun z584 hz584 => ?_)
    refine X.last' 150 i216_149 rfl rfl (by decide) rfl (by omega) (fun hrm585 m585 hm585 => ?_)
    have hJ586 := w45_19 hJ581 hm585 (by omega) hrm585
    have km585 : ∀ g, m585 g 8 9 = m580 g 8 9 := fun g9 => by rw [hm585]; exact z_upd_o _ _ rfl
    refine X.aload_n 151 i216_150 rfl rfl rfl ?_
    refine X.getF 154 i216_151 rfl rfl (by decide) rfl rfl ?_
    refine X.bipush 156 i216_154 rfl rfl (by decide) ?_
    refine X.dup2 157 i216_156 rfl rfl ?_
    refine X.lald 158 i216_157 rfl rfl (by decide) rfl (by omega) ?_
    refine X.lload_n 159 i216_158 rfl rfl rfl ?_
    refine X.lconst (y := 0) 160 i216_159 rfl rfl rfl ?_
    refine X.lcmp 161 i216_160 rfl rfl (fun z587 hz587 => ?_)
    refine X.ifge 169 164 i216_161 rfl rfl rfl (fun h588 => ?_) (fun h588 => (by exfalso; omega))
    have h588c : a1 ≥ 0 := by omega
    clear h588 hz587
    refine X.cut [(0, zr g0 44), (5, zl a3)] i216_169 rfl ?_
    refine X.lconst (y := 0) 170 i216_169 rfl rfl rfl ?_
    refine X.llF 171 .ladd (fun x y => x + y) i216_170 rfl rfl rfl (fun _ _ => rfl) (fun z589 hz589 => ?_)
    refine X.last' 172 i216_171 rfl rfl (by decide) rfl (by omega) (fun hrm590 m590 hm590 => ?_)
    have hJ591 := w45_19 hJ586 hm590 (by omega) hrm590
    have km590 : ∀ g, m590 g 8 9 = m585 g 8 9 := fun g9 => by rw [hm590]; exact z_upd_o _ _ rfl
    refine X.aload_n 173 i216_172 rfl rfl rfl ?_
    refine X.getF 176 i216_173 rfl rfl (by decide) rfl rfl ?_
    refine X.bipush 178 i216_176 rfl rfl (by decide) ?_
    refine X.dup2 179 i216_178 rfl rfl ?_
    refine X.lald 180 i216_179 rfl rfl (by decide) rfl (by omega) ?_
    refine X.lload 182 i216_180 rfl rfl rfl ?_
    refine X.llF 183 .ladd (fun x y => x + y) i216_182 rfl rfl rfl (fun _ _ => rfl) (fun z592 hz592 => ?_)
    refine X.last' 184 i216_183 rfl rfl (by decide) rfl (by omega) (fun hrm593 m593 hm593 => ?_)
    have hJ594 := w45_19 hJ591 hm593 (by omega) hrm593
    have km593 : ∀ g, m593 g 8 9 = m590 g 8 9 := fun g9 => by rw [hm593]; exact z_upd_o _ _ rfl
    refine X.retv i216_184 rfl t216 ?_
    exact hQ  m593  (hJ594.up (by omega)) (fun g => by simp only [km550, km553, km564, km567, km570, km573, km580, km585, km590, km593]) 
-- WorkMeterModel.registers
theorem c216_3 {s : Nat × (Nat → Int32)} {m0 m : zM} {B : Int} {d : Nat} {Q : Option zV → zM → Prop} (g0 : Nat) (a1 a2 a3 : Int) (hd : 16 ≤ d) (hJ : J m0 B m) (hB : B + 0 ≤ 1000000000) (ha1 : 0 ≤ a1) (ha2 : a2 ≤ (-1)) (ha3 : 0 ≤ a3 ∧ a3 ≤ 3000000000) (hQ : ∀ m', J m0 (B) m' → (∀ g, m' g 8 9 = m g 8 9) → Q none m') : X (EE s) d 216 0 [(0, zr g0 44), (1, zl a1), (3, zl a2), (5, zl a3)] [] m Q := by
  refine X.aload_n 1 i216_0 rfl rfl rfl ?_
  refine X.aload_n 2 i216_1 rfl rfl rfl ?_
  refine X.getF 5 i216_2 rfl rfl (by decide) rfl rfl ?_
  refine X.iconst 6 i216_5 rfl rfl (by decide) ?_
  refine X.lald 7 i216_6 rfl rfl (by decide) rfl (by omega) ?_
  have h501 := r45_0 hJ 4
  refine X.l2i 8 i216_7 rfl rfl (by omega) ?_
  refine X.callv 11 [zi (m 4 45 0)] [] [(0, zr g0 44), (1, zi (m 4 45 0))] i216_8 rfl (by decide) rfl rfl (by omega) rfl rfl (by decide) rfl t217 (Nat.le_of_ble_eq_true rfl) (Nat.le_of_ble_eq_true rfl) rfl ?_
  refine c217_1 (B := B) g0 (m 4 45 0) (by omega) (hJ.up (by omega)) (by omega) (by omega) (fun v504 hv504 => ?_)
  show X (EE s) d 216 11 [(0, zr g0 44), (1, zl a1), (3, zl a2), (5, zl a3)] [zi v504] m _
  refine X.istore 13 [(0, zr g0 44), (1, zl a1), (3, zl a2), (5, zl a3), (7, zi v504)] i216_11 rfl rfl rfl ?_
  refine X.aload_n 14 i216_13 rfl rfl rfl ?_
  refine X.getF 17 i216_14 rfl rfl (by decide) rfl rfl ?_
  refine X.bipush 19 i216_17 rfl rfl (by decide) ?_
  refine X.iload 21 i216_19 rfl rfl rfl ?_
  refine X.iadd 22 i216_21 rfl rfl (by omega) ?_
  refine X.lald 23 i216_22 rfl rfl (by decide) rfl (by omega) ?_
  refine X.aload_n 24 i216_23 rfl rfl rfl ?_
  refine X.getF 27 i216_24 rfl rfl (by decide) rfl rfl ?_
  refine X.iconst 28 i216_27 rfl rfl (by decide) ?_
  refine X.lald 29 i216_28 rfl rfl (by decide) rfl (by omega) ?_
  have h505 := r45_5 hJ 4
  refine X.ldivF 30 i216_29 rfl rfl (by omega) (fun z506 => ?_)
  refine X.lstore 32 [(0, zr g0 44), (1, zl a1), (3, zl a2), (5, zl a3), (7, zi v504), (8, zl z506)] i216_30 rfl rfl rfl ?_
  refine X.lload_n 33 i216_32 rfl rfl rfl ?_
  refine X.lconst (y := 0) 34 i216_33 rfl rfl rfl ?_
  refine X.lcmp 35 i216_34 rfl rfl (fun z507 hz507 => ?_)
  refine X.ifle 46 38 i216_35 rfl rfl rfl (fun h508 => ?_) (fun h508 => ?_)
  · have h508c : a1 ≤ 0 := by omega
    clear h508 hz507
    refine X.lload_n 47 i216_46 rfl rfl rfl ?_
    refine X.lconst (y := 0) 48 i216_47 rfl rfl rfl ?_
    refine X.lcmp 49 i216_48 rfl rfl (fun z509 hz509 => ?_)
    refine X.ifge 61 52 i216_49 rfl rfl rfl (fun h510 => ?_) (fun h510 => (by exfalso; omega))
    have h510c : a1 ≥ 0 := by omega
    clear h510 hz509
    refine X.aload_n 62 i216_61 rfl rfl rfl ?_
    refine X.iconst 63 i216_62 rfl rfl (by decide) ?_
    refine X.lload_n 64 i216_63 rfl rfl rfl ?_
    refine X.lload_n 65 i216_64 rfl rfl rfl ?_
    refine X.calls 68 [zl a1, zl a2] [zi 1, zr g0 44] [(0, zl a1), (2, zl a2)] i216_65 (by decide) rfl rfl (by omega) rfl rfl t221 (Nat.le_of_ble_eq_true rfl) (Nat.le_of_ble_eq_true rfl) rfl ?_
    refine X.lload_n 1 i221_0 rfl rfl rfl ?_
    refine X.lconst (y := 0) 2 i221_1 rfl rfl rfl ?_
    refine X.lcmp 3 i221_2 rfl rfl (fun z511 hz511 => ?_)
    refine X.iflt 20 6 i221_3 rfl rfl rfl (fun h512 => (by exfalso; omega)) (fun h512 => ?_)
    have h512c : a1 ≥ 0 := by omega
    clear h512 hz511
    refine X.lload_n 7 i221_6 rfl rfl rfl ?_
    refine X.lconst (y := 0) 8 i221_7 rfl rfl rfl ?_
    refine X.lcmp 9 i221_8 rfl rfl (fun z513 hz513 => ?_)
    refine X.iflt 16 12 i221_9 rfl rfl rfl (fun h514 => ?_) (fun h514 => (by exfalso; omega))
    have h514c : a2 < 0 := by omega
    clear h514 hz513
    refine X.cut [] i221_16 rfl ?_
    refine X.iconst 17 i221_16 rfl rfl (by decide) ?_
    refine X.goto 31 i221_17 rfl rfl ?_
    refine X.reti i221_31 rfl t221 ?_
    show X (EE s) d 216 68 [(0, zr g0 44), (1, zl a1), (3, zl a2), (5, zl a3), (7, zi v504), (8, zl z506)] [zi 4, zi 1, zr g0 44] m _
    refine X.iadd 69 i216_68 rfl rfl (by omega) ?_
    refine X.iload 71 i216_69 rfl rfl rfl ?_
    refine X.lload_n 72 i216_71 rfl rfl rfl ?_
    refine X.calls 75 [zl a2] [zi v504, zi (1 + 4), zr g0 44] [(0, zl a2)] i216_72 (by decide) rfl rfl (by omega) rfl rfl t215 (Nat.le_of_ble_eq_true rfl) (Nat.le_of_ble_eq_true rfl) rfl ?_
    refine X.lload_n 1 i215_0 rfl rfl rfl ?_
    refine X.lconst (y := 0) 2 i215_1 rfl rfl rfl ?_
    refine X.lcmp 3 i215_2 rfl rfl (fun z515 hz515 => ?_)
    refine X.ifge 11 6 i215_3 rfl rfl rfl (fun h516 => (by exfalso; omega)) (fun h516 => ?_)
    have h516c : a2 < 0 := by omega
    clear h516 hz515
    refine X.lload_n 7 i215_6 rfl rfl rfl ?_
    refine X.lnegF 8 i215_7 rfl rfl (fun z517 hz517 => ?_)
    refine X.goto 12 i215_8 rfl rfl ?_
    refine X.cut [] i215_12 rfl ?_
    refine X.retl i215_12 rfl t215 ?_
    show X (EE s) d 216 75 [(0, zr g0 44), (1, zl a1), (3, zl a2), (5, zl a3), (7, zi v504), (8, zl z506)] [zl z517, zi v504, zi (1 + 4), zr g0 44] m _
    refine X.callv 78 [zi (1 + 4), zi v504, zl z517] [] [(0, zr g0 44), (1, zi (1 + 4)), (2, zi v504), (3, zl z517)] i216_75 rfl (by decide) rfl rfl (by omega) rfl rfl (by decide) rfl t220 (Nat.le_of_ble_eq_true rfl) (Nat.le_of_ble_eq_true rfl) rfl ?_
    refine X.aload_n 1 i220_0 rfl rfl rfl ?_
    refine X.getF 4 i220_1 rfl rfl (by decide) rfl rfl ?_
    refine X.bipush 6 i220_4 rfl rfl (by decide) ?_
    refine X.iconst 7 i220_6 rfl rfl (by decide) ?_
    refine X.iload_n 8 i220_7 rfl rfl rfl ?_
    refine X.imul 9 i220_8 rfl rfl (by omega) ?_
    refine X.iadd 10 i220_9 rfl rfl (by omega) ?_
    refine X.iload_n 11 i220_10 rfl rfl rfl ?_
    refine X.iadd 12 i220_11 rfl rfl (by omega) ?_
    refine X.dup2 13 i220_12 rfl rfl ?_
    refine X.lald 14 i220_13 rfl rfl (by decide) rfl (by omega) ?_
    refine X.lload_n 15 i220_14 rfl rfl rfl ?_
    refine X.llF 16 .ladd (fun x y => x + y) i220_15 rfl rfl rfl (fun _ _ => rfl) (fun z518 hz518 => ?_)
    refine X.last' 17 i220_16 rfl rfl (by decide) rfl (by omega) (fun hrm519 m519 hm519 => ?_)
    have hJ520 := w45_19 hJ hm519 (by omega) hrm519
    have km519 : ∀ g, m519 g 8 9 = m g 8 9 := fun g9 => by rw [hm519]; exact z_upd_o _ _ rfl
    refine X.aload_n 18 i220_17 rfl rfl rfl ?_
    refine X.getF 21 i220_18 rfl rfl (by decide) rfl rfl ?_
    refine X.bipush 23 i220_21 rfl rfl (by decide) ?_
    refine X.iconst 24 i220_23 rfl rfl (by decide) ?_
    refine X.iload_n 25 i220_24 rfl rfl rfl ?_
    refine X.imul 26 i220_25 rfl rfl (by omega) ?_
    refine X.iadd 27 i220_26 rfl rfl (by omega) ?_
    refine X.iconst 28 i220_27 rfl rfl (by decide) ?_
    refine X.iadd 29 i220_28 rfl rfl (by omega) ?_
    refine X.dup2 30 i220_29 rfl rfl ?_
    refine X.lald 31 i220_30 rfl rfl (by decide) rfl (by omega) ?_
    refine X.lload_n 32 i220_31 rfl rfl rfl ?_
    refine X.llF 33 .ladd (fun x y => x + y) i220_32 rfl rfl rfl (fun _ _ => rfl) (fun z521 hz521 => ?_)
    refine X.last' 34 i220_33 rfl rfl (by decide) rfl (by omega) (fun hrm522 m522 hm522 => ?_)
    have hJ523 := w45_19 hJ520 hm522 (by omega) hrm522
    have km522 : ∀ g, m522 g 8 9 = m519 g 8 9 := fun g9 => by rw [hm522]; exact z_upd_o _ _ rfl
    refine X.retv i220_34 rfl t220 ?_
    show X (EE s) d 216 78 [(0, zr g0 44), (1, zl a1), (3, zl a2), (5, zl a3), (7, zi v504), (8, zl z506)] [] m522 _
    refine X.aload_n 79 i216_78 rfl rfl rfl ?_
    refine X.bipush 81 i216_79 rfl rfl (by decide) ?_
    refine X.iload 83 i216_81 rfl rfl rfl ?_
    refine X.lload 85 i216_83 rfl rfl rfl ?_
    refine X.callv 88 [zi 6, zi v504, zl a3] [] [(0, zr g0 44), (1, zi 6), (2, zi v504), (3, zl a3)] i216_85 rfl (by decide) rfl rfl (by omega) rfl rfl (by decide) rfl t220 (Nat.le_of_ble_eq_true rfl) (Nat.le_of_ble_eq_true rfl) rfl ?_
    refine X.aload_n 1 i220_0 rfl rfl rfl ?_
    refine X.getF 4 i220_1 rfl rfl (by decide) rfl rfl ?_
    refine X.bipush 6 i220_4 rfl rfl (by decide) ?_
    refine X.iconst 7 i220_6 rfl rfl (by decide) ?_
    refine X.iload_n 8 i220_7 rfl rfl rfl ?_
    refine X.imul 9 i220_8 rfl rfl (by omega) ?_
    refine X.iadd 10 i220_9 rfl rfl (by omega) ?_
    refine X.iload_n 11 i220_10 rfl rfl rfl ?_
    refine X.iadd 12 i220_11 rfl rfl (by omega) ?_
    refine X.dup2 13 i220_12 rfl rfl ?_
    refine X.lald 14 i220_13 rfl rfl (by decide) rfl (by omega) ?_
    refine X.lload_n 15 i220_14 rfl rfl rfl ?_
    refine X.llF 16 .ladd (fun x y => x + y) i220_15 rfl rfl rfl (fun _ _ => rfl) (fun z524 hz524 => ?_)
    refine X.last' 17 i220_16 rfl rfl (by decide) rfl (by omega) (fun hrm525 m525 hm525 => ?_)
    have hJ526 := w45_19 hJ523 hm525 (by omega) hrm525
    have km525 : ∀ g, m525 g 8 9 = m522 g 8 9 := fun g9 => by rw [hm525]; exact z_upd_o _ _ rfl
    refine X.aload_n 18 i220_17 rfl rfl rfl ?_
    refine X.getF 21 i220_18 rfl rfl (by decide) rfl rfl ?_
    refine X.bipush 23 i220_21 rfl rfl (by decide) ?_
    refine X.iconst 24 i220_23 rfl rfl (by decide) ?_
    refine X.iload_n 25 i220_24 rfl rfl rfl ?_
    refine X.imul 26 i220_25 rfl rfl (by omega) ?_
    refine X.iadd 27 i220_26 rfl rfl (by omega) ?_
    refine X.iconst 28 i220_27 rfl rfl (by decide) ?_
    refine X.iadd 29 i220_28 rfl rfl (by omega) ?_
    refine X.dup2 30 i220_29 rfl rfl ?_
    refine X.lald 31 i220_30 rfl rfl (by decide) rfl (by omega) ?_
    refine X.lload_n 32 i220_31 rfl rfl rfl ?_
    refine X.llF 33 .ladd (fun x y => x + y) i220_32 rfl rfl rfl (fun _ _ => rfl) (fun z527 hz527 => ?_)
    refine X.last' 34 i220_33 rfl rfl (by decide) rfl (by omega) (fun hrm528 m528 hm528 => ?_)
    have hJ529 := w45_19 hJ526 hm528 (by omega) hrm528
    have km528 : ∀ g, m528 g 8 9 = m525 g 8 9 := fun g9 => by rw [hm528]; exact z_upd_o _ _ rfl
    refine X.retv i220_34 rfl t220 ?_
    show X (EE s) d 216 88 [(0, zr g0 44), (1, zl a1), (3, zl a2), (5, zl a3), (7, zi v504), (8, zl z506)] [] m528 _
    refine X.aload_n 89 i216_88 rfl rfl rfl ?_
    refine X.getF 92 i216_89 rfl rfl (by decide) rfl rfl ?_
    refine X.bipush 94 i216_92 rfl rfl (by decide) ?_
    refine X.dup2 95 i216_94 rfl rfl ?_
    refine X.lald 96 i216_95 rfl rfl (by decide) rfl (by omega) ?_
    refine X.aload_n 97 i216_96 rfl rfl rfl ?_
    refine X.getF 100 i216_97 rfl rfl (by decide) rfl rfl ?_
    refine X.bipush 102 i216_100 rfl rfl (by decide) ?_
    refine X.iload 104 i216_102 rfl rfl rfl ?_
    refine X.iadd 105 i216_104 rfl rfl (by omega) ?_
    refine X.lald 106 i216_105 rfl rfl (by decide) rfl (by omega) ?_
    refine X.aload_n 107 i216_106 rfl rfl rfl ?_
    refine X.getF 110 i216_107 rfl rfl (by decide) rfl rfl ?_
    refine X.iconst 111 i216_110 rfl rfl (by decide) ?_
    refine X.lald 112 i216_111 rfl rfl (by decide) rfl (by omega) ?_
    have h530 := r45_5 hJ529 4
    refine X.ldivF 113 i216_112 rfl rfl (by omega) (fun z531 => ?_)
    refine X.lload 115 i216_113 rfl rfl rfl ?_
    refine X.llF 116 .lsub (fun x y => x - y) i216_115 rfl rfl rfl (fun _ _ => rfl) (fun z532 hz532 => ?_)
    refine X.aload_n 117 i216_116 rfl rfl rfl ?_
    refine X.getF 120 i216_117 rfl rfl (by decide) rfl rfl ?_
    refine X.bipush 122 i216_120 rfl rfl (by decide) ?_
    refine X.iload 124 i216_122 rfl rfl rfl ?_
    refine X.iadd 125 i216_124 rfl rfl (by omega) ?_
    refine X.lald 126 i216_125 rfl rfl (by decide) rfl (by omega) ?_
    refine X.llF 127 .lmul (fun x y => x * y) i216_126 rfl rfl rfl (fun _ _ => rfl) (fun z533 hz533 => ?_)
    refine X.llF 128 .lsub (fun x y => x - y) i216_127 rfl rfl rfl (fun _ _ => rfl) (fun z534 hz534 => ?_)
    refine X.last' 129 i216_128 rfl rfl (by decide) rfl (by omega) (fun hrm535 m535 hm535 => ?_)
    have hJ536 := w45_10 hJ529 hm535 hrm535
    have km535 : ∀ g, m535 g 8 9 = m528 g 8 9 := fun g9 => by rw [hm535]; exact z_upd_o _ _ rfl
    refine X.aload_n 130 i216_129 rfl rfl rfl ?_
    refine X.getF 133 i216_130 rfl rfl (by decide) rfl rfl ?_
    refine X.bipush 135 i216_133 rfl rfl (by decide) ?_
    refine X.dup2 136 i216_135 rfl rfl ?_
    refine X.lald 137 i216_136 rfl rfl (by decide) rfl (by omega) ?_
    refine X.lload_n 138 i216_137 rfl rfl rfl ?_
    refine X.lconst (y := 0) 139 i216_138 rfl rfl rfl ?_
    refine X.lcmp 140 i216_139 rfl rfl (fun z537 hz537 => ?_)
    refine X.ifle 147 143 i216_140 rfl rfl rfl (fun h538 => ?_) (fun h538 => (by exfalso; omega))
    have h538c : a1 ≤ 0 := by omega
    clear h538 hz537
    refine X.cut [(0, zr g0 44), (1, zl a1), (5, zl a3)] i216_147 rfl ?_
    refine X.lconst (y := 0) 148 i216_147 rfl rfl rfl ?_
    refine X.llF 149 .ladd (fun x y => x + y) i216_148 rfl rfl rfl (fun _ _ => rfl) (fun z539 hz539 => ?_)
    refine X.last' 150 i216_149 rfl rfl (by decide) rfl (by omega) (fun hrm540 m540 hm540 => ?_)
    have hJ541 := w45_19 hJ536 hm540 (by omega) hrm540
    have km540 : ∀ g, m540 g 8 9 = m535 g 8 9 := fun g9 => by rw [hm540]; exact z_upd_o _ _ rfl
    refine X.aload_n 151 i216_150 rfl rfl rfl ?_
    refine X.getF 154 i216_151 rfl rfl (by decide) rfl rfl ?_
    refine X.bipush 156 i216_154 rfl rfl (by decide) ?_
    refine X.dup2 157 i216_156 rfl rfl ?_
    refine X.lald 158 i216_157 rfl rfl (by decide) rfl (by omega) ?_
    refine X.lload_n 159 i216_158 rfl rfl rfl ?_
    refine X.lconst (y := 0) 160 i216_159 rfl rfl rfl ?_
    refine X.lcmp 161 i216_160 rfl rfl (fun z542 hz542 => ?_)
    refine X.ifge 169 164 i216_161 rfl rfl rfl (fun h543 => ?_) (fun h543 => (by exfalso; omega))
    have h543c : a1 ≥ 0 := by omega
    clear h543 hz542
    refine X.cut [(0, zr g0 44), (5, zl a3)] i216_169 rfl ?_
    refine X.lconst (y := 0) 170 i216_169 rfl rfl rfl ?_
    refine X.llF 171 .ladd (fun x y => x + y) i216_170 rfl rfl rfl (fun _ _ => rfl) (fun z544 hz544 => ?_)
    refine X.last' 172 i216_171 rfl rfl (by decide) rfl (by omega) (fun hrm545 m545 hm545 => ?_)
    have hJ546 := w45_19 hJ541 hm545 (by omega) hrm545
    have km545 : ∀ g, m545 g 8 9 = m540 g 8 9 := fun g9 => by rw [hm545]; exact z_upd_o _ _ rfl
    refine X.aload_n 173 i216_172 rfl rfl rfl ?_
    refine X.getF 176 i216_173 rfl rfl (by decide) rfl rfl ?_
    refine X.bipush 178 i216_176 rfl rfl (by decide) ?_
    refine X.dup2 179 i216_178 rfl rfl ?_
    refine X.lald 180 i216_179 rfl rfl (by decide) rfl (by omega) ?_
    refine X.lload 182 i216_180 rfl rfl rfl ?_
    refine X.llF 183 .ladd (fun x y => x + y) i216_182 rfl rfl rfl (fun _ _ => rfl) (fun z547 hz547 => ?_)
    refine X.last' 184 i216_183 rfl rfl (by decide) rfl (by omega) (fun hrm548 m548 hm548 => ?_)
    have hJ549 := w45_19 hJ546 hm548 (by omega) hrm548
    have km548 : ∀ g, m548 g 8 9 = m545 g 8 9 := fun g9 => by rw [hm548]; exact z_upd_o _ _ rfl
    refine X.retv i216_184 rfl t216 ?_
    exact hQ  m548  (hJ549.up (by omega)) (fun g => by simp only [km519, km522, km525, km528, km535, km540, km545, km548]) 
  · have h508c : a1 > 0 := by omega
    clear h508 hz507
    refine X.aload_n 39 i216_38 rfl rfl rfl ?_
    refine X.iconst 40 i216_39 rfl rfl (by decide) ?_
    refine X.iload 42 i216_40 rfl rfl rfl ?_
    refine X.lload_n 43 i216_42 rfl rfl rfl ?_
    refine X.callv 46 [zi 0, zi v504, zl a1] [] [(0, zr g0 44), (1, zi 0), (2, zi v504), (3, zl a1)] i216_43 rfl (by decide) rfl rfl (by omega) rfl rfl (by decide) rfl t220 (Nat.le_of_ble_eq_true rfl) (Nat.le_of_ble_eq_true rfl) rfl ?_
    refine X.aload_n 1 i220_0 rfl rfl rfl ?_
    refine X.getF 4 i220_1 rfl rfl (by decide) rfl rfl ?_
    refine X.bipush 6 i220_4 rfl rfl (by decide) ?_
    refine X.iconst 7 i220_6 rfl rfl (by decide) ?_
    refine X.iload_n 8 i220_7 rfl rfl rfl ?_
    refine X.imul 9 i220_8 rfl rfl (by omega) ?_
    refine X.iadd 10 i220_9 rfl rfl (by omega) ?_
    refine X.iload_n 11 i220_10 rfl rfl rfl ?_
    refine X.iadd 12 i220_11 rfl rfl (by omega) ?_
    refine X.dup2 13 i220_12 rfl rfl ?_
    refine X.lald 14 i220_13 rfl rfl (by decide) rfl (by omega) ?_
    refine X.lload_n 15 i220_14 rfl rfl rfl ?_
    refine X.llF 16 .ladd (fun x y => x + y) i220_15 rfl rfl rfl (fun _ _ => rfl) (fun z550 hz550 => ?_)
    refine X.last' 17 i220_16 rfl rfl (by decide) rfl (by omega) (fun hrm551 m551 hm551 => ?_)
    have hJ552 := w45_19 hJ hm551 (by omega) hrm551
    have km551 : ∀ g, m551 g 8 9 = m g 8 9 := fun g9 => by rw [hm551]; exact z_upd_o _ _ rfl
    refine X.aload_n 18 i220_17 rfl rfl rfl ?_
    refine X.getF 21 i220_18 rfl rfl (by decide) rfl rfl ?_
    refine X.bipush 23 i220_21 rfl rfl (by decide) ?_
    refine X.iconst 24 i220_23 rfl rfl (by decide) ?_
    refine X.iload_n 25 i220_24 rfl rfl rfl ?_
    refine X.imul 26 i220_25 rfl rfl (by omega) ?_
    refine X.iadd 27 i220_26 rfl rfl (by omega) ?_
    refine X.iconst 28 i220_27 rfl rfl (by decide) ?_
    refine X.iadd 29 i220_28 rfl rfl (by omega) ?_
    refine X.dup2 30 i220_29 rfl rfl ?_
    refine X.lald 31 i220_30 rfl rfl (by decide) rfl (by omega) ?_
    refine X.lload_n 32 i220_31 rfl rfl rfl ?_
    refine X.llF 33 .ladd (fun x y => x + y) i220_32 rfl rfl rfl (fun _ _ => rfl) (fun z553 hz553 => ?_)
    refine X.last' 34 i220_33 rfl rfl (by decide) rfl (by omega) (fun hrm554 m554 hm554 => ?_)
    have hJ555 := w45_19 hJ552 hm554 (by omega) hrm554
    have km554 : ∀ g, m554 g 8 9 = m551 g 8 9 := fun g9 => by rw [hm554]; exact z_upd_o _ _ rfl
    refine X.retv i220_34 rfl t220 ?_
    show X (EE s) d 216 46 [(0, zr g0 44), (1, zl a1), (3, zl a2), (5, zl a3), (7, zi v504), (8, zl z506)] [] m554 _
    refine X.lload_n 47 i216_46 rfl rfl rfl ?_
    refine X.lconst (y := 0) 48 i216_47 rfl rfl rfl ?_
    refine X.lcmp 49 i216_48 rfl rfl (fun z556 hz556 => ?_)
    refine X.ifge 61 52 i216_49 rfl rfl rfl (fun h557 => ?_) (fun h557 => (by exfalso; omega))
    have h557c : a1 ≥ 0 := by omega
    clear h557 hz556
    refine X.aload_n 62 i216_61 rfl rfl rfl ?_
    refine X.iconst 63 i216_62 rfl rfl (by decide) ?_
    refine X.lload_n 64 i216_63 rfl rfl rfl ?_
    refine X.lload_n 65 i216_64 rfl rfl rfl ?_
    refine X.calls 68 [zl a1, zl a2] [zi 1, zr g0 44] [(0, zl a1), (2, zl a2)] i216_65 (by decide) rfl rfl (by omega) rfl rfl t221 (Nat.le_of_ble_eq_true rfl) (Nat.le_of_ble_eq_true rfl) rfl ?_
    refine X.lload_n 1 i221_0 rfl rfl rfl ?_
    refine X.lconst (y := 0) 2 i221_1 rfl rfl rfl ?_
    refine X.lcmp 3 i221_2 rfl rfl (fun z558 hz558 => ?_)
    refine X.iflt 20 6 i221_3 rfl rfl rfl (fun h559 => (by exfalso; omega)) (fun h559 => ?_)
    have h559c : a1 ≥ 0 := by omega
    clear h559 hz558
    refine X.lload_n 7 i221_6 rfl rfl rfl ?_
    refine X.lconst (y := 0) 8 i221_7 rfl rfl rfl ?_
    refine X.lcmp 9 i221_8 rfl rfl (fun z560 hz560 => ?_)
    refine X.iflt 16 12 i221_9 rfl rfl rfl (fun h561 => ?_) (fun h561 => (by exfalso; omega))
    have h561c : a2 < 0 := by omega
    clear h561 hz560
    refine X.cut [] i221_16 rfl ?_
    refine X.iconst 17 i221_16 rfl rfl (by decide) ?_
    refine X.goto 31 i221_17 rfl rfl ?_
    refine X.reti i221_31 rfl t221 ?_
    show X (EE s) d 216 68 [(0, zr g0 44), (1, zl a1), (3, zl a2), (5, zl a3), (7, zi v504), (8, zl z506)] [zi 4, zi 1, zr g0 44] m554 _
    refine X.iadd 69 i216_68 rfl rfl (by omega) ?_
    refine X.iload 71 i216_69 rfl rfl rfl ?_
    refine X.lload_n 72 i216_71 rfl rfl rfl ?_
    refine X.calls 75 [zl a2] [zi v504, zi (1 + 4), zr g0 44] [(0, zl a2)] i216_72 (by decide) rfl rfl (by omega) rfl rfl t215 (Nat.le_of_ble_eq_true rfl) (Nat.le_of_ble_eq_true rfl) rfl ?_
    refine X.lload_n 1 i215_0 rfl rfl rfl ?_
    refine X.lconst (y := 0) 2 i215_1 rfl rfl rfl ?_
    refine X.lcmp 3 i215_2 rfl rfl (fun z562 hz562 => ?_)
    refine X.ifge 11 6 i215_3 rfl rfl rfl (fun h563 => (by exfalso; omega)) (fun h563 => ?_)
    have h563c : a2 < 0 := by omega
    clear h563 hz562
    refine X.lload_n 7 i215_6 rfl rfl rfl ?_
    refine X.lnegF 8 i215_7 rfl rfl (fun z564 hz564 => ?_)
    refine X.goto 12 i215_8 rfl rfl ?_
    refine X.cut [] i215_12 rfl ?_
    refine X.retl i215_12 rfl t215 ?_
    show X (EE s) d 216 75 [(0, zr g0 44), (1, zl a1), (3, zl a2), (5, zl a3), (7, zi v504), (8, zl z506)] [zl z564, zi v504, zi (1 + 4), zr g0 44] m554 _
    refine X.callv 78 [zi (1 + 4), zi v504, zl z564] [] [(0, zr g0 44), (1, zi (1 + 4)), (2, zi v504), (3, zl z564)] i216_75 rfl (by decide) rfl rfl (by omega) rfl rfl (by decide) rfl t220 (Nat.le_of_ble_eq_true rfl) (Nat.le_of_ble_eq_true rfl) rfl ?_
    refine X.aload_n 1 i220_0 rfl rfl rfl ?_
    refine X.getF 4 i220_1 rfl rfl (by decide) rfl rfl ?_
    refine X.bipush 6 i220_4 rfl rfl (by decide) ?_
    refine X.iconst 7 i220_6 rfl rfl (by decide) ?_
    refine X.iload_n 8 i220_7 rfl rfl rfl ?_
    refine X.imul 9 i220_8 rfl rfl (by omega) ?_
    refine X.iadd 10 i220_9 rfl rfl (by omega) ?_
    refine X.iload_n 11 i220_10 rfl rfl rfl ?_
    refine X.iadd 12 i220_11 rfl rfl (by omega) ?_
    refine X.dup2 13 i220_12 rfl rfl ?_
    refine X.lald 14 i220_13 rfl rfl (by decide) rfl (by omega) ?_
    refine X.lload_n 15 i220_14 rfl rfl rfl ?_
    refine X.llF 16 .ladd (fun x y => x + y) i220_15 rfl rfl rfl (fun _ _ => rfl) (fun z565 hz565 => ?_)
    refine X.last' 17 i220_16 rfl rfl (by decide) rfl (by omega) (fun hrm566 m566 hm566 => ?_)
    have hJ567 := w45_19 hJ555 hm566 (by omega) hrm566
    have km566 : ∀ g, m566 g 8 9 = m554 g 8 9 := fun g9 => by rw [hm566]; exact z_upd_o _ _ rfl
    refine X.aload_n 18 i220_17 rfl rfl rfl ?_
    refine X.getF 21 i220_18 rfl rfl (by decide) rfl rfl ?_
    refine X.bipush 23 i220_21 rfl rfl (by decide) ?_
    refine X.iconst 24 i220_23 rfl rfl (by decide) ?_
    refine X.iload_n 25 i220_24 rfl rfl rfl ?_
    refine X.imul 26 i220_25 rfl rfl (by omega) ?_
    refine X.iadd 27 i220_26 rfl rfl (by omega) ?_
    refine X.iconst 28 i220_27 rfl rfl (by decide) ?_
    refine X.iadd 29 i220_28 rfl rfl (by omega) ?_
    refine X.dup2 30 i220_29 rfl rfl ?_
    refine X.lald 31 i220_30 rfl rfl (by decide) rfl (by omega) ?_
    refine X.lload_n 32 i220_31 rfl rfl rfl ?_
    refine X.llF 33 .ladd (fun x y => x + y) i220_32 rfl rfl rfl (fun _ _ => rfl) (fun z568 hz568 => ?_)
    refine X.last' 34 i220_33 rfl rfl (by decide) rfl (by omega) (fun hrm569 m569 hm569 => ?_)
    have hJ570 := w45_19 hJ567 hm569 (by omega) hrm569
    have km569 : ∀ g, m569 g 8 9 = m566 g 8 9 := fun g9 => by rw [hm569]; exact z_upd_o _ _ rfl
    refine X.retv i220_34 rfl t220 ?_
    show X (EE s) d 216 78 [(0, zr g0 44), (1, zl a1), (3, zl a2), (5, zl a3), (7, zi v504), (8, zl z506)] [] m569 _
    refine X.aload_n 79 i216_78 rfl rfl rfl ?_
    refine X.bipush 81 i216_79 rfl rfl (by decide) ?_
    refine X.iload 83 i216_81 rfl rfl rfl ?_
    refine X.lload 85 i216_83 rfl rfl rfl ?_
    refine X.callv 88 [zi 6, zi v504, zl a3] [] [(0, zr g0 44), (1, zi 6), (2, zi v504), (3, zl a3)] i216_85 rfl (by decide) rfl rfl (by omega) rfl rfl (by decide) rfl t220 (Nat.le_of_ble_eq_true rfl) (Nat.le_of_ble_eq_true rfl) rfl ?_
    refine X.aload_n 1 i220_0 rfl rfl rfl ?_
    refine X.getF 4 i220_1 rfl rfl (by decide) rfl rfl ?_
    refine X.bipush 6 i220_4 rfl rfl (by decide) ?_
    refine X.iconst 7 i220_6 rfl rfl (by decide) ?_
    refine X.iload_n 8 i220_7 rfl rfl rfl ?_
    refine X.imul 9 i220_8 rfl rfl (by omega) ?_
    refine X.iadd 10 i220_9 rfl rfl (by omega) ?_
    refine X.iload_n 11 i220_10 rfl rfl rfl ?_
    refine X.iadd 12 i220_11 rfl rfl (by omega) ?_
    refine X.dup2 13 i220_12 rfl rfl ?_
    refine X.lald 14 i220_13 rfl rfl (by decide) rfl (by omega) ?_
    refine X.lload_n 15 i220_14 rfl rfl rfl ?_
    refine X.llF 16 .ladd (fun x y => x + y) i220_15 rfl rfl rfl (fun _ _ => rfl) (fun z571 hz571 => ?_)
    refine X.last' 17 i220_16 rfl rfl (by decide) rfl (by omega) (fun hrm572 m572 hm572 => ?_)
    have hJ573 := w45_19 hJ570 hm572 (by omega) hrm572
    have km572 : ∀ g, m572 g 8 9 = m569 g 8 9 := fun g9 => by rw [hm572]; exact z_upd_o _ _ rfl
    refine X.aload_n 18 i220_17 rfl rfl rfl ?_
    refine X.getF 21 i220_18 rfl rfl (by decide) rfl rfl ?_
    refine X.bipush 23 i220_21 rfl rfl (by decide) ?_
    refine X.iconst 24 i220_23 rfl rfl (by decide) ?_
    refine X.iload_n 25 i220_24 rfl rfl rfl ?_
    refine X.imul 26 i220_25 rfl rfl (by omega) ?_
    refine X.iadd 27 i220_26 rfl rfl (by omega) ?_
    refine X.iconst 28 i220_27 rfl rfl (by decide) ?_
    refine X.iadd 29 i220_28 rfl rfl (by omega) ?_
    refine X.dup2 30 i220_29 rfl rfl ?_
    refine X.lald 31 i220_30 rfl rfl (by decide) rfl (by omega) ?_
    refine X.lload_n 32 i220_31 rfl rfl rfl ?_
    refine X.llF 33 .ladd (fun x y => x + y) i220_32 rfl rfl rfl (fun _ _ => rfl) (fun z574 hz574 => ?_)
    refine X.last' 34 i220_33 rfl rfl (by decide) rfl (by omega) (fun hrm575 m575 hm575 => ?_)
    have hJ576 := w45_19 hJ573 hm575 (by omega) hrm575
    have km575 : ∀ g, m575 g 8 9 = m572 g 8 9 := fun g9 => by rw [hm575]; exact z_upd_o _ _ rfl
    refine X.retv i220_34 rfl t220 ?_
    show X (EE s) d 216 88 [(0, zr g0 44), (1, zl a1), (3, zl a2), (5, zl a3), (7, zi v504), (8, zl z506)] [] m575 _
    refine X.aload_n 89 i216_88 rfl rfl rfl ?_
    refine X.getF 92 i216_89 rfl rfl (by decide) rfl rfl ?_
    refine X.bipush 94 i216_92 rfl rfl (by decide) ?_
    refine X.dup2 95 i216_94 rfl rfl ?_
    refine X.lald 96 i216_95 rfl rfl (by decide) rfl (by omega) ?_
    refine X.aload_n 97 i216_96 rfl rfl rfl ?_
    refine X.getF 100 i216_97 rfl rfl (by decide) rfl rfl ?_
    refine X.bipush 102 i216_100 rfl rfl (by decide) ?_
    refine X.iload 104 i216_102 rfl rfl rfl ?_
    refine X.iadd 105 i216_104 rfl rfl (by omega) ?_
    refine X.lald 106 i216_105 rfl rfl (by decide) rfl (by omega) ?_
    refine X.aload_n 107 i216_106 rfl rfl rfl ?_
    refine X.getF 110 i216_107 rfl rfl (by decide) rfl rfl ?_
    refine X.iconst 111 i216_110 rfl rfl (by decide) ?_
    refine X.lald 112 i216_111 rfl rfl (by decide) rfl (by omega) ?_
    have h577 := r45_5 hJ576 4
    refine X.ldivF 113 i216_112 rfl rfl (by omega) (fun z578 => ?_)
    refine X.lload 115 i216_113 rfl rfl rfl ?_
    refine X.llF 116 .lsub (fun x y => x - y) i216_115 rfl rfl rfl (fun _ _ => rfl) (fun z579 hz579 => ?_)
    refine X.aload_n 117 i216_116 rfl rfl rfl ?_
    refine X.getF 120 i216_117 rfl rfl (by decide) rfl rfl ?_
    refine X.bipush 122 i216_120 rfl rfl (by decide) ?_
    refine X.iload 124 i216_122 rfl rfl rfl ?_
    refine X.iadd 125 i216_124 rfl rfl (by omega) ?_
    refine X.lald 126 i216_125 rfl rfl (by decide) rfl (by omega) ?_
    refine X.llF 127 .lmul (fun x y => x * y) i216_126 rfl rfl rfl (fun _ _ => rfl) (fun z580 hz580 => ?_)
    refine X.llF 128 .lsub (fun x y => x - y) i216_127 rfl rfl rfl (fun _ _ => rfl) (fun z581 hz581 => ?_)
    refine X.last' 129 i216_128 rfl rfl (by decide) rfl (by omega) (fun hrm582 m582 hm582 => ?_)
    have hJ583 := w45_10 hJ576 hm582 hrm582
    have km582 : ∀ g, m582 g 8 9 = m575 g 8 9 := fun g9 => by rw [hm582]; exact z_upd_o _ _ rfl
    refine X.aload_n 130 i216_129 rfl rfl rfl ?_
    refine X.getF 133 i216_130 rfl rfl (by decide) rfl rfl ?_
    refine X.bipush 135 i216_133 rfl rfl (by decide) ?_
    refine X.dup2 136 i216_135 rfl rfl ?_
    refine X.lald 137 i216_136 rfl rfl (by decide) rfl (by omega) ?_
    refine X.lload_n 138 i216_137 rfl rfl rfl ?_
    refine X.lconst (y := 0) 139 i216_138 rfl rfl rfl ?_
    refine X.lcmp 140 i216_139 rfl rfl (fun z584 hz584 => ?_)
    refine X.ifle 147 143 i216_140 rfl rfl rfl (fun h585 => (by exfalso; omega)) (fun h585 => ?_)
    have h585c : a1 > 0 := by omega
    clear h585 hz584
    refine X.lload_n 144 i216_143 rfl rfl rfl ?_
    refine X.goto 148 i216_144 rfl rfl ?_
    refine X.cut [(0, zr g0 44), (1, zl a1), (5, zl a3)] i216_148 rfl ?_
    refine X.llF 149 .ladd (fun x y => x + y) i216_148 rfl rfl rfl (fun _ _ => rfl) (fun z586 hz586 => ?_)
    refine X.last' 150 i216_149 rfl rfl (by decide) rfl (by omega) (fun hrm587 m587 hm587 => ?_)
    have hJ588 := w45_19 hJ583 hm587 (by omega) hrm587
    have km587 : ∀ g, m587 g 8 9 = m582 g 8 9 := fun g9 => by rw [hm587]; exact z_upd_o _ _ rfl
    refine X.aload_n 151 i216_150 rfl rfl rfl ?_
    refine X.getF 154 i216_151 rfl rfl (by decide) rfl rfl ?_
    refine X.bipush 156 i216_154 rfl rfl (by decide) ?_
    refine X.dup2 157 i216_156 rfl rfl ?_
    refine X.lald 158 i216_157 rfl rfl (by decide) rfl (by omega) ?_
    refine X.lload_n 159 i216_158 rfl rfl rfl ?_
    refine X.lconst (y := 0) 160 i216_159 rfl rfl rfl ?_
    refine X.lcmp 161 i216_160 rfl rfl (fun z589 hz589 => ?_)
    refine X.ifge 169 164 i216_161 rfl rfl rfl (fun h590 => ?_) (fun h590 => (by exfalso; omega))
    have h590c : a1 ≥ 0 := by omega
    clear h590 hz589
    refine X.cut [(0, zr g0 44), (5, zl a3)] i216_169 rfl ?_
    refine X.lconst (y := 0) 170 i216_169 rfl rfl rfl ?_
    refine X.llF 171 .ladd (fun x y => x + y) i216_170 rfl rfl rfl (fun _ _ => rfl) (fun z591 hz591 => ?_)
    refine X.last' 172 i216_171 rfl rfl (by decide) rfl (by omega) (fun hrm592 m592 hm592 => ?_)
    have hJ593 := w45_19 hJ588 hm592 (by omega) hrm592
    have km592 : ∀ g, m592 g 8 9 = m587 g 8 9 := fun g9 => by rw [hm592]; exact z_upd_o _ _ rfl
    refine X.aload_n 173 i216_172 rfl rfl rfl ?_
    refine X.getF 176 i216_173 rfl rfl (by decide) rfl rfl ?_
    refine X.bipush 178 i216_176 rfl rfl (by decide) ?_
    refine X.dup2 179 i216_178 rfl rfl ?_
    refine X.lald 180 i216_179 rfl rfl (by decide) rfl (by omega) ?_
    refine X.lload 182 i216_180 rfl rfl rfl ?_
    refine X.llF 183 .ladd (fun x y => x + y) i216_182 rfl rfl rfl (fun _ _ => rfl) (fun z594 hz594 => ?_)
    refine X.last' 184 i216_183 rfl rfl (by decide) rfl (by omega) (fun hrm595 m595 hm595 => ?_)
    have hJ596 := w45_19 hJ593 hm595 (by omega) hrm595
    have km595 : ∀ g, m595 g 8 9 = m592 g 8 9 := fun g9 => by rw [hm595]; exact z_upd_o _ _ rfl
    refine X.retv i216_184 rfl t216 ?_
    exact hQ  m595  (hJ596.up (by omega)) (fun g => by simp only [km551, km554, km566, km569, km572, km575, km582, km587, km592, km595]) 
-- WorkMeterModel.registers
theorem c216_4 {s : Nat × (Nat → Int32)} {m0 m : zM} {B : Int} {d : Nat} {Q : Option zV → zM → Prop} (g0 : Nat) (a1 a2 a3 : Int) (hd : 16 ≤ d) (hJ : J m0 B m) (hB : B + 0 ≤ 1000000000) (ha1 : a1 ≤ (-1)) (ha3 : 0 ≤ a3 ∧ a3 ≤ 3000000000) (hQ : ∀ m', J m0 (B) m' → (∀ g, m' g 8 9 = m g 8 9) → Q none m') : X (EE s) d 216 0 [(0, zr g0 44), (1, zl a1), (3, zl a2), (5, zl a3)] [] m Q := by
  refine X.aload_n 1 i216_0 rfl rfl rfl ?_
  refine X.aload_n 2 i216_1 rfl rfl rfl ?_
  refine X.getF 5 i216_2 rfl rfl (by decide) rfl rfl ?_
  refine X.iconst 6 i216_5 rfl rfl (by decide) ?_
  refine X.lald 7 i216_6 rfl rfl (by decide) rfl (by omega) ?_
  have h501 := r45_0 hJ 4
  refine X.l2i 8 i216_7 rfl rfl (by omega) ?_
  refine X.callv 11 [zi (m 4 45 0)] [] [(0, zr g0 44), (1, zi (m 4 45 0))] i216_8 rfl (by decide) rfl rfl (by omega) rfl rfl (by decide) rfl t217 (Nat.le_of_ble_eq_true rfl) (Nat.le_of_ble_eq_true rfl) rfl ?_
  refine c217_1 (B := B) g0 (m 4 45 0) (by omega) (hJ.up (by omega)) (by omega) (by omega) (fun v504 hv504 => ?_)
  show X (EE s) d 216 11 [(0, zr g0 44), (1, zl a1), (3, zl a2), (5, zl a3)] [zi v504] m _
  refine X.istore 13 [(0, zr g0 44), (1, zl a1), (3, zl a2), (5, zl a3), (7, zi v504)] i216_11 rfl rfl rfl ?_
  refine X.aload_n 14 i216_13 rfl rfl rfl ?_
  refine X.getF 17 i216_14 rfl rfl (by decide) rfl rfl ?_
  refine X.bipush 19 i216_17 rfl rfl (by decide) ?_
  refine X.iload 21 i216_19 rfl rfl rfl ?_
  refine X.iadd 22 i216_21 rfl rfl (by omega) ?_
  refine X.lald 23 i216_22 rfl rfl (by decide) rfl (by omega) ?_
  refine X.aload_n 24 i216_23 rfl rfl rfl ?_
  refine X.getF 27 i216_24 rfl rfl (by decide) rfl rfl ?_
  refine X.iconst 28 i216_27 rfl rfl (by decide) ?_
  refine X.lald 29 i216_28 rfl rfl (by decide) rfl (by omega) ?_
  have h505 := r45_5 hJ 4
  refine X.ldivF 30 i216_29 rfl rfl (by omega) (fun z506 => ?_)
  refine X.lstore 32 [(0, zr g0 44), (1, zl a1), (3, zl a2), (5, zl a3), (7, zi v504), (8, zl z506)] i216_30 rfl rfl rfl ?_
  refine X.lload_n 33 i216_32 rfl rfl rfl ?_
  refine X.lconst (y := 0) 34 i216_33 rfl rfl rfl ?_
  refine X.lcmp 35 i216_34 rfl rfl (fun z507 hz507 => ?_)
  refine X.ifle 46 38 i216_35 rfl rfl rfl (fun h508 => ?_) (fun h508 => (by exfalso; omega))
  have h508c : a1 ≤ 0 := by omega
  clear h508 hz507
  refine X.lload_n 47 i216_46 rfl rfl rfl ?_
  refine X.lconst (y := 0) 48 i216_47 rfl rfl rfl ?_
  refine X.lcmp 49 i216_48 rfl rfl (fun z509 hz509 => ?_)
  refine X.ifge 61 52 i216_49 rfl rfl rfl (fun h510 => (by exfalso; omega)) (fun h510 => ?_)
  have h510c : a1 < 0 := by omega
  clear h510 hz509
  refine X.aload_n 53 i216_52 rfl rfl rfl ?_
  refine X.iconst 54 i216_53 rfl rfl (by decide) ?_
  refine X.iload 56 i216_54 rfl rfl rfl ?_
  refine X.lload_n 57 i216_56 rfl rfl rfl ?_
  refine X.lnegF 58 i216_57 rfl rfl (fun z511 hz511 => ?_)
  refine X.callv 61 [zi 1, zi v504, zl z511] [] [(0, zr g0 44), (1, zi 1), (2, zi v504), (3, zl z511)] i216_58 rfl (by decide) rfl rfl (by omega) rfl rfl (by decide) rfl t220 (Nat.le_of_ble_eq_true rfl) (Nat.le_of_ble_eq_true rfl) rfl ?_
  refine X.aload_n 1 i220_0 rfl rfl rfl ?_
  refine X.getF 4 i220_1 rfl rfl (by decide) rfl rfl ?_
  refine X.bipush 6 i220_4 rfl rfl (by decide) ?_
  refine X.iconst 7 i220_6 rfl rfl (by decide) ?_
  refine X.iload_n 8 i220_7 rfl rfl rfl ?_
  refine X.imul 9 i220_8 rfl rfl (by omega) ?_
  refine X.iadd 10 i220_9 rfl rfl (by omega) ?_
  refine X.iload_n 11 i220_10 rfl rfl rfl ?_
  refine X.iadd 12 i220_11 rfl rfl (by omega) ?_
  refine X.dup2 13 i220_12 rfl rfl ?_
  refine X.lald 14 i220_13 rfl rfl (by decide) rfl (by omega) ?_
  refine X.lload_n 15 i220_14 rfl rfl rfl ?_
  refine X.llF 16 .ladd (fun x y => x + y) i220_15 rfl rfl rfl (fun _ _ => rfl) (fun z512 hz512 => ?_)
  refine X.last' 17 i220_16 rfl rfl (by decide) rfl (by omega) (fun hrm513 m513 hm513 => ?_)
  have hJ514 := w45_19 hJ hm513 (by omega) hrm513
  have km513 : ∀ g, m513 g 8 9 = m g 8 9 := fun g9 => by rw [hm513]; exact z_upd_o _ _ rfl
  refine X.aload_n 18 i220_17 rfl rfl rfl ?_
  refine X.getF 21 i220_18 rfl rfl (by decide) rfl rfl ?_
  refine X.bipush 23 i220_21 rfl rfl (by decide) ?_
  refine X.iconst 24 i220_23 rfl rfl (by decide) ?_
  refine X.iload_n 25 i220_24 rfl rfl rfl ?_
  refine X.imul 26 i220_25 rfl rfl (by omega) ?_
  refine X.iadd 27 i220_26 rfl rfl (by omega) ?_
  refine X.iconst 28 i220_27 rfl rfl (by decide) ?_
  refine X.iadd 29 i220_28 rfl rfl (by omega) ?_
  refine X.dup2 30 i220_29 rfl rfl ?_
  refine X.lald 31 i220_30 rfl rfl (by decide) rfl (by omega) ?_
  refine X.lload_n 32 i220_31 rfl rfl rfl ?_
  refine X.llF 33 .ladd (fun x y => x + y) i220_32 rfl rfl rfl (fun _ _ => rfl) (fun z515 hz515 => ?_)
  refine X.last' 34 i220_33 rfl rfl (by decide) rfl (by omega) (fun hrm516 m516 hm516 => ?_)
  have hJ517 := w45_19 hJ514 hm516 (by omega) hrm516
  have km516 : ∀ g, m516 g 8 9 = m513 g 8 9 := fun g9 => by rw [hm516]; exact z_upd_o _ _ rfl
  refine X.retv i220_34 rfl t220 ?_
  show X (EE s) d 216 61 [(0, zr g0 44), (1, zl a1), (3, zl a2), (5, zl a3), (7, zi v504), (8, zl z506)] [] m516 _
  refine X.aload_n 62 i216_61 rfl rfl rfl ?_
  refine X.iconst 63 i216_62 rfl rfl (by decide) ?_
  refine X.lload_n 64 i216_63 rfl rfl rfl ?_
  refine X.lload_n 65 i216_64 rfl rfl rfl ?_
  refine X.calls 68 [zl a1, zl a2] [zi 1, zr g0 44] [(0, zl a1), (2, zl a2)] i216_65 (by decide) rfl rfl (by omega) rfl rfl t221 (Nat.le_of_ble_eq_true rfl) (Nat.le_of_ble_eq_true rfl) rfl ?_
  refine X.lload_n 1 i221_0 rfl rfl rfl ?_
  refine X.lconst (y := 0) 2 i221_1 rfl rfl rfl ?_
  refine X.lcmp 3 i221_2 rfl rfl (fun z518 hz518 => ?_)
  refine X.iflt 20 6 i221_3 rfl rfl rfl (fun h519 => ?_) (fun h519 => (by exfalso; omega))
  have h519c : a1 < 0 := by omega
  clear h519 hz518
  refine X.cut [(2, zl a2)] i221_20 rfl ?_
  refine X.lload_n 21 i221_20 rfl rfl rfl ?_
  refine X.lconst (y := 0) 22 i221_21 rfl rfl rfl ?_
  refine X.lcmp 23 i221_22 rfl rfl (fun z520 hz520 => ?_)
  refine X.iflt 30 26 i221_23 rfl rfl rfl (fun h521 => ?_) (fun h521 => ?_)
  · have h521c : a2 < 0 := by omega
    clear h521 hz520
    refine X.cut [] i221_30 rfl ?_
    refine X.iconst 31 i221_30 rfl rfl (by decide) ?_
    refine X.reti i221_31 rfl t221 ?_
    show X (EE s) d 216 68 [(0, zr g0 44), (1, zl a1), (3, zl a2), (5, zl a3), (7, zi v504), (8, zl z506)] [zi 3, zi 1, zr g0 44] m516 _
    refine X.iadd 69 i216_68 rfl rfl (by omega) ?_
    refine X.iload 71 i216_69 rfl rfl rfl ?_
    refine X.lload_n 72 i216_71 rfl rfl rfl ?_
    refine X.calls 75 [zl a2] [zi v504, zi (1 + 3), zr g0 44] [(0, zl a2)] i216_72 (by decide) rfl rfl (by omega) rfl rfl t215 (Nat.le_of_ble_eq_true rfl) (Nat.le_of_ble_eq_true rfl) rfl ?_
    refine X.lload_n 1 i215_0 rfl rfl rfl ?_
    refine X.lconst (y := 0) 2 i215_1 rfl rfl rfl ?_
    refine X.lcmp 3 i215_2 rfl rfl (fun z522 hz522 => ?_)
    refine X.ifge 11 6 i215_3 rfl rfl rfl (fun h523 => (by exfalso; omega)) (fun h523 => ?_)
    have h523c : a2 < 0 := by omega
    clear h523 hz522
    refine X.lload_n 7 i215_6 rfl rfl rfl ?_
    refine X.lnegF 8 i215_7 rfl rfl (fun z524 hz524 => ?_)
    refine X.goto 12 i215_8 rfl rfl ?_
    refine X.cut [] i215_12 rfl ?_
    refine X.retl i215_12 rfl t215 ?_
    show X (EE s) d 216 75 [(0, zr g0 44), (1, zl a1), (3, zl a2), (5, zl a3), (7, zi v504), (8, zl z506)] [zl z524, zi v504, zi (1 + 3), zr g0 44] m516 _
    refine X.callv 78 [zi (1 + 3), zi v504, zl z524] [] [(0, zr g0 44), (1, zi (1 + 3)), (2, zi v504), (3, zl z524)] i216_75 rfl (by decide) rfl rfl (by omega) rfl rfl (by decide) rfl t220 (Nat.le_of_ble_eq_true rfl) (Nat.le_of_ble_eq_true rfl) rfl ?_
    refine X.aload_n 1 i220_0 rfl rfl rfl ?_
    refine X.getF 4 i220_1 rfl rfl (by decide) rfl rfl ?_
    refine X.bipush 6 i220_4 rfl rfl (by decide) ?_
    refine X.iconst 7 i220_6 rfl rfl (by decide) ?_
    refine X.iload_n 8 i220_7 rfl rfl rfl ?_
    refine X.imul 9 i220_8 rfl rfl (by omega) ?_
    refine X.iadd 10 i220_9 rfl rfl (by omega) ?_
    refine X.iload_n 11 i220_10 rfl rfl rfl ?_
    refine X.iadd 12 i220_11 rfl rfl (by omega) ?_
    refine X.dup2 13 i220_12 rfl rfl ?_
    refine X.lald 14 i220_13 rfl rfl (by decide) rfl (by omega) ?_
    refine X.lload_n 15 i220_14 rfl rfl rfl ?_
    refine X.llF 16 .ladd (fun x y => x + y) i220_15 rfl rfl rfl (fun _ _ => rfl) (fun z525 hz525 => ?_)
    refine X.last' 17 i220_16 rfl rfl (by decide) rfl (by omega) (fun hrm526 m526 hm526 => ?_)
    have hJ527 := w45_19 hJ517 hm526 (by omega) hrm526
    have km526 : ∀ g, m526 g 8 9 = m516 g 8 9 := fun g9 => by rw [hm526]; exact z_upd_o _ _ rfl
    refine X.aload_n 18 i220_17 rfl rfl rfl ?_
    refine X.getF 21 i220_18 rfl rfl (by decide) rfl rfl ?_
    refine X.bipush 23 i220_21 rfl rfl (by decide) ?_
    refine X.iconst 24 i220_23 rfl rfl (by decide) ?_
    refine X.iload_n 25 i220_24 rfl rfl rfl ?_
    refine X.imul 26 i220_25 rfl rfl (by omega) ?_
    refine X.iadd 27 i220_26 rfl rfl (by omega) ?_
    refine X.iconst 28 i220_27 rfl rfl (by decide) ?_
    refine X.iadd 29 i220_28 rfl rfl (by omega) ?_
    refine X.dup2 30 i220_29 rfl rfl ?_
    refine X.lald 31 i220_30 rfl rfl (by decide) rfl (by omega) ?_
    refine X.lload_n 32 i220_31 rfl rfl rfl ?_
    refine X.llF 33 .ladd (fun x y => x + y) i220_32 rfl rfl rfl (fun _ _ => rfl) (fun z528 hz528 => ?_)
    refine X.last' 34 i220_33 rfl rfl (by decide) rfl (by omega) (fun hrm529 m529 hm529 => ?_)
    have hJ530 := w45_19 hJ527 hm529 (by omega) hrm529
    have km529 : ∀ g, m529 g 8 9 = m526 g 8 9 := fun g9 => by rw [hm529]; exact z_upd_o _ _ rfl
    refine X.retv i220_34 rfl t220 ?_
    show X (EE s) d 216 78 [(0, zr g0 44), (1, zl a1), (3, zl a2), (5, zl a3), (7, zi v504), (8, zl z506)] [] m529 _
    refine X.aload_n 79 i216_78 rfl rfl rfl ?_
    refine X.bipush 81 i216_79 rfl rfl (by decide) ?_
    refine X.iload 83 i216_81 rfl rfl rfl ?_
    refine X.lload 85 i216_83 rfl rfl rfl ?_
    refine X.callv 88 [zi 6, zi v504, zl a3] [] [(0, zr g0 44), (1, zi 6), (2, zi v504), (3, zl a3)] i216_85 rfl (by decide) rfl rfl (by omega) rfl rfl (by decide) rfl t220 (Nat.le_of_ble_eq_true rfl) (Nat.le_of_ble_eq_true rfl) rfl ?_
    refine X.aload_n 1 i220_0 rfl rfl rfl ?_
    refine X.getF 4 i220_1 rfl rfl (by decide) rfl rfl ?_
    refine X.bipush 6 i220_4 rfl rfl (by decide) ?_
    refine X.iconst 7 i220_6 rfl rfl (by decide) ?_
    refine X.iload_n 8 i220_7 rfl rfl rfl ?_
    refine X.imul 9 i220_8 rfl rfl (by omega) ?_
    refine X.iadd 10 i220_9 rfl rfl (by omega) ?_
    refine X.iload_n 11 i220_10 rfl rfl rfl ?_
    refine X.iadd 12 i220_11 rfl rfl (by omega) ?_
    refine X.dup2 13 i220_12 rfl rfl ?_
    refine X.lald 14 i220_13 rfl rfl (by decide) rfl (by omega) ?_
    refine X.lload_n 15 i220_14 rfl rfl rfl ?_
    refine X.llF 16 .ladd (fun x y => x + y) i220_15 rfl rfl rfl (fun _ _ => rfl) (fun z531 hz531 => ?_)
    refine X.last' 17 i220_16 rfl rfl (by decide) rfl (by omega) (fun hrm532 m532 hm532 => ?_)
    have hJ533 := w45_19 hJ530 hm532 (by omega) hrm532
    have km532 : ∀ g, m532 g 8 9 = m529 g 8 9 := fun g9 => by rw [hm532]; exact z_upd_o _ _ rfl
    refine X.aload_n 18 i220_17 rfl rfl rfl ?_
    refine X.getF 21 i220_18 rfl rfl (by decide) rfl rfl ?_
    refine X.bipush 23 i220_21 rfl rfl (by decide) ?_
    refine X.iconst 24 i220_23 rfl rfl (by decide) ?_
    refine X.iload_n 25 i220_24 rfl rfl rfl ?_
    refine X.imul 26 i220_25 rfl rfl (by omega) ?_
    refine X.iadd 27 i220_26 rfl rfl (by omega) ?_
    refine X.iconst 28 i220_27 rfl rfl (by decide) ?_
    refine X.iadd 29 i220_28 rfl rfl (by omega) ?_
    refine X.dup2 30 i220_29 rfl rfl ?_
    refine X.lald 31 i220_30 rfl rfl (by decide) rfl (by omega) ?_
    refine X.lload_n 32 i220_31 rfl rfl rfl ?_
    refine X.llF 33 .ladd (fun x y => x + y) i220_32 rfl rfl rfl (fun _ _ => rfl) (fun z534 hz534 => ?_)
    refine X.last' 34 i220_33 rfl rfl (by decide) rfl (by omega) (fun hrm535 m535 hm535 => ?_)
    have hJ536 := w45_19 hJ533 hm535 (by omega) hrm535
    have km535 : ∀ g, m535 g 8 9 = m532 g 8 9 := fun g9 => by rw [hm535]; exact z_upd_o _ _ rfl
    refine X.retv i220_34 rfl t220 ?_
    show X (EE s) d 216 88 [(0, zr g0 44), (1, zl a1), (3, zl a2), (5, zl a3), (7, zi v504), (8, zl z506)] [] m535 _
    refine X.aload_n 89 i216_88 rfl rfl rfl ?_
    refine X.getF 92 i216_89 rfl rfl (by decide) rfl rfl ?_
    refine X.bipush 94 i216_92 rfl rfl (by decide) ?_
    refine X.dup2 95 i216_94 rfl rfl ?_
    refine X.lald 96 i216_95 rfl rfl (by decide) rfl (by omega) ?_
    refine X.aload_n 97 i216_96 rfl rfl rfl ?_
    refine X.getF 100 i216_97 rfl rfl (by decide) rfl rfl ?_
    refine X.bipush 102 i216_100 rfl rfl (by decide) ?_
    refine X.iload 104 i216_102 rfl rfl rfl ?_
    refine X.iadd 105 i216_104 rfl rfl (by omega) ?_
    refine X.lald 106 i216_105 rfl rfl (by decide) rfl (by omega) ?_
    refine X.aload_n 107 i216_106 rfl rfl rfl ?_
    refine X.getF 110 i216_107 rfl rfl (by decide) rfl rfl ?_
    refine X.iconst 111 i216_110 rfl rfl (by decide) ?_
    refine X.lald 112 i216_111 rfl rfl (by decide) rfl (by omega) ?_
    have h537 := r45_5 hJ536 4
    refine X.ldivF 113 i216_112 rfl rfl (by omega) (fun z538 => ?_)
    refine X.lload 115 i216_113 rfl rfl rfl ?_
    refine X.llF 116 .lsub (fun x y => x - y) i216_115 rfl rfl rfl (fun _ _ => rfl) (fun z539 hz539 => ?_)
    refine X.aload_n 117 i216_116 rfl rfl rfl ?_
    refine X.getF 120 i216_117 rfl rfl (by decide) rfl rfl ?_
    refine X.bipush 122 i216_120 rfl rfl (by decide) ?_
    refine X.iload 124 i216_122 rfl rfl rfl ?_
    refine X.iadd 125 i216_124 rfl rfl (by omega) ?_
    refine X.lald 126 i216_125 rfl rfl (by decide) rfl (by omega) ?_
    refine X.llF 127 .lmul (fun x y => x * y) i216_126 rfl rfl rfl (fun _ _ => rfl) (fun z540 hz540 => ?_)
    refine X.llF 128 .lsub (fun x y => x - y) i216_127 rfl rfl rfl (fun _ _ => rfl) (fun z541 hz541 => ?_)
    refine X.last' 129 i216_128 rfl rfl (by decide) rfl (by omega) (fun hrm542 m542 hm542 => ?_)
    have hJ543 := w45_10 hJ536 hm542 hrm542
    have km542 : ∀ g, m542 g 8 9 = m535 g 8 9 := fun g9 => by rw [hm542]; exact z_upd_o _ _ rfl
    refine X.aload_n 130 i216_129 rfl rfl rfl ?_
    refine X.getF 133 i216_130 rfl rfl (by decide) rfl rfl ?_
    refine X.bipush 135 i216_133 rfl rfl (by decide) ?_
    refine X.dup2 136 i216_135 rfl rfl ?_
    refine X.lald 137 i216_136 rfl rfl (by decide) rfl (by omega) ?_
    refine X.lload_n 138 i216_137 rfl rfl rfl ?_
    refine X.lconst (y := 0) 139 i216_138 rfl rfl rfl ?_
    refine X.lcmp 140 i216_139 rfl rfl (fun z544 hz544 => ?_)
    refine X.ifle 147 143 i216_140 rfl rfl rfl (fun h545 => ?_) (fun h545 => (by exfalso; omega))
    have h545c : a1 ≤ 0 := by omega
    clear h545 hz544
    refine X.cut [(0, zr g0 44), (1, zl a1), (5, zl a3)] i216_147 rfl ?_
    refine X.lconst (y := 0) 148 i216_147 rfl rfl rfl ?_
    refine X.llF 149 .ladd (fun x y => x + y) i216_148 rfl rfl rfl (fun _ _ => rfl) (fun z546 hz546 => ?_)
    refine X.last' 150 i216_149 rfl rfl (by decide) rfl (by omega) (fun hrm547 m547 hm547 => ?_)
    have hJ548 := w45_19 hJ543 hm547 (by omega) hrm547
    have km547 : ∀ g, m547 g 8 9 = m542 g 8 9 := fun g9 => by rw [hm547]; exact z_upd_o _ _ rfl
    refine X.aload_n 151 i216_150 rfl rfl rfl ?_
    refine X.getF 154 i216_151 rfl rfl (by decide) rfl rfl ?_
    refine X.bipush 156 i216_154 rfl rfl (by decide) ?_
    refine X.dup2 157 i216_156 rfl rfl ?_
    refine X.lald 158 i216_157 rfl rfl (by decide) rfl (by omega) ?_
    refine X.lload_n 159 i216_158 rfl rfl rfl ?_
    refine X.lconst (y := 0) 160 i216_159 rfl rfl rfl ?_
    refine X.lcmp 161 i216_160 rfl rfl (fun z549 hz549 => ?_)
    refine X.ifge 169 164 i216_161 rfl rfl rfl (fun h550 => (by exfalso; omega)) (fun h550 => ?_)
    have h550c : a1 < 0 := by omega
    clear h550 hz549
    refine X.lload_n 165 i216_164 rfl rfl rfl ?_
    refine X.lnegF 166 i216_165 rfl rfl (fun z551 hz551 => ?_)
    refine X.goto 170 i216_166 rfl rfl ?_
    refine X.cut [(0, zr g0 44), (5, zl a3)] i216_170 rfl ?_
    refine X.llF 171 .ladd (fun x y => x + y) i216_170 rfl rfl rfl (fun _ _ => rfl) (fun z552 hz552 => ?_)
    refine X.last' 172 i216_171 rfl rfl (by decide) rfl (by omega) (fun hrm553 m553 hm553 => ?_)
    have hJ554 := w45_19 hJ548 hm553 (by omega) hrm553
    have km553 : ∀ g, m553 g 8 9 = m547 g 8 9 := fun g9 => by rw [hm553]; exact z_upd_o _ _ rfl
    refine X.aload_n 173 i216_172 rfl rfl rfl ?_
    refine X.getF 176 i216_173 rfl rfl (by decide) rfl rfl ?_
    refine X.bipush 178 i216_176 rfl rfl (by decide) ?_
    refine X.dup2 179 i216_178 rfl rfl ?_
    refine X.lald 180 i216_179 rfl rfl (by decide) rfl (by omega) ?_
    refine X.lload 182 i216_180 rfl rfl rfl ?_
    refine X.llF 183 .ladd (fun x y => x + y) i216_182 rfl rfl rfl (fun _ _ => rfl) (fun z555 hz555 => ?_)
    refine X.last' 184 i216_183 rfl rfl (by decide) rfl (by omega) (fun hrm556 m556 hm556 => ?_)
    have hJ557 := w45_19 hJ554 hm556 (by omega) hrm556
    have km556 : ∀ g, m556 g 8 9 = m553 g 8 9 := fun g9 => by rw [hm556]; exact z_upd_o _ _ rfl
    refine X.retv i216_184 rfl t216 ?_
    exact hQ  m556  (hJ557.up (by omega)) (fun g => by simp only [km513, km516, km526, km529, km532, km535, km542, km547, km553, km556]) 
  · have h521c : a2 ≥ 0 := by omega
    clear h521 hz520
    refine X.iconst 27 i221_26 rfl rfl (by decide) ?_
    refine X.goto 31 i221_27 rfl rfl ?_
    refine X.cut [] i221_31 rfl ?_
    refine X.reti i221_31 rfl t221 ?_
    show X (EE s) d 216 68 [(0, zr g0 44), (1, zl a1), (3, zl a2), (5, zl a3), (7, zi v504), (8, zl z506)] [zi 2, zi 1, zr g0 44] m516 _
    refine X.iadd 69 i216_68 rfl rfl (by omega) ?_
    refine X.iload 71 i216_69 rfl rfl rfl ?_
    refine X.lload_n 72 i216_71 rfl rfl rfl ?_
    refine X.calls 75 [zl a2] [zi v504, zi (1 + 2), zr g0 44] [(0, zl a2)] i216_72 (by decide) rfl rfl (by omega) rfl rfl t215 (Nat.le_of_ble_eq_true rfl) (Nat.le_of_ble_eq_true rfl) rfl ?_
    refine X.lload_n 1 i215_0 rfl rfl rfl ?_
    refine X.lconst (y := 0) 2 i215_1 rfl rfl rfl ?_
    refine X.lcmp 3 i215_2 rfl rfl (fun z558 hz558 => ?_)
    refine X.ifge 11 6 i215_3 rfl rfl rfl (fun h559 => ?_) (fun h559 => (by exfalso; omega))
    have h559c : a2 ≥ 0 := by omega
    clear h559 hz558
    refine X.lload_n 12 i215_11 rfl rfl rfl ?_
    refine X.cut [] i215_12 rfl ?_
    refine X.retl i215_12 rfl t215 ?_
    show X (EE s) d 216 75 [(0, zr g0 44), (1, zl a1), (3, zl a2), (5, zl a3), (7, zi v504), (8, zl z506)] [zl a2, zi v504, zi (1 + 2), zr g0 44] m516 _
    refine X.callv 78 [zi (1 + 2), zi v504, zl a2] [] [(0, zr g0 44), (1, zi (1 + 2)), (2, zi v504), (3, zl a2)] i216_75 rfl (by decide) rfl rfl (by omega) rfl rfl (by decide) rfl t220 (Nat.le_of_ble_eq_true rfl) (Nat.le_of_ble_eq_true rfl) rfl ?_
    refine X.aload_n 1 i220_0 rfl rfl rfl ?_
    refine X.getF 4 i220_1 rfl rfl (by decide) rfl rfl ?_
    refine X.bipush 6 i220_4 rfl rfl (by decide) ?_
    refine X.iconst 7 i220_6 rfl rfl (by decide) ?_
    refine X.iload_n 8 i220_7 rfl rfl rfl ?_
    refine X.imul 9 i220_8 rfl rfl (by omega) ?_
    refine X.iadd 10 i220_9 rfl rfl (by omega) ?_
    refine X.iload_n 11 i220_10 rfl rfl rfl ?_
    refine X.iadd 12 i220_11 rfl rfl (by omega) ?_
    refine X.dup2 13 i220_12 rfl rfl ?_
    refine X.lald 14 i220_13 rfl rfl (by decide) rfl (by omega) ?_
    refine X.lload_n 15 i220_14 rfl rfl rfl ?_
    refine X.llF 16 .ladd (fun x y => x + y) i220_15 rfl rfl rfl (fun _ _ => rfl) (fun z560 hz560 => ?_)
    refine X.last' 17 i220_16 rfl rfl (by decide) rfl (by omega) (fun hrm561 m561 hm561 => ?_)
    have hJ562 := w45_19 hJ517 hm561 (by omega) hrm561
    have km561 : ∀ g, m561 g 8 9 = m516 g 8 9 := fun g9 => by rw [hm561]; exact z_upd_o _ _ rfl
    refine X.aload_n 18 i220_17 rfl rfl rfl ?_
    refine X.getF 21 i220_18 rfl rfl (by decide) rfl rfl ?_
    refine X.bipush 23 i220_21 rfl rfl (by decide) ?_
    refine X.iconst 24 i220_23 rfl rfl (by decide) ?_
    refine X.iload_n 25 i220_24 rfl rfl rfl ?_
    refine X.imul 26 i220_25 rfl rfl (by omega) ?_
    refine X.iadd 27 i220_26 rfl rfl (by omega) ?_
    refine X.iconst 28 i220_27 rfl rfl (by decide) ?_
    refine X.iadd 29 i220_28 rfl rfl (by omega) ?_
    refine X.dup2 30 i220_29 rfl rfl ?_
    refine X.lald 31 i220_30 rfl rfl (by decide) rfl (by omega) ?_
    refine X.lload_n 32 i220_31 rfl rfl rfl ?_
    refine X.llF 33 .ladd (fun x y => x + y) i220_32 rfl rfl rfl (fun _ _ => rfl) (fun z563 hz563 => ?_)
    refine X.last' 34 i220_33 rfl rfl (by decide) rfl (by omega) (fun hrm564 m564 hm564 => ?_)
    have hJ565 := w45_19 hJ562 hm564 (by omega) hrm564
    have km564 : ∀ g, m564 g 8 9 = m561 g 8 9 := fun g9 => by rw [hm564]; exact z_upd_o _ _ rfl
    refine X.retv i220_34 rfl t220 ?_
    show X (EE s) d 216 78 [(0, zr g0 44), (1, zl a1), (3, zl a2), (5, zl a3), (7, zi v504), (8, zl z506)] [] m564 _
    refine X.aload_n 79 i216_78 rfl rfl rfl ?_
    refine X.bipush 81 i216_79 rfl rfl (by decide) ?_
    refine X.iload 83 i216_81 rfl rfl rfl ?_
    refine X.lload 85 i216_83 rfl rfl rfl ?_
    refine X.callv 88 [zi 6, zi v504, zl a3] [] [(0, zr g0 44), (1, zi 6), (2, zi v504), (3, zl a3)] i216_85 rfl (by decide) rfl rfl (by omega) rfl rfl (by decide) rfl t220 (Nat.le_of_ble_eq_true rfl) (Nat.le_of_ble_eq_true rfl) rfl ?_
    refine X.aload_n 1 i220_0 rfl rfl rfl ?_
    refine X.getF 4 i220_1 rfl rfl (by decide) rfl rfl ?_
    refine X.bipush 6 i220_4 rfl rfl (by decide) ?_
    refine X.iconst 7 i220_6 rfl rfl (by decide) ?_
    refine X.iload_n 8 i220_7 rfl rfl rfl ?_
    refine X.imul 9 i220_8 rfl rfl (by omega) ?_
    refine X.iadd 10 i220_9 rfl rfl (by omega) ?_
    refine X.iload_n 11 i220_10 rfl rfl rfl ?_
    refine X.iadd 12 i220_11 rfl rfl (by omega) ?_
    refine X.dup2 13 i220_12 rfl rfl ?_
    refine X.lald 14 i220_13 rfl rfl (by decide) rfl (by omega) ?_
    refine X.lload_n 15 i220_14 rfl rfl rfl ?_
    refine X.llF 16 .ladd (fun x y => x + y) i220_15 rfl rfl rfl (fun _ _ => rfl) (fun z566 hz566 => ?_)
    refine X.last' 17 i220_16 rfl rfl (by decide) rfl (by omega) (fun hrm567 m567 hm567 => ?_)
    have hJ568 := w45_19 hJ565 hm567 (by omega) hrm567
    have km567 : ∀ g, m567 g 8 9 = m564 g 8 9 := fun g9 => by rw [hm567]; exact z_upd_o _ _ rfl
    refine X.aload_n 18 i220_17 rfl rfl rfl ?_
    refine X.getF 21 i220_18 rfl rfl (by decide) rfl rfl ?_
    refine X.bipush 23 i220_21 rfl rfl (by decide) ?_
    refine X.iconst 24 i220_23 rfl rfl (by decide) ?_
    refine X.iload_n 25 i220_24 rfl rfl rfl ?_
    refine X.imul 26 i220_25 rfl rfl (by omega) ?_
    refine X.iadd 27 i220_26 rfl rfl (by omega) ?_
    refine X.iconst 28 i220_27 rfl rfl (by decide) ?_
    refine X.iadd 29 i220_28 rfl rfl (by omega) ?_
    refine X.dup2 30 i220_29 rfl rfl ?_
    refine X.lald 31 i220_30 rfl rfl (by decide) rfl (by omega) ?_
    refine X.lload_n 32 i220_31 rfl rfl rfl ?_
    refine X.llF 33 .ladd (fun x y => x + y) i220_32 rfl rfl rfl (fun _ _ => rfl) (fun z569 hz569 => ?_)
    refine X.last' 34 i220_33 rfl rfl (by decide) rfl (by omega) (fun hrm570 m570 hm570 => ?_)
    have hJ571 := w45_19 hJ568 hm570 (by omega) hrm570
    have km570 : ∀ g, m570 g 8 9 = m567 g 8 9 := fun g9 => by rw [hm570]; exact z_upd_o _ _ rfl
    refine X.retv i220_34 rfl t220 ?_
    show X (EE s) d 216 88 [(0, zr g0 44), (1, zl a1), (3, zl a2), (5, zl a3), (7, zi v504), (8, zl z506)] [] m570 _
    refine X.aload_n 89 i216_88 rfl rfl rfl ?_
    refine X.getF 92 i216_89 rfl rfl (by decide) rfl rfl ?_
    refine X.bipush 94 i216_92 rfl rfl (by decide) ?_
    refine X.dup2 95 i216_94 rfl rfl ?_
    refine X.lald 96 i216_95 rfl rfl (by decide) rfl (by omega) ?_
    refine X.aload_n 97 i216_96 rfl rfl rfl ?_
    refine X.getF 100 i216_97 rfl rfl (by decide) rfl rfl ?_
    refine X.bipush 102 i216_100 rfl rfl (by decide) ?_
    refine X.iload 104 i216_102 rfl rfl rfl ?_
    refine X.iadd 105 i216_104 rfl rfl (by omega) ?_
    refine X.lald 106 i216_105 rfl rfl (by decide) rfl (by omega) ?_
    refine X.aload_n 107 i216_106 rfl rfl rfl ?_
    refine X.getF 110 i216_107 rfl rfl (by decide) rfl rfl ?_
    refine X.iconst 111 i216_110 rfl rfl (by decide) ?_
    refine X.lald 112 i216_111 rfl rfl (by decide) rfl (by omega) ?_
    have h572 := r45_5 hJ571 4
    refine X.ldivF 113 i216_112 rfl rfl (by omega) (fun z573 => ?_)
    refine X.lload 115 i216_113 rfl rfl rfl ?_
    refine X.llF 116 .lsub (fun x y => x - y) i216_115 rfl rfl rfl (fun _ _ => rfl) (fun z574 hz574 => ?_)
    refine X.aload_n 117 i216_116 rfl rfl rfl ?_
    refine X.getF 120 i216_117 rfl rfl (by decide) rfl rfl ?_
    refine X.bipush 122 i216_120 rfl rfl (by decide) ?_
    refine X.iload 124 i216_122 rfl rfl rfl ?_
    refine X.iadd 125 i216_124 rfl rfl (by omega) ?_
    refine X.lald 126 i216_125 rfl rfl (by decide) rfl (by omega) ?_
    refine X.llF 127 .lmul (fun x y => x * y) i216_126 rfl rfl rfl (fun _ _ => rfl) (fun z575 hz575 => ?_)
    refine X.llF 128 .lsub (fun x y => x - y) i216_127 rfl rfl rfl (fun _ _ => rfl) (fun z576 hz576 => ?_)
    refine X.last' 129 i216_128 rfl rfl (by decide) rfl (by omega) (fun hrm577 m577 hm577 => ?_)
    have hJ578 := w45_10 hJ571 hm577 hrm577
    have km577 : ∀ g, m577 g 8 9 = m570 g 8 9 := fun g9 => by rw [hm577]; exact z_upd_o _ _ rfl
    refine X.aload_n 130 i216_129 rfl rfl rfl ?_
    refine X.getF 133 i216_130 rfl rfl (by decide) rfl rfl ?_
    refine X.bipush 135 i216_133 rfl rfl (by decide) ?_
    refine X.dup2 136 i216_135 rfl rfl ?_
    refine X.lald 137 i216_136 rfl rfl (by decide) rfl (by omega) ?_
    refine X.lload_n 138 i216_137 rfl rfl rfl ?_
    refine X.lconst (y := 0) 139 i216_138 rfl rfl rfl ?_
    refine X.lcmp 140 i216_139 rfl rfl (fun z579 hz579 => ?_)
    refine X.ifle 147 143 i216_140 rfl rfl rfl (fun h580 => ?_) (fun h580 => (by exfalso; omega))
    have h580c : a1 ≤ 0 := by omega
    clear h580 hz579
    refine X.cut [(0, zr g0 44), (1, zl a1), (5, zl a3)] i216_147 rfl ?_
    refine X.lconst (y := 0) 148 i216_147 rfl rfl rfl ?_
    refine X.llF 149 .ladd (fun x y => x + y) i216_148 rfl rfl rfl (fun _ _ => rfl) (fun z581 hz581 => ?_)
    refine X.last' 150 i216_149 rfl rfl (by decide) rfl (by omega) (fun hrm582 m582 hm582 => ?_)
    have hJ583 := w45_19 hJ578 hm582 (by omega) hrm582
    have km582 : ∀ g, m582 g 8 9 = m577 g 8 9 := fun g9 => by rw [hm582]; exact z_upd_o _ _ rfl
    refine X.aload_n 151 i216_150 rfl rfl rfl ?_
    refine X.getF 154 i216_151 rfl rfl (by decide) rfl rfl ?_
    refine X.bipush 156 i216_154 rfl rfl (by decide) ?_
    refine X.dup2 157 i216_156 rfl rfl ?_
    refine X.lald 158 i216_157 rfl rfl (by decide) rfl (by omega) ?_
    refine X.lload_n 159 i216_158 rfl rfl rfl ?_
    refine X.lconst (y := 0) 160 i216_159 rfl rfl rfl ?_
    refine X.lcmp 161 i216_160 rfl rfl (fun z584 hz584 => ?_)
    refine X.ifge 169 164 i216_161 rfl rfl rfl (fun h585 => (by exfalso; omega)) (fun h585 => ?_)
    have h585c : a1 < 0 := by omega
    clear h585 hz584
    refine X.lload_n 165 i216_164 rfl rfl rfl ?_
    refine X.lnegF 166 i216_165 rfl rfl (fun z586 hz586 => ?_)
    refine X.goto 170 i216_166 rfl rfl ?_
    refine X.cut [(0, zr g0 44), (5, zl a3)] i216_170 rfl ?_
    refine X.llF 171 .ladd (fun x y => x + y) i216_170 rfl rfl rfl (fun _ _ => rfl) (fun z587 hz587 => ?_)
    refine X.last' 172 i216_171 rfl rfl (by decide) rfl (by omega) (fun hrm588 m588 hm588 => ?_)
    have hJ589 := w45_19 hJ583 hm588 (by omega) hrm588
    have km588 : ∀ g, m588 g 8 9 = m582 g 8 9 := fun g9 => by rw [hm588]; exact z_upd_o _ _ rfl
    refine X.aload_n 173 i216_172 rfl rfl rfl ?_
    refine X.getF 176 i216_173 rfl rfl (by decide) rfl rfl ?_
    refine X.bipush 178 i216_176 rfl rfl (by decide) ?_
    refine X.dup2 179 i216_178 rfl rfl ?_
    refine X.lald 180 i216_179 rfl rfl (by decide) rfl (by omega) ?_
    refine X.lload 182 i216_180 rfl rfl rfl ?_
    refine X.llF 183 .ladd (fun x y => x + y) i216_182 rfl rfl rfl (fun _ _ => rfl) (fun z590 hz590 => ?_)
    refine X.last' 184 i216_183 rfl rfl (by decide) rfl (by omega) (fun hrm591 m591 hm591 => ?_)
    have hJ592 := w45_19 hJ589 hm591 (by omega) hrm591
    have km591 : ∀ g, m591 g 8 9 = m588 g 8 9 := fun g9 => by rw [hm591]; exact z_upd_o _ _ rfl
    refine X.retv i216_184 rfl t216 ?_
    exact hQ  m591  (hJ592.up (by omega)) (fun g => by simp only [km513, km516, km561, km564, km567, km570, km577, km582, km588, km591]) 
-- WorkMeterModel.registers
theorem c216_5 {s : Nat × (Nat → Int32)} {m0 m : zM} {B : Int} {d : Nat} {Q : Option zV → zM → Prop} (g0 : Nat) (a1 a2 a3 : Int) (hd : 16 ≤ d) (hJ : J m0 B m) (hB : B + 0 ≤ 1000000000) (ha1 : a1 ≤ (-1)) (ha2 : 0 ≤ a2) (ha3 : 0 ≤ a3 ∧ a3 ≤ 3000000000) (hQ : ∀ m', J m0 (B) m' → (∀ g, m' g 8 9 = m g 8 9) → Q none m') : X (EE s) d 216 0 [(0, zr g0 44), (1, zl a1), (3, zl a2), (5, zl a3)] [] m Q := by
  refine X.aload_n 1 i216_0 rfl rfl rfl ?_
  refine X.aload_n 2 i216_1 rfl rfl rfl ?_
  refine X.getF 5 i216_2 rfl rfl (by decide) rfl rfl ?_
  refine X.iconst 6 i216_5 rfl rfl (by decide) ?_
  refine X.lald 7 i216_6 rfl rfl (by decide) rfl (by omega) ?_
  have h501 := r45_0 hJ 4
  refine X.l2i 8 i216_7 rfl rfl (by omega) ?_
  refine X.callv 11 [zi (m 4 45 0)] [] [(0, zr g0 44), (1, zi (m 4 45 0))] i216_8 rfl (by decide) rfl rfl (by omega) rfl rfl (by decide) rfl t217 (Nat.le_of_ble_eq_true rfl) (Nat.le_of_ble_eq_true rfl) rfl ?_
  refine c217_1 (B := B) g0 (m 4 45 0) (by omega) (hJ.up (by omega)) (by omega) (by omega) (fun v504 hv504 => ?_)
  show X (EE s) d 216 11 [(0, zr g0 44), (1, zl a1), (3, zl a2), (5, zl a3)] [zi v504] m _
  refine X.istore 13 [(0, zr g0 44), (1, zl a1), (3, zl a2), (5, zl a3), (7, zi v504)] i216_11 rfl rfl rfl ?_
  refine X.aload_n 14 i216_13 rfl rfl rfl ?_
  refine X.getF 17 i216_14 rfl rfl (by decide) rfl rfl ?_
  refine X.bipush 19 i216_17 rfl rfl (by decide) ?_
  refine X.iload 21 i216_19 rfl rfl rfl ?_
  refine X.iadd 22 i216_21 rfl rfl (by omega) ?_
  refine X.lald 23 i216_22 rfl rfl (by decide) rfl (by omega) ?_
  refine X.aload_n 24 i216_23 rfl rfl rfl ?_
  refine X.getF 27 i216_24 rfl rfl (by decide) rfl rfl ?_
  refine X.iconst 28 i216_27 rfl rfl (by decide) ?_
  refine X.lald 29 i216_28 rfl rfl (by decide) rfl (by omega) ?_
  have h505 := r45_5 hJ 4
  refine X.ldivF 30 i216_29 rfl rfl (by omega) (fun z506 => ?_)
  refine X.lstore 32 [(0, zr g0 44), (1, zl a1), (3, zl a2), (5, zl a3), (7, zi v504), (8, zl z506)] i216_30 rfl rfl rfl ?_
  refine X.lload_n 33 i216_32 rfl rfl rfl ?_
  refine X.lconst (y := 0) 34 i216_33 rfl rfl rfl ?_
  refine X.lcmp 35 i216_34 rfl rfl (fun z507 hz507 => ?_)
  refine X.ifle 46 38 i216_35 rfl rfl rfl (fun h508 => ?_) (fun h508 => (by exfalso; omega))
  have h508c : a1 ≤ 0 := by omega
  clear h508 hz507
  refine X.lload_n 47 i216_46 rfl rfl rfl ?_
  refine X.lconst (y := 0) 48 i216_47 rfl rfl rfl ?_
  refine X.lcmp 49 i216_48 rfl rfl (fun z509 hz509 => ?_)
  refine X.ifge 61 52 i216_49 rfl rfl rfl (fun h510 => (by exfalso; omega)) (fun h510 => ?_)
  have h510c : a1 < 0 := by omega
  clear h510 hz509
  refine X.aload_n 53 i216_52 rfl rfl rfl ?_
  refine X.iconst 54 i216_53 rfl rfl (by decide) ?_
  refine X.iload 56 i216_54 rfl rfl rfl ?_
  refine X.lload_n 57 i216_56 rfl rfl rfl ?_
  refine X.lnegF 58 i216_57 rfl rfl (fun z511 hz511 => ?_)
  refine X.callv 61 [zi 1, zi v504, zl z511] [] [(0, zr g0 44), (1, zi 1), (2, zi v504), (3, zl z511)] i216_58 rfl (by decide) rfl rfl (by omega) rfl rfl (by decide) rfl t220 (Nat.le_of_ble_eq_true rfl) (Nat.le_of_ble_eq_true rfl) rfl ?_
  refine X.aload_n 1 i220_0 rfl rfl rfl ?_
  refine X.getF 4 i220_1 rfl rfl (by decide) rfl rfl ?_
  refine X.bipush 6 i220_4 rfl rfl (by decide) ?_
  refine X.iconst 7 i220_6 rfl rfl (by decide) ?_
  refine X.iload_n 8 i220_7 rfl rfl rfl ?_
  refine X.imul 9 i220_8 rfl rfl (by omega) ?_
  refine X.iadd 10 i220_9 rfl rfl (by omega) ?_
  refine X.iload_n 11 i220_10 rfl rfl rfl ?_
  refine X.iadd 12 i220_11 rfl rfl (by omega) ?_
  refine X.dup2 13 i220_12 rfl rfl ?_
  refine X.lald 14 i220_13 rfl rfl (by decide) rfl (by omega) ?_
  refine X.lload_n 15 i220_14 rfl rfl rfl ?_
  refine X.llF 16 .ladd (fun x y => x + y) i220_15 rfl rfl rfl (fun _ _ => rfl) (fun z512 hz512 => ?_)
  refine X.last' 17 i220_16 rfl rfl (by decide) rfl (by omega) (fun hrm513 m513 hm513 => ?_)
  have hJ514 := w45_19 hJ hm513 (by omega) hrm513
  have km513 : ∀ g, m513 g 8 9 = m g 8 9 := fun g9 => by rw [hm513]; exact z_upd_o _ _ rfl
  refine X.aload_n 18 i220_17 rfl rfl rfl ?_
  refine X.getF 21 i220_18 rfl rfl (by decide) rfl rfl ?_
  refine X.bipush 23 i220_21 rfl rfl (by decide) ?_
  refine X.iconst 24 i220_23 rfl rfl (by decide) ?_
  refine X.iload_n 25 i220_24 rfl rfl rfl ?_
  refine X.imul 26 i220_25 rfl rfl (by omega) ?_
  refine X.iadd 27 i220_26 rfl rfl (by omega) ?_
  refine X.iconst 28 i220_27 rfl rfl (by decide) ?_
  refine X.iadd 29 i220_28 rfl rfl (by omega) ?_
  refine X.dup2 30 i220_29 rfl rfl ?_
  refine X.lald 31 i220_30 rfl rfl (by decide) rfl (by omega) ?_
  refine X.lload_n 32 i220_31 rfl rfl rfl ?_
  refine X.llF 33 .ladd (fun x y => x + y) i220_32 rfl rfl rfl (fun _ _ => rfl) (fun z515 hz515 => ?_)
  refine X.last' 34 i220_33 rfl rfl (by decide) rfl (by omega) (fun hrm516 m516 hm516 => ?_)
  have hJ517 := w45_19 hJ514 hm516 (by omega) hrm516
  have km516 : ∀ g, m516 g 8 9 = m513 g 8 9 := fun g9 => by rw [hm516]; exact z_upd_o _ _ rfl
  refine X.retv i220_34 rfl t220 ?_
  show X (EE s) d 216 61 [(0, zr g0 44), (1, zl a1), (3, zl a2), (5, zl a3), (7, zi v504), (8, zl z506)] [] m516 _
  refine X.aload_n 62 i216_61 rfl rfl rfl ?_
  refine X.iconst 63 i216_62 rfl rfl (by decide) ?_
  refine X.lload_n 64 i216_63 rfl rfl rfl ?_
  refine X.lload_n 65 i216_64 rfl rfl rfl ?_
  refine X.calls 68 [zl a1, zl a2] [zi 1, zr g0 44] [(0, zl a1), (2, zl a2)] i216_65 (by decide) rfl rfl (by omega) rfl rfl t221 (Nat.le_of_ble_eq_true rfl) (Nat.le_of_ble_eq_true rfl) rfl ?_
  refine X.lload_n 1 i221_0 rfl rfl rfl ?_
  refine X.lconst (y := 0) 2 i221_1 rfl rfl rfl ?_
  refine X.lcmp 3 i221_2 rfl rfl (fun z518 hz518 => ?_)
  refine X.iflt 20 6 i221_3 rfl rfl rfl (fun h519 => ?_) (fun h519 => (by exfalso; omega))
  have h519c : a1 < 0 := by omega
  clear h519 hz518
  refine X.cut [(2, zl a2)] i221_20 rfl ?_
  refine X.lload_n 21 i221_20 rfl rfl rfl ?_
  refine X.lconst (y := 0) 22 i221_21 rfl rfl rfl ?_
  refine X.lcmp 23 i221_22 rfl rfl (fun z520 hz520 => ?_)
  refine X.iflt 30 26 i221_23 rfl rfl rfl (fun h521 => (by exfalso; omega)) (fun h521 => ?_)
  have h521c : a2 ≥ 0 := by omega
  clear h521 hz520
  refine X.iconst 27 i221_26 rfl rfl (by decide) ?_
  refine X.goto 31 i221_27 rfl rfl ?_
  refine X.cut [] i221_31 rfl ?_
  refine X.reti i221_31 rfl t221 ?_
  show X (EE s) d 216 68 [(0, zr g0 44), (1, zl a1), (3, zl a2), (5, zl a3), (7, zi v504), (8, zl z506)] [zi 2, zi 1, zr g0 44] m516 _
  refine X.iadd 69 i216_68 rfl rfl (by omega) ?_
  refine X.iload 71 i216_69 rfl rfl rfl ?_
  refine X.lload_n 72 i216_71 rfl rfl rfl ?_
  refine X.calls 75 [zl a2] [zi v504, zi (1 + 2), zr g0 44] [(0, zl a2)] i216_72 (by decide) rfl rfl (by omega) rfl rfl t215 (Nat.le_of_ble_eq_true rfl) (Nat.le_of_ble_eq_true rfl) rfl ?_
  refine X.lload_n 1 i215_0 rfl rfl rfl ?_
  refine X.lconst (y := 0) 2 i215_1 rfl rfl rfl ?_
  refine X.lcmp 3 i215_2 rfl rfl (fun z522 hz522 => ?_)
  refine X.ifge 11 6 i215_3 rfl rfl rfl (fun h523 => ?_) (fun h523 => (by exfalso; omega))
  have h523c : a2 ≥ 0 := by omega
  clear h523 hz522
  refine X.lload_n 12 i215_11 rfl rfl rfl ?_
  refine X.cut [] i215_12 rfl ?_
  refine X.retl i215_12 rfl t215 ?_
  show X (EE s) d 216 75 [(0, zr g0 44), (1, zl a1), (3, zl a2), (5, zl a3), (7, zi v504), (8, zl z506)] [zl a2, zi v504, zi (1 + 2), zr g0 44] m516 _
  refine X.callv 78 [zi (1 + 2), zi v504, zl a2] [] [(0, zr g0 44), (1, zi (1 + 2)), (2, zi v504), (3, zl a2)] i216_75 rfl (by decide) rfl rfl (by omega) rfl rfl (by decide) rfl t220 (Nat.le_of_ble_eq_true rfl) (Nat.le_of_ble_eq_true rfl) rfl ?_
  refine X.aload_n 1 i220_0 rfl rfl rfl ?_
  refine X.getF 4 i220_1 rfl rfl (by decide) rfl rfl ?_
  refine X.bipush 6 i220_4 rfl rfl (by decide) ?_
  refine X.iconst 7 i220_6 rfl rfl (by decide) ?_
  refine X.iload_n 8 i220_7 rfl rfl rfl ?_
  refine X.imul 9 i220_8 rfl rfl (by omega) ?_
  refine X.iadd 10 i220_9 rfl rfl (by omega) ?_
  refine X.iload_n 11 i220_10 rfl rfl rfl ?_
  refine X.iadd 12 i220_11 rfl rfl (by omega) ?_
  refine X.dup2 13 i220_12 rfl rfl ?_
  refine X.lald 14 i220_13 rfl rfl (by decide) rfl (by omega) ?_
  refine X.lload_n 15 i220_14 rfl rfl rfl ?_
  refine X.llF 16 .ladd (fun x y => x + y) i220_15 rfl rfl rfl (fun _ _ => rfl) (fun z524 hz524 => ?_)
  refine X.last' 17 i220_16 rfl rfl (by decide) rfl (by omega) (fun hrm525 m525 hm525 => ?_)
  have hJ526 := w45_19 hJ517 hm525 (by omega) hrm525
  have km525 : ∀ g, m525 g 8 9 = m516 g 8 9 := fun g9 => by rw [hm525]; exact z_upd_o _ _ rfl
  refine X.aload_n 18 i220_17 rfl rfl rfl ?_
  refine X.getF 21 i220_18 rfl rfl (by decide) rfl rfl ?_
  refine X.bipush 23 i220_21 rfl rfl (by decide) ?_
  refine X.iconst 24 i220_23 rfl rfl (by decide) ?_
  refine X.iload_n 25 i220_24 rfl rfl rfl ?_
  refine X.imul 26 i220_25 rfl rfl (by omega) ?_
  refine X.iadd 27 i220_26 rfl rfl (by omega) ?_
  refine X.iconst 28 i220_27 rfl rfl (by decide) ?_
  refine X.iadd 29 i220_28 rfl rfl (by omega) ?_
  refine X.dup2 30 i220_29 rfl rfl ?_
  refine X.lald 31 i220_30 rfl rfl (by decide) rfl (by omega) ?_
  refine X.lload_n 32 i220_31 rfl rfl rfl ?_
  refine X.llF 33 .ladd (fun x y => x + y) i220_32 rfl rfl rfl (fun _ _ => rfl) (fun z527 hz527 => ?_)
  refine X.last' 34 i220_33 rfl rfl (by decide) rfl (by omega) (fun hrm528 m528 hm528 => ?_)
  have hJ529 := w45_19 hJ526 hm528 (by omega) hrm528
  have km528 : ∀ g, m528 g 8 9 = m525 g 8 9 := fun g9 => by rw [hm528]; exact z_upd_o _ _ rfl
  refine X.retv i220_34 rfl t220 ?_
  show X (EE s) d 216 78 [(0, zr g0 44), (1, zl a1), (3, zl a2), (5, zl a3), (7, zi v504), (8, zl z506)] [] m528 _
  refine X.aload_n 79 i216_78 rfl rfl rfl ?_
  refine X.bipush 81 i216_79 rfl rfl (by decide) ?_
  refine X.iload 83 i216_81 rfl rfl rfl ?_
  refine X.lload 85 i216_83 rfl rfl rfl ?_
  refine X.callv 88 [zi 6, zi v504, zl a3] [] [(0, zr g0 44), (1, zi 6), (2, zi v504), (3, zl a3)] i216_85 rfl (by decide) rfl rfl (by omega) rfl rfl (by decide) rfl t220 (Nat.le_of_ble_eq_true rfl) (Nat.le_of_ble_eq_true rfl) rfl ?_
  refine X.aload_n 1 i220_0 rfl rfl rfl ?_
  refine X.getF 4 i220_1 rfl rfl (by decide) rfl rfl ?_
  refine X.bipush 6 i220_4 rfl rfl (by decide) ?_
  refine X.iconst 7 i220_6 rfl rfl (by decide) ?_
  refine X.iload_n 8 i220_7 rfl rfl rfl ?_
  refine X.imul 9 i220_8 rfl rfl (by omega) ?_
  refine X.iadd 10 i220_9 rfl rfl (by omega) ?_
  refine X.iload_n 11 i220_10 rfl rfl rfl ?_
  refine X.iadd 12 i220_11 rfl rfl (by omega) ?_
  refine X.dup2 13 i220_12 rfl rfl ?_
  refine X.lald 14 i220_13 rfl rfl (by decide) rfl (by omega) ?_
  refine X.lload_n 15 i220_14 rfl rfl rfl ?_
  refine X.llF 16 .ladd (fun x y => x + y) i220_15 rfl rfl rfl (fun _ _ => rfl) (fun z530 hz530 => ?_)
  refine X.last' 17 i220_16 rfl rfl (by decide) rfl (by omega) (fun hrm531 m531 hm531 => ?_)
  have hJ532 := w45_19 hJ529 hm531 (by omega) hrm531
  have km531 : ∀ g, m531 g 8 9 = m528 g 8 9 := fun g9 => by rw [hm531]; exact z_upd_o _ _ rfl
  refine X.aload_n 18 i220_17 rfl rfl rfl ?_
  refine X.getF 21 i220_18 rfl rfl (by decide) rfl rfl ?_
  refine X.bipush 23 i220_21 rfl rfl (by decide) ?_
  refine X.iconst 24 i220_23 rfl rfl (by decide) ?_
  refine X.iload_n 25 i220_24 rfl rfl rfl ?_
  refine X.imul 26 i220_25 rfl rfl (by omega) ?_
  refine X.iadd 27 i220_26 rfl rfl (by omega) ?_
  refine X.iconst 28 i220_27 rfl rfl (by decide) ?_
  refine X.iadd 29 i220_28 rfl rfl (by omega) ?_
  refine X.dup2 30 i220_29 rfl rfl ?_
  refine X.lald 31 i220_30 rfl rfl (by decide) rfl (by omega) ?_
  refine X.lload_n 32 i220_31 rfl rfl rfl ?_
  refine X.llF 33 .ladd (fun x y => x + y) i220_32 rfl rfl rfl (fun _ _ => rfl) (fun z533 hz533 => ?_)
  refine X.last' 34 i220_33 rfl rfl (by decide) rfl (by omega) (fun hrm534 m534 hm534 => ?_)
  have hJ535 := w45_19 hJ532 hm534 (by omega) hrm534
  have km534 : ∀ g, m534 g 8 9 = m531 g 8 9 := fun g9 => by rw [hm534]; exact z_upd_o _ _ rfl
  refine X.retv i220_34 rfl t220 ?_
  show X (EE s) d 216 88 [(0, zr g0 44), (1, zl a1), (3, zl a2), (5, zl a3), (7, zi v504), (8, zl z506)] [] m534 _
  refine X.aload_n 89 i216_88 rfl rfl rfl ?_
  refine X.getF 92 i216_89 rfl rfl (by decide) rfl rfl ?_
  refine X.bipush 94 i216_92 rfl rfl (by decide) ?_
  refine X.dup2 95 i216_94 rfl rfl ?_
  refine X.lald 96 i216_95 rfl rfl (by decide) rfl (by omega) ?_
  refine X.aload_n 97 i216_96 rfl rfl rfl ?_
  refine X.getF 100 i216_97 rfl rfl (by decide) rfl rfl ?_
  refine X.bipush 102 i216_100 rfl rfl (by decide) ?_
  refine X.iload 104 i216_102 rfl rfl rfl ?_
  refine X.iadd 105 i216_104 rfl rfl (by omega) ?_
  refine X.lald 106 i216_105 rfl rfl (by decide) rfl (by omega) ?_
  refine X.aload_n 107 i216_106 rfl rfl rfl ?_
  refine X.getF 110 i216_107 rfl rfl (by decide) rfl rfl ?_
  refine X.iconst 111 i216_110 rfl rfl (by decide) ?_
  refine X.lald 112 i216_111 rfl rfl (by decide) rfl (by omega) ?_
  have h536 := r45_5 hJ535 4
  refine X.ldivF 113 i216_112 rfl rfl (by omega) (fun z537 => ?_)
  refine X.lload 115 i216_113 rfl rfl rfl ?_
  refine X.llF 116 .lsub (fun x y => x - y) i216_115 rfl rfl rfl (fun _ _ => rfl) (fun z538 hz538 => ?_)
  refine X.aload_n 117 i216_116 rfl rfl rfl ?_
  refine X.getF 120 i216_117 rfl rfl (by decide) rfl rfl ?_
  refine X.bipush 122 i216_120 rfl rfl (by decide) ?_
  refine X.iload 124 i216_122 rfl rfl rfl ?_
  refine X.iadd 125 i216_124 rfl rfl (by omega) ?_
  refine X.lald 126 i216_125 rfl rfl (by decide) rfl (by omega) ?_
  refine X.llF 127 .lmul (fun x y => x * y) i216_126 rfl rfl rfl (fun _ _ => rfl) (fun z539 hz539 => ?_)
  refine X.llF 128 .lsub (fun x y => x - y) i216_127 rfl rfl rfl (fun _ _ => rfl) (fun z540 hz540 => ?_)
  refine X.last' 129 i216_128 rfl rfl (by decide) rfl (by omega) (fun hrm541 m541 hm541 => ?_)
  have hJ542 := w45_10 hJ535 hm541 hrm541
  have km541 : ∀ g, m541 g 8 9 = m534 g 8 9 := fun g9 => by rw [hm541]; exact z_upd_o _ _ rfl
  refine X.aload_n 130 i216_129 rfl rfl rfl ?_
  refine X.getF 133 i216_130 rfl rfl (by decide) rfl rfl ?_
  refine X.bipush 135 i216_133 rfl rfl (by decide) ?_
  refine X.dup2 136 i216_135 rfl rfl ?_
  refine X.lald 137 i216_136 rfl rfl (by decide) rfl (by omega) ?_
  refine X.lload_n 138 i216_137 rfl rfl rfl ?_
  refine X.lconst (y := 0) 139 i216_138 rfl rfl rfl ?_
  refine X.lcmp 140 i216_139 rfl rfl (fun z543 hz543 => ?_)
  refine X.ifle 147 143 i216_140 rfl rfl rfl (fun h544 => ?_) (fun h544 => (by exfalso; omega))
  have h544c : a1 ≤ 0 := by omega
  clear h544 hz543
  refine X.cut [(0, zr g0 44), (1, zl a1), (5, zl a3)] i216_147 rfl ?_
  refine X.lconst (y := 0) 148 i216_147 rfl rfl rfl ?_
  refine X.llF 149 .ladd (fun x y => x + y) i216_148 rfl rfl rfl (fun _ _ => rfl) (fun z545 hz545 => ?_)
  refine X.last' 150 i216_149 rfl rfl (by decide) rfl (by omega) (fun hrm546 m546 hm546 => ?_)
  have hJ547 := w45_19 hJ542 hm546 (by omega) hrm546
  have km546 : ∀ g, m546 g 8 9 = m541 g 8 9 := fun g9 => by rw [hm546]; exact z_upd_o _ _ rfl
  refine X.aload_n 151 i216_150 rfl rfl rfl ?_
  refine X.getF 154 i216_151 rfl rfl (by decide) rfl rfl ?_
  refine X.bipush 156 i216_154 rfl rfl (by decide) ?_
  refine X.dup2 157 i216_156 rfl rfl ?_
  refine X.lald 158 i216_157 rfl rfl (by decide) rfl (by omega) ?_
  refine X.lload_n 159 i216_158 rfl rfl rfl ?_
  refine X.lconst (y := 0) 160 i216_159 rfl rfl rfl ?_
  refine X.lcmp 161 i216_160 rfl rfl (fun z548 hz548 => ?_)
  refine X.ifge 169 164 i216_161 rfl rfl rfl (fun h549 => (by exfalso; omega)) (fun h549 => ?_)
  have h549c : a1 < 0 := by omega
  clear h549 hz548
  refine X.lload_n 165 i216_164 rfl rfl rfl ?_
  refine X.lnegF 166 i216_165 rfl rfl (fun z550 hz550 => ?_)
  refine X.goto 170 i216_166 rfl rfl ?_
  refine X.cut [(0, zr g0 44), (5, zl a3)] i216_170 rfl ?_
  refine X.llF 171 .ladd (fun x y => x + y) i216_170 rfl rfl rfl (fun _ _ => rfl) (fun z551 hz551 => ?_)
  refine X.last' 172 i216_171 rfl rfl (by decide) rfl (by omega) (fun hrm552 m552 hm552 => ?_)
  have hJ553 := w45_19 hJ547 hm552 (by omega) hrm552
  have km552 : ∀ g, m552 g 8 9 = m546 g 8 9 := fun g9 => by rw [hm552]; exact z_upd_o _ _ rfl
  refine X.aload_n 173 i216_172 rfl rfl rfl ?_
  refine X.getF 176 i216_173 rfl rfl (by decide) rfl rfl ?_
  refine X.bipush 178 i216_176 rfl rfl (by decide) ?_
  refine X.dup2 179 i216_178 rfl rfl ?_
  refine X.lald 180 i216_179 rfl rfl (by decide) rfl (by omega) ?_
  refine X.lload 182 i216_180 rfl rfl rfl ?_
  refine X.llF 183 .ladd (fun x y => x + y) i216_182 rfl rfl rfl (fun _ _ => rfl) (fun z554 hz554 => ?_)
  refine X.last' 184 i216_183 rfl rfl (by decide) rfl (by omega) (fun hrm555 m555 hm555 => ?_)
  have hJ556 := w45_19 hJ553 hm555 (by omega) hrm555
  have km555 : ∀ g, m555 g 8 9 = m552 g 8 9 := fun g9 => by rw [hm555]; exact z_upd_o _ _ rfl
  refine X.retv i216_184 rfl t216 ?_
  exact hQ  m555  (hJ556.up (by omega)) (fun g => by simp only [km513, km516, km525, km528, km531, km534, km541, km546, km552, km555]) 
-- WorkMeterModel.registers
theorem c216_6 {s : Nat × (Nat → Int32)} {m0 m : zM} {B : Int} {d : Nat} {Q : Option zV → zM → Prop} (g0 : Nat) (a1 a2 a3 : Int) (hd : 16 ≤ d) (hJ : J m0 B m) (hB : B + 0 ≤ 1000000000) (ha1 : a1 ≤ (-1)) (ha2 : a2 ≤ (-1)) (ha3 : 0 ≤ a3 ∧ a3 ≤ 3000000000) (hQ : ∀ m', J m0 (B) m' → (∀ g, m' g 8 9 = m g 8 9) → Q none m') : X (EE s) d 216 0 [(0, zr g0 44), (1, zl a1), (3, zl a2), (5, zl a3)] [] m Q := by
  refine X.aload_n 1 i216_0 rfl rfl rfl ?_
  refine X.aload_n 2 i216_1 rfl rfl rfl ?_
  refine X.getF 5 i216_2 rfl rfl (by decide) rfl rfl ?_
  refine X.iconst 6 i216_5 rfl rfl (by decide) ?_
  refine X.lald 7 i216_6 rfl rfl (by decide) rfl (by omega) ?_
  have h501 := r45_0 hJ 4
  refine X.l2i 8 i216_7 rfl rfl (by omega) ?_
  refine X.callv 11 [zi (m 4 45 0)] [] [(0, zr g0 44), (1, zi (m 4 45 0))] i216_8 rfl (by decide) rfl rfl (by omega) rfl rfl (by decide) rfl t217 (Nat.le_of_ble_eq_true rfl) (Nat.le_of_ble_eq_true rfl) rfl ?_
  refine c217_1 (B := B) g0 (m 4 45 0) (by omega) (hJ.up (by omega)) (by omega) (by omega) (fun v504 hv504 => ?_)
  show X (EE s) d 216 11 [(0, zr g0 44), (1, zl a1), (3, zl a2), (5, zl a3)] [zi v504] m _
  refine X.istore 13 [(0, zr g0 44), (1, zl a1), (3, zl a2), (5, zl a3), (7, zi v504)] i216_11 rfl rfl rfl ?_
  refine X.aload_n 14 i216_13 rfl rfl rfl ?_
  refine X.getF 17 i216_14 rfl rfl (by decide) rfl rfl ?_
  refine X.bipush 19 i216_17 rfl rfl (by decide) ?_
  refine X.iload 21 i216_19 rfl rfl rfl ?_
  refine X.iadd 22 i216_21 rfl rfl (by omega) ?_
  refine X.lald 23 i216_22 rfl rfl (by decide) rfl (by omega) ?_
  refine X.aload_n 24 i216_23 rfl rfl rfl ?_
  refine X.getF 27 i216_24 rfl rfl (by decide) rfl rfl ?_
  refine X.iconst 28 i216_27 rfl rfl (by decide) ?_
  refine X.lald 29 i216_28 rfl rfl (by decide) rfl (by omega) ?_
  have h505 := r45_5 hJ 4
  refine X.ldivF 30 i216_29 rfl rfl (by omega) (fun z506 => ?_)
  refine X.lstore 32 [(0, zr g0 44), (1, zl a1), (3, zl a2), (5, zl a3), (7, zi v504), (8, zl z506)] i216_30 rfl rfl rfl ?_
  refine X.lload_n 33 i216_32 rfl rfl rfl ?_
  refine X.lconst (y := 0) 34 i216_33 rfl rfl rfl ?_
  refine X.lcmp 35 i216_34 rfl rfl (fun z507 hz507 => ?_)
  refine X.ifle 46 38 i216_35 rfl rfl rfl (fun h508 => ?_) (fun h508 => (by exfalso; omega))
  have h508c : a1 ≤ 0 := by omega
  clear h508 hz507
  refine X.lload_n 47 i216_46 rfl rfl rfl ?_
  refine X.lconst (y := 0) 48 i216_47 rfl rfl rfl ?_
  refine X.lcmp 49 i216_48 rfl rfl (fun z509 hz509 => ?_)
  refine X.ifge 61 52 i216_49 rfl rfl rfl (fun h510 => (by exfalso; omega)) (fun h510 => ?_)
  have h510c : a1 < 0 := by omega
  clear h510 hz509
  refine X.aload_n 53 i216_52 rfl rfl rfl ?_
  refine X.iconst 54 i216_53 rfl rfl (by decide) ?_
  refine X.iload 56 i216_54 rfl rfl rfl ?_
  refine X.lload_n 57 i216_56 rfl rfl rfl ?_
  refine X.lnegF 58 i216_57 rfl rfl (fun z511 hz511 => ?_)
  refine X.callv 61 [zi 1, zi v504, zl z511] [] [(0, zr g0 44), (1, zi 1), (2, zi v504), (3, zl z511)] i216_58 rfl (by decide) rfl rfl (by omega) rfl rfl (by decide) rfl t220 (Nat.le_of_ble_eq_true rfl) (Nat.le_of_ble_eq_true rfl) rfl ?_
  refine X.aload_n 1 i220_0 rfl rfl rfl ?_
  refine X.getF 4 i220_1 rfl rfl (by decide) rfl rfl ?_
  refine X.bipush 6 i220_4 rfl rfl (by decide) ?_
  refine X.iconst 7 i220_6 rfl rfl (by decide) ?_
  refine X.iload_n 8 i220_7 rfl rfl rfl ?_
  refine X.imul 9 i220_8 rfl rfl (by omega) ?_
  refine X.iadd 10 i220_9 rfl rfl (by omega) ?_
  refine X.iload_n 11 i220_10 rfl rfl rfl ?_
  refine X.iadd 12 i220_11 rfl rfl (by omega) ?_
  refine X.dup2 13 i220_12 rfl rfl ?_
  refine X.lald 14 i220_13 rfl rfl (by decide) rfl (by omega) ?_
  refine X.lload_n 15 i220_14 rfl rfl rfl ?_
  refine X.llF 16 .ladd (fun x y => x + y) i220_15 rfl rfl rfl (fun _ _ => rfl) (fun z512 hz512 => ?_)
  refine X.last' 17 i220_16 rfl rfl (by decide) rfl (by omega) (fun hrm513 m513 hm513 => ?_)
  have hJ514 := w45_19 hJ hm513 (by omega) hrm513
  have km513 : ∀ g, m513 g 8 9 = m g 8 9 := fun g9 => by rw [hm513]; exact z_upd_o _ _ rfl
  refine X.aload_n 18 i220_17 rfl rfl rfl ?_
  refine X.getF 21 i220_18 rfl rfl (by decide) rfl rfl ?_
  refine X.bipush 23 i220_21 rfl rfl (by decide) ?_
  refine X.iconst 24 i220_23 rfl rfl (by decide) ?_
  refine X.iload_n 25 i220_24 rfl rfl rfl ?_
  refine X.imul 26 i220_25 rfl rfl (by omega) ?_
  refine X.iadd 27 i220_26 rfl rfl (by omega) ?_
  refine X.iconst 28 i220_27 rfl rfl (by decide) ?_
  refine X.iadd 29 i220_28 rfl rfl (by omega) ?_
  refine X.dup2 30 i220_29 rfl rfl ?_
  refine X.lald 31 i220_30 rfl rfl (by decide) rfl (by omega) ?_
  refine X.lload_n 32 i220_31 rfl rfl rfl ?_
  refine X.llF 33 .ladd (fun x y => x + y) i220_32 rfl rfl rfl (fun _ _ => rfl) (fun z515 hz515 => ?_)
  refine X.last' 34 i220_33 rfl rfl (by decide) rfl (by omega) (fun hrm516 m516 hm516 => ?_)
  have hJ517 := w45_19 hJ514 hm516 (by omega) hrm516
  have km516 : ∀ g, m516 g 8 9 = m513 g 8 9 := fun g9 => by rw [hm516]; exact z_upd_o _ _ rfl
  refine X.retv i220_34 rfl t220 ?_
  show X (EE s) d 216 61 [(0, zr g0 44), (1, zl a1), (3, zl a2), (5, zl a3), (7, zi v504), (8, zl z506)] [] m516 _
  refine X.aload_n 62 i216_61 rfl rfl rfl ?_
  refine X.iconst 63 i216_62 rfl rfl (by decide) ?_
  refine X.lload_n 64 i216_63 rfl rfl rfl ?_
  refine X.lload_n 65 i216_64 rfl rfl rfl ?_
  refine X.calls 68 [zl a1, zl a2] [zi 1, zr g0 44] [(0, zl a1), (2, zl a2)] i216_65 (by decide) rfl rfl (by omega) rfl rfl t221 (Nat.le_of_ble_eq_true rfl) (Nat.le_of_ble_eq_true rfl) rfl ?_
  refine X.lload_n 1 i221_0 rfl rfl rfl ?_
  refine X.lconst (y := 0) 2 i221_1 rfl rfl rfl ?_
  refine X.lcmp 3 i221_2 rfl rfl (fun z518 hz518 => ?_)
  refine X.iflt 20 6 i221_3 rfl rfl rfl (fun h519 => ?_) (fun h519 => (by exfalso; omega))
  have h519c : a1 < 0 := by omega
  clear h519 hz518
  refine X.cut [(2, zl a2)] i221_20 rfl ?_
  refine X.lload_n 21 i221_20 rfl rfl rfl ?_
  refine X.lconst (y := 0) 22 i221_21 rfl rfl rfl ?_
  refine X.lcmp 23 i221_22 rfl rfl (fun z520 hz520 => ?_)
  refine X.iflt 30 26 i221_23 rfl rfl rfl (fun h521 => ?_) (fun h521 => (by exfalso; omega))
  have h521c : a2 < 0 := by omega
  clear h521 hz520
  refine X.cut [] i221_30 rfl ?_
  refine X.iconst 31 i221_30 rfl rfl (by decide) ?_
  refine X.reti i221_31 rfl t221 ?_
  show X (EE s) d 216 68 [(0, zr g0 44), (1, zl a1), (3, zl a2), (5, zl a3), (7, zi v504), (8, zl z506)] [zi 3, zi 1, zr g0 44] m516 _
  refine X.iadd 69 i216_68 rfl rfl (by omega) ?_
  refine X.iload 71 i216_69 rfl rfl rfl ?_
  refine X.lload_n 72 i216_71 rfl rfl rfl ?_
  refine X.calls 75 [zl a2] [zi v504, zi (1 + 3), zr g0 44] [(0, zl a2)] i216_72 (by decide) rfl rfl (by omega) rfl rfl t215 (Nat.le_of_ble_eq_true rfl) (Nat.le_of_ble_eq_true rfl) rfl ?_
  refine X.lload_n 1 i215_0 rfl rfl rfl ?_
  refine X.lconst (y := 0) 2 i215_1 rfl rfl rfl ?_
  refine X.lcmp 3 i215_2 rfl rfl (fun z522 hz522 => ?_)
  refine X.ifge 11 6 i215_3 rfl rfl rfl (fun h523 => (by exfalso; omega)) (fun h523 => ?_)
  have h523c : a2 < 0 := by omega
  clear h523 hz522
  refine X.lload_n 7 i215_6 rfl rfl rfl ?_
  refine X.lnegF 8 i215_7 rfl rfl (fun z524 hz524 => ?_)
  refine X.goto 12 i215_8 rfl rfl ?_
  refine X.cut [] i215_12 rfl ?_
  refine X.retl i215_12 rfl t215 ?_
  show X (EE s) d 216 75 [(0, zr g0 44), (1, zl a1), (3, zl a2), (5, zl a3), (7, zi v504), (8, zl z506)] [zl z524, zi v504, zi (1 + 3), zr g0 44] m516 _
  refine X.callv 78 [zi (1 + 3), zi v504, zl z524] [] [(0, zr g0 44), (1, zi (1 + 3)), (2, zi v504), (3, zl z524)] i216_75 rfl (by decide) rfl rfl (by omega) rfl rfl (by decide) rfl t220 (Nat.le_of_ble_eq_true rfl) (Nat.le_of_ble_eq_true rfl) rfl ?_
  refine X.aload_n 1 i220_0 rfl rfl rfl ?_
  refine X.getF 4 i220_1 rfl rfl (by decide) rfl rfl ?_
  refine X.bipush 6 i220_4 rfl rfl (by decide) ?_
  refine X.iconst 7 i220_6 rfl rfl (by decide) ?_
  refine X.iload_n 8 i220_7 rfl rfl rfl ?_
  refine X.imul 9 i220_8 rfl rfl (by omega) ?_
  refine X.iadd 10 i220_9 rfl rfl (by omega) ?_
  refine X.iload_n 11 i220_10 rfl rfl rfl ?_
  refine X.iadd 12 i220_11 rfl rfl (by omega) ?_
  refine X.dup2 13 i220_12 rfl rfl ?_
  refine X.lald 14 i220_13 rfl rfl (by decide) rfl (by omega) ?_
  refine X.lload_n 15 i220_14 rfl rfl rfl ?_
  refine X.llF 16 .ladd (fun x y => x + y) i220_15 rfl rfl rfl (fun _ _ => rfl) (fun z525 hz525 => ?_)
  refine X.last' 17 i220_16 rfl rfl (by decide) rfl (by omega) (fun hrm526 m526 hm526 => ?_)
  have hJ527 := w45_19 hJ517 hm526 (by omega) hrm526
  have km526 : ∀ g, m526 g 8 9 = m516 g 8 9 := fun g9 => by rw [hm526]; exact z_upd_o _ _ rfl
  refine X.aload_n 18 i220_17 rfl rfl rfl ?_
  refine X.getF 21 i220_18 rfl rfl (by decide) rfl rfl ?_
  refine X.bipush 23 i220_21 rfl rfl (by decide) ?_
  refine X.iconst 24 i220_23 rfl rfl (by decide) ?_
  refine X.iload_n 25 i220_24 rfl rfl rfl ?_
  refine X.imul 26 i220_25 rfl rfl (by omega) ?_
  refine X.iadd 27 i220_26 rfl rfl (by omega) ?_
  refine X.iconst 28 i220_27 rfl rfl (by decide) ?_
  refine X.iadd 29 i220_28 rfl rfl (by omega) ?_
  refine X.dup2 30 i220_29 rfl rfl ?_
  refine X.lald 31 i220_30 rfl rfl (by decide) rfl (by omega) ?_
  refine X.lload_n 32 i220_31 rfl rfl rfl ?_
  refine X.llF 33 .ladd (fun x y => x + y) i220_32 rfl rfl rfl (fun _ _ => rfl) (fun z528 hz528 => ?_)
  refine X.last' 34 i220_33 rfl rfl (by decide) rfl (by omega) (fun hrm529 m529 hm529 => ?_)
  have hJ530 := w45_19 hJ527 hm529 (by omega) hrm529
  have km529 : ∀ g, m529 g 8 9 = m526 g 8 9 := fun g9 => by rw [hm529]; exact z_upd_o _ _ rfl
  refine X.retv i220_34 rfl t220 ?_
  show X (EE s) d 216 78 [(0, zr g0 44), (1, zl a1), (3, zl a2), (5, zl a3), (7, zi v504), (8, zl z506)] [] m529 _
  refine X.aload_n 79 i216_78 rfl rfl rfl ?_
  refine X.bipush 81 i216_79 rfl rfl (by decide) ?_
  refine X.iload 83 i216_81 rfl rfl rfl ?_
  refine X.lload 85 i216_83 rfl rfl rfl ?_
  refine X.callv 88 [zi 6, zi v504, zl a3] [] [(0, zr g0 44), (1, zi 6), (2, zi v504), (3, zl a3)] i216_85 rfl (by decide) rfl rfl (by omega) rfl rfl (by decide) rfl t220 (Nat.le_of_ble_eq_true rfl) (Nat.le_of_ble_eq_true rfl) rfl ?_
  refine X.aload_n 1 i220_0 rfl rfl rfl ?_
  refine X.getF 4 i220_1 rfl rfl (by decide) rfl rfl ?_
  refine X.bipush 6 i220_4 rfl rfl (by decide) ?_
  refine X.iconst 7 i220_6 rfl rfl (by decide) ?_
  refine X.iload_n 8 i220_7 rfl rfl rfl ?_
  refine X.imul 9 i220_8 rfl rfl (by omega) ?_
  refine X.iadd 10 i220_9 rfl rfl (by omega) ?_
  refine X.iload_n 11 i220_10 rfl rfl rfl ?_
  refine X.iadd 12 i220_11 rfl rfl (by omega) ?_
  refine X.dup2 13 i220_12 rfl rfl ?_
  refine X.lald 14 i220_13 rfl rfl (by decide) rfl (by omega) ?_
  refine X.lload_n 15 i220_14 rfl rfl rfl ?_
  refine X.llF 16 .ladd (fun x y => x + y) i220_15 rfl rfl rfl (fun _ _ => rfl) (fun z531 hz531 => ?_)
  refine X.last' 17 i220_16 rfl rfl (by decide) rfl (by omega) (fun hrm532 m532 hm532 => ?_)
  have hJ533 := w45_19 hJ530 hm532 (by omega) hrm532
  have km532 : ∀ g, m532 g 8 9 = m529 g 8 9 := fun g9 => by rw [hm532]; exact z_upd_o _ _ rfl
  refine X.aload_n 18 i220_17 rfl rfl rfl ?_
  refine X.getF 21 i220_18 rfl rfl (by decide) rfl rfl ?_
  refine X.bipush 23 i220_21 rfl rfl (by decide) ?_
  refine X.iconst 24 i220_23 rfl rfl (by decide) ?_
  refine X.iload_n 25 i220_24 rfl rfl rfl ?_
  refine X.imul 26 i220_25 rfl rfl (by omega) ?_
  refine X.iadd 27 i220_26 rfl rfl (by omega) ?_
  refine X.iconst 28 i220_27 rfl rfl (by decide) ?_
  refine X.iadd 29 i220_28 rfl rfl (by omega) ?_
  refine X.dup2 30 i220_29 rfl rfl ?_
  refine X.lald 31 i220_30 rfl rfl (by decide) rfl (by omega) ?_
  refine X.lload_n 32 i220_31 rfl rfl rfl ?_
  refine X.llF 33 .ladd (fun x y => x + y) i220_32 rfl rfl rfl (fun _ _ => rfl) (fun z534 hz534 => ?_)
  refine X.last' 34 i220_33 rfl rfl (by decide) rfl (by omega) (fun hrm535 m535 hm535 => ?_)
  have hJ536 := w45_19 hJ533 hm535 (by omega) hrm535
  have km535 : ∀ g, m535 g 8 9 = m532 g 8 9 := fun g9 => by rw [hm535]; exact z_upd_o _ _ rfl
  refine X.retv i220_34 rfl t220 ?_
  show X (EE s) d 216 88 [(0, zr g0 44), (1, zl a1), (3, zl a2), (5, zl a3), (7, zi v504), (8, zl z506)] [] m535 _
  refine X.aload_n 89 i216_88 rfl rfl rfl ?_
  refine X.getF 92 i216_89 rfl rfl (by decide) rfl rfl ?_
  refine X.bipush 94 i216_92 rfl rfl (by decide) ?_
  refine X.dup2 95 i216_94 rfl rfl ?_
  refine X.lald 96 i216_95 rfl rfl (by decide) rfl (by omega) ?_
  refine X.aload_n 97 i216_96 rfl rfl rfl ?_
  refine X.getF 100 i216_97 rfl rfl (by decide) rfl rfl ?_
  refine X.bipush 102 i216_100 rfl rfl (by decide) ?_
  refine X.iload 104 i216_102 rfl rfl rfl ?_
  refine X.iadd 105 i216_104 rfl rfl (by omega) ?_
  refine X.lald 106 i216_105 rfl rfl (by decide) rfl (by omega) ?_
  refine X.aload_n 107 i216_106 rfl rfl rfl ?_
  refine X.getF 110 i216_107 rfl rfl (by decide) rfl rfl ?_
  refine X.iconst 111 i216_110 rfl rfl (by decide) ?_
  refine X.lald 112 i216_111 rfl rfl (by decide) rfl (by omega) ?_
  have h537 := r45_5 hJ536 4
  refine X.ldivF 113 i216_112 rfl rfl (by omega) (fun z538 => ?_)
  refine X.lload 115 i216_113 rfl rfl rfl ?_
  refine X.llF 116 .lsub (fun x y => x - y) i216_115 rfl rfl rfl (fun _ _ => rfl) (fun z539 hz539 => ?_)
  refine X.aload_n 117 i216_116 rfl rfl rfl ?_
  refine X.getF 120 i216_117 rfl rfl (by decide) rfl rfl ?_
  refine X.bipush 122 i216_120 rfl rfl (by decide) ?_
  refine X.iload 124 i216_122 rfl rfl rfl ?_
  refine X.iadd 125 i216_124 rfl rfl (by omega) ?_
  refine X.lald 126 i216_125 rfl rfl (by decide) rfl (by omega) ?_
  refine X.llF 127 .lmul (fun x y => x * y) i216_126 rfl rfl rfl (fun _ _ => rfl) (fun z540 hz540 => ?_)
  refine X.llF 128 .lsub (fun x y => x - y) i216_127 rfl rfl rfl (fun _ _ => rfl) (fun z541 hz541 => ?_)
  refine X.last' 129 i216_128 rfl rfl (by decide) rfl (by omega) (fun hrm542 m542 hm542 => ?_)
  have hJ543 := w45_10 hJ536 hm542 hrm542
  have km542 : ∀ g, m542 g 8 9 = m535 g 8 9 := fun g9 => by rw [hm542]; exact z_upd_o _ _ rfl
  refine X.aload_n 130 i216_129 rfl rfl rfl ?_
  refine X.getF 133 i216_130 rfl rfl (by decide) rfl rfl ?_
  refine X.bipush 135 i216_133 rfl rfl (by decide) ?_
  refine X.dup2 136 i216_135 rfl rfl ?_
  refine X.lald 137 i216_136 rfl rfl (by decide) rfl (by omega) ?_
  refine X.lload_n 138 i216_137 rfl rfl rfl ?_
  refine X.lconst (y := 0) 139 i216_138 rfl rfl rfl ?_
  refine X.lcmp 140 i216_139 rfl rfl (fun z544 hz544 => ?_)
  refine X.ifle 147 143 i216_140 rfl rfl rfl (fun h545 => ?_) (fun h545 => (by exfalso; omega))
  have h545c : a1 ≤ 0 := by omega
  clear h545 hz544
  refine X.cut [(0, zr g0 44), (1, zl a1), (5, zl a3)] i216_147 rfl ?_
  refine X.lconst (y := 0) 148 i216_147 rfl rfl rfl ?_
  refine X.llF 149 .ladd (fun x y => x + y) i216_148 rfl rfl rfl (fun _ _ => rfl) (fun z546 hz546 => ?_)
  refine X.last' 150 i216_149 rfl rfl (by decide) rfl (by omega) (fun hrm547 m547 hm547 => ?_)
  have hJ548 := w45_19 hJ543 hm547 (by omega) hrm547
  have km547 : ∀ g, m547 g 8 9 = m542 g 8 9 := fun g9 => by rw [hm547]; exact z_upd_o _ _ rfl
  refine X.aload_n 151 i216_150 rfl rfl rfl ?_
  refine X.getF 154 i216_151 rfl rfl (by decide) rfl rfl ?_
  refine X.bipush 156 i216_154 rfl rfl (by decide) ?_
  refine X.dup2 157 i216_156 rfl rfl ?_
  refine X.lald 158 i216_157 rfl rfl (by decide) rfl (by omega) ?_
  refine X.lload_n 159 i216_158 rfl rfl rfl ?_
  refine X.lconst (y := 0) 160 i216_159 rfl rfl rfl ?_
  refine X.lcmp 161 i216_160 rfl rfl (fun z549 hz549 => ?_)
  refine X.ifge 169 164 i216_161 rfl rfl rfl (fun h550 => (by exfalso; omega)) (fun h550 => ?_)
  have h550c : a1 < 0 := by omega
  clear h550 hz549
  refine X.lload_n 165 i216_164 rfl rfl rfl ?_
  refine X.lnegF 166 i216_165 rfl rfl (fun z551 hz551 => ?_)
  refine X.goto 170 i216_166 rfl rfl ?_
  refine X.cut [(0, zr g0 44), (5, zl a3)] i216_170 rfl ?_
  refine X.llF 171 .ladd (fun x y => x + y) i216_170 rfl rfl rfl (fun _ _ => rfl) (fun z552 hz552 => ?_)
  refine X.last' 172 i216_171 rfl rfl (by decide) rfl (by omega) (fun hrm553 m553 hm553 => ?_)
  have hJ554 := w45_19 hJ548 hm553 (by omega) hrm553
  have km553 : ∀ g, m553 g 8 9 = m547 g 8 9 := fun g9 => by rw [hm553]; exact z_upd_o _ _ rfl
  refine X.aload_n 173 i216_172 rfl rfl rfl ?_
  refine X.getF 176 i216_173 rfl rfl (by decide) rfl rfl ?_
  refine X.bipush 178 i216_176 rfl rfl (by decide) ?_
  refine X.dup2 179 i216_178 rfl rfl ?_
  refine X.lald 180 i216_179 rfl rfl (by decide) rfl (by omega) ?_
  refine X.lload 182 i216_180 rfl rfl rfl ?_
  refine X.llF 183 .ladd (fun x y => x + y) i216_182 rfl rfl rfl (fun _ _ => rfl) (fun z555 hz555 => ?_)
  refine X.last' 184 i216_183 rfl rfl (by decide) rfl (by omega) (fun hrm556 m556 hm556 => ?_)
  have hJ557 := w45_19 hJ554 hm556 (by omega) hrm556
  have km556 : ∀ g, m556 g 8 9 = m553 g 8 9 := fun g9 => by rw [hm556]; exact z_upd_o _ _ rfl
  refine X.retv i216_184 rfl t216 ?_
  exact hQ  m556  (hJ557.up (by omega)) (fun g => by simp only [km513, km516, km526, km529, km532, km535, km542, km547, km553, km556]) 
-- WorkMeterModel.meters
theorem c208_1 {s : Nat × (Nat → Int32)} {m0 m : zM} {B : Int} {d : Nat} {Q : Option zV → zM → Prop} (g0 : Nat) (hd : 19 ≤ d) (hJ : J m0 B m) (hB : B + 10 ≤ 1000000000) (hQ : ∀ m', J m0 (B + 10) m' → (∀ g, m' g 8 9 = m g 8 9) → Q none m') : X (EE s) d 208 0 [(0, zr g0 44)] [] m Q := by
  refine X.aload_n 1 i208_0 rfl rfl rfl ?_
  refine X.getF 4 i208_1 rfl rfl (by decide) rfl rfl ?_
  refine X.bipush 6 i208_4 rfl rfl (by decide) ?_
  refine X.lald 7 i208_6 rfl rfl (by decide) rfl (by omega) ?_
  have h501 := r45_12 hJ 4
  refine X.lconst (y := 1) 8 i208_7 rfl rfl rfl ?_
  refine X.lcmp 9 i208_8 rfl rfl (fun z502 hz502 => ?_)
  refine X.ifne 16 12 i208_9 rfl rfl rfl (fun h503 => ?_) (fun h503 => ?_)
  · have h503c : (m 4 45 12) ≠ 1 := by omega
    clear h503 hz502
    refine X.aload_n 17 i208_16 rfl rfl rfl ?_
    refine X.iconst 18 i208_17 rfl rfl (by decide) ?_
    refine X.callv 21 [zi 0] [] [(0, zr g0 44), (1, zi 0)] i208_18 rfl (by decide) rfl rfl (by omega) rfl rfl (by decide) rfl t209 (Nat.le_of_ble_eq_true rfl) (Nat.le_of_ble_eq_true rfl) rfl ?_
    refine c209_1 (B := B) g0 0 (by omega) (hJ.up (by omega)) (by omega) (by omega) (fun v506 hv506 => ?_)
    show X (EE s) d 208 21 [(0, zr g0 44)] [zl v506] m _
    refine X.lstore_n 22 [(0, zr g0 44), (1, zl v506)] i208_21 rfl rfl rfl ?_
    refine X.aload_n 23 i208_22 rfl rfl rfl ?_
    refine X.getF 26 i208_23 rfl rfl (by decide) rfl rfl ?_
    refine X.bipush 28 i208_26 rfl rfl (by decide) ?_
    refine X.lald 29 i208_28 rfl rfl (by decide) rfl (by omega) ?_
    refine X.lconst (y := 1) 30 i208_29 rfl rfl rfl ?_
    refine X.lcmp 31 i208_30 rfl rfl (fun z507 hz507 => ?_)
    refine X.ifne 38 34 i208_31 rfl rfl rfl (fun h508 => ?_) (fun h508 => (by exfalso; omega))
    have h508c : (m 4 45 12) ≠ 1 := by omega
    clear h508 hz507
    refine X.aload_n 39 i208_38 rfl rfl rfl ?_
    refine X.iconst 40 i208_39 rfl rfl (by decide) ?_
    refine X.callv 43 [zi 1] [] [(0, zr g0 44), (1, zi 1)] i208_40 rfl (by decide) rfl rfl (by omega) rfl rfl (by decide) rfl t209 (Nat.le_of_ble_eq_true rfl) (Nat.le_of_ble_eq_true rfl) rfl ?_
    refine c209_1 (B := B) g0 1 (by omega) (hJ.up (by omega)) (by omega) (by omega) (fun v511 hv511 => ?_)
    show X (EE s) d 208 43 [(0, zr g0 44), (1, zl v506)] [zl v511] m _
    refine X.lstore_n 44 [(0, zr g0 44), (1, zl v506), (3, zl v511)] i208_43 rfl rfl rfl ?_
    refine X.lload_n 45 i208_44 rfl rfl rfl ?_
    refine X.lload_n 46 i208_45 rfl rfl rfl ?_
    refine X.llF 47 .lmul (fun x y => x * y) i208_46 rfl rfl rfl (fun _ _ => rfl) (fun z512 hz512 => ?_)
    refine X.lload_n 48 i208_47 rfl rfl rfl ?_
    refine X.lload_n 49 i208_48 rfl rfl rfl ?_
    refine X.llF 50 .lmul (fun x y => x * y) i208_49 rfl rfl rfl (fun _ _ => rfl) (fun z513 hz513 => ?_)
    refine X.llF 51 .ladd (fun x y => x + y) i208_50 rfl rfl rfl (fun _ _ => rfl) (fun z514 hz514 => ?_)
    refine X.calls 54 [zl z514] [] [(0, zl z514)] i208_51 (by decide) rfl rfl (by omega) rfl rfl t214 (Nat.le_of_ble_eq_true rfl) (Nat.le_of_ble_eq_true rfl) rfl ?_
    refine c214_1 (B := B)  z514 (by omega) (hJ.up (by omega)) (by omega)  (fun v517 hv517 => ?_)
    show X (EE s) d 208 54 [(0, zr g0 44), (1, zl v506), (3, zl v511)] [zl v517] m _
    refine X.lstore 56 [(0, zr g0 44), (1, zl v506), (3, zl v511), (5, zl v517)] i208_54 rfl rfl rfl ?_
    refine X.aload_n 57 i208_56 rfl rfl rfl ?_
    refine X.getF 60 i208_57 rfl rfl (by decide) rfl rfl ?_
    refine X.bipush 62 i208_60 rfl rfl (by decide) ?_
    refine X.dup2 63 i208_62 rfl rfl ?_
    refine X.lald 64 i208_63 rfl rfl (by decide) rfl (by omega) ?_
    refine X.lconst (y := 1) 65 i208_64 rfl rfl rfl ?_
    refine X.llF 66 .ladd (fun x y => x + y) i208_65 rfl rfl rfl (fun _ _ => rfl) (fun z518 hz518 => ?_)
    refine X.last' 67 i208_66 rfl rfl (by decide) rfl (by omega) (fun hrm519 m519 hm519 => ?_)
    have hJ520 := w45_13 hJ hm519 (by omega) hrm519
    have km519 : ∀ g, m519 g 8 9 = m g 8 9 := fun g9 => by rw [hm519]; exact z_upd_o _ _ rfl
    refine X.aload_n 68 i208_67 rfl rfl rfl ?_
    refine X.getF 71 i208_68 rfl rfl (by decide) rfl rfl ?_
    refine X.bipush 73 i208_71 rfl rfl (by decide) ?_
    refine X.dup2 74 i208_73 rfl rfl ?_
    refine X.lald 75 i208_74 rfl rfl (by decide) rfl (by omega) ?_
    refine X.lconst (y := 1) 76 i208_75 rfl rfl rfl ?_
    refine X.llF 77 .ladd (fun x y => x + y) i208_76 rfl rfl rfl (fun _ _ => rfl) (fun z521 hz521 => ?_)
    refine X.last' 78 i208_77 rfl rfl (by decide) rfl (by omega) (fun hrm522 m522 hm522 => ?_)
    have hJ523 := w45_19 hJ520 hm522 (by omega) hrm522
    have km522 : ∀ g, m522 g 8 9 = m519 g 8 9 := fun g9 => by rw [hm522]; exact z_upd_o _ _ rfl
    refine X.lload_n 79 i208_78 rfl rfl rfl ?_
    refine X.calls 82 [zl v506] [] [(0, zl v506)] i208_79 (by decide) rfl rfl (by omega) rfl rfl t215 (Nat.le_of_ble_eq_true rfl) (Nat.le_of_ble_eq_true rfl) rfl ?_
    refine X.lload_n 1 i215_0 rfl rfl rfl ?_
    refine X.lconst (y := 0) 2 i215_1 rfl rfl rfl ?_
    refine X.lcmp 3 i215_2 rfl rfl (fun z524 hz524 => ?_)
    refine X.ifge 11 6 i215_3 rfl rfl rfl (fun h525 => ?_) (fun h525 => ?_)
    · have h525c : v506 ≥ 0 := by omega
      clear h525 hz524
      refine X.lload_n 12 i215_11 rfl rfl rfl ?_
      refine X.cut [] i215_12 rfl ?_
      refine X.retl i215_12 rfl t215 ?_
      show X (EE s) d 208 82 [(0, zr g0 44), (1, zl v506), (3, zl v511), (5, zl v517)] [zl v506] m522 _
      refine X.aload_n 83 i208_82 rfl rfl rfl ?_
      refine X.getF 86 i208_83 rfl rfl (by decide) rfl rfl ?_
      refine X.iconst 87 i208_86 rfl rfl (by decide) ?_
      refine X.lald 88 i208_87 rfl rfl (by decide) rfl (by omega) ?_
      refine X.lcmp 89 i208_88 rfl rfl (fun z526 hz526 => ?_)
      refine X.ifge 120 92 i208_89 rfl rfl rfl (fun h527 => ?_) (fun h527 => ?_)
      · have h527c : v506 ≥ (m522 4 45 4) := by omega
        clear h527 hz526
        refine X.aload_n 121 i208_120 rfl rfl rfl ?_
        refine X.lload_n 122 i208_121 rfl rfl rfl ?_
        refine X.lload_n 123 i208_122 rfl rfl rfl ?_
        refine X.lload 125 i208_123 rfl rfl rfl ?_
        refine X.callv 128 [zl v506, zl v511, zl v517] [] [(0, zr g0 44), (1, zl v506), (3, zl v511), (5, zl v517)] i208_125 rfl (by decide) rfl rfl (by omega) rfl rfl (by decide) rfl t216 (Nat.le_of_ble_eq_true rfl) (Nat.le_of_ble_eq_true rfl) rfl ?_
        refine c216_1 (B := B) g0 v506 v511 v517 (by omega) (hJ523.up (by omega)) (by omega) (by omega) (by omega) (fun m528 hJ529 km528 => ?_)
        show X (EE s) d 208 128 [(0, zr g0 44), (1, zl v506), (3, zl v511), (5, zl v517)] [] m528 _
        refine X.cut [(0, zr g0 44)] i208_128 rfl ?_
        refine X.aload_n 129 i208_128 rfl rfl rfl ?_
        refine X.callv 132 [] [] [(0, zr g0 44)] i208_129 rfl (by decide) rfl rfl (by omega) rfl rfl (by decide) rfl t222 (Nat.le_of_ble_eq_true rfl) (Nat.le_of_ble_eq_true rfl) rfl ?_
        refine c222_1 (B := B) g0  (by omega) (hJ529.up (by omega)) (by omega)  (fun m531 hJ532 km531 => ?_)
        show X (EE s) d 208 132 [(0, zr g0 44)] [] m531 _
        refine X.aload_n 133 i208_132 rfl rfl rfl ?_
        refine X.callv 136 [] [] [(0, zr g0 44)] i208_133 rfl (by decide) rfl rfl (by omega) rfl rfl (by decide) rfl t224 (Nat.le_of_ble_eq_true rfl) (Nat.le_of_ble_eq_true rfl) rfl ?_
        refine c224_1 (B := B + 1) g0  (by omega) (hJ532.up (by omega)) (by omega)  (fun m534 hJ535 km534 => ?_)
        show X (EE s) d 208 136 [(0, zr g0 44)] [] m534 _
        refine X.aload_n 137 i208_136 rfl rfl rfl ?_
        refine X.callv 140 [] [] [(0, zr g0 44)] i208_137 rfl (by decide) rfl rfl (by omega) rfl rfl (by decide) rfl t230 (Nat.le_of_ble_eq_true rfl) (Nat.le_of_ble_eq_true rfl) rfl ?_
        refine c230_1 (B := B + 9) g0  (by omega) (hJ535.up (by omega)) (by omega)  (fun m537 hJ538 km537 => ?_)
        show X (EE s) d 208 140 [(0, zr g0 44)] [] m537 _
        refine X.retv i208_140 rfl t208 ?_
        exact hQ  m537  (hJ538.up (by omega)) (fun g => by simp only [km519, km522, km528, km531, km534, km537]) 
      · have h527c : v506 < (m522 4 45 4) := by omega
        clear h527 hz526
        refine X.lload_n 93 i208_92 rfl rfl rfl ?_
        refine X.calls 96 [zl v511] [] [(0, zl v511)] i208_93 (by decide) rfl rfl (by omega) rfl rfl t215 (Nat.le_of_ble_eq_true rfl) (Nat.le_of_ble_eq_true rfl) rfl ?_
        refine X.lload_n 1 i215_0 rfl rfl rfl ?_
        refine X.lconst (y := 0) 2 i215_1 rfl rfl rfl ?_
        refine X.lcmp 3 i215_2 rfl rfl (fun z540 hz540 => ?_)
        refine X.ifge 11 6 i215_3 rfl rfl rfl (fun h541 => ?_) (fun h541 => ?_)
        · have h541c : v511 ≥ 0 := by omega
          clear h541 hz540
          refine X.lload_n 12 i215_11 rfl rfl rfl ?_
          refine X.cut [] i215_12 rfl ?_
          refine X.retl i215_12 rfl t215 ?_
          show X (EE s) d 208 96 [(0, zr g0 44), (1, zl v506), (3, zl v511), (5, zl v517)] [zl v511] m522 _
          refine X.aload_n 97 i208_96 rfl rfl rfl ?_
          refine X.getF 100 i208_97 rfl rfl (by decide) rfl rfl ?_
          refine X.iconst 101 i208_100 rfl rfl (by decide) ?_
          refine X.lald 102 i208_101 rfl rfl (by decide) rfl (by omega) ?_
          refine X.lcmp 103 i208_102 rfl rfl (fun z542 hz542 => ?_)
          refine X.ifge 120 106 i208_103 rfl rfl rfl (fun h543 => ?_) (fun h543 => ?_)
          · have h543c : v511 ≥ (m522 4 45 4) := by omega
            clear h543 hz542
            refine X.aload_n 121 i208_120 rfl rfl rfl ?_
            refine X.lload_n 122 i208_121 rfl rfl rfl ?_
            refine X.lload_n 123 i208_122 rfl rfl rfl ?_
            refine X.lload 125 i208_123 rfl rfl rfl ?_
            refine X.callv 128 [zl v506, zl v511, zl v517] [] [(0, zr g0 44), (1, zl v506), (3, zl v511), (5, zl v517)] i208_125 rfl (by decide) rfl rfl (by omega) rfl rfl (by decide) rfl t216 (Nat.le_of_ble_eq_true rfl) (Nat.le_of_ble_eq_true rfl) rfl ?_
            refine c216_2 (B := B) g0 v506 v511 v517 (by omega) (hJ523.up (by omega)) (by omega) (by omega) (by omega) (by omega) (fun m544 hJ545 km544 => ?_)
            show X (EE s) d 208 128 [(0, zr g0 44), (1, zl v506), (3, zl v511), (5, zl v517)] [] m544 _
            refine X.cut [(0, zr g0 44)] i208_128 rfl ?_
            refine X.aload_n 129 i208_128 rfl rfl rfl ?_
            refine X.callv 132 [] [] [(0, zr g0 44)] i208_129 rfl (by decide) rfl rfl (by omega) rfl rfl (by decide) rfl t222 (Nat.le_of_ble_eq_true rfl) (Nat.le_of_ble_eq_true rfl) rfl ?_
            refine c222_1 (B := B) g0  (by omega) (hJ545.up (by omega)) (by omega)  (fun m547 hJ548 km547 => ?_)
            show X (EE s) d 208 132 [(0, zr g0 44)] [] m547 _
            refine X.aload_n 133 i208_132 rfl rfl rfl ?_
            refine X.callv 136 [] [] [(0, zr g0 44)] i208_133 rfl (by decide) rfl rfl (by omega) rfl rfl (by decide) rfl t224 (Nat.le_of_ble_eq_true rfl) (Nat.le_of_ble_eq_true rfl) rfl ?_
            refine c224_1 (B := B + 1) g0  (by omega) (hJ548.up (by omega)) (by omega)  (fun m550 hJ551 km550 => ?_)
            show X (EE s) d 208 136 [(0, zr g0 44)] [] m550 _
            refine X.aload_n 137 i208_136 rfl rfl rfl ?_
            refine X.callv 140 [] [] [(0, zr g0 44)] i208_137 rfl (by decide) rfl rfl (by omega) rfl rfl (by decide) rfl t230 (Nat.le_of_ble_eq_true rfl) (Nat.le_of_ble_eq_true rfl) rfl ?_
            refine c230_1 (B := B + 9) g0  (by omega) (hJ551.up (by omega)) (by omega)  (fun m553 hJ554 km553 => ?_)
            show X (EE s) d 208 140 [(0, zr g0 44)] [] m553 _
            refine X.retv i208_140 rfl t208 ?_
            exact hQ  m553  (hJ554.up (by omega)) (fun g => by simp only [km519, km522, km544, km547, km550, km553]) 
          · have h543c : v511 < (m522 4 45 4) := by omega
            clear h543 hz542
            refine X.aload_n 107 i208_106 rfl rfl rfl ?_
            refine X.getF 110 i208_107 rfl rfl (by decide) rfl rfl ?_
            refine X.bipush 112 i208_110 rfl rfl (by decide) ?_
            refine X.dup2 113 i208_112 rfl rfl ?_
            refine X.lald 114 i208_113 rfl rfl (by decide) rfl (by omega) ?_
            refine X.lconst (y := 1) 115 i208_114 rfl rfl rfl ?_
            refine X.llF 116 .ladd (fun x y => x + y) i208_115 rfl rfl rfl (fun _ _ => rfl) (fun z556 hz556 => ?_)
            refine X.last' 117 i208_116 rfl rfl (by decide) rfl (by omega) (fun hrm557 m557 hm557 => ?_)
            have hJ558 := w45_13 hJ523 hm557 (by omega) hrm557
            have km557 : ∀ g, m557 g 8 9 = m522 g 8 9 := fun g9 => by rw [hm557]; exact z_upd_o _ _ rfl
            refine X.goto 128 i208_117 rfl rfl ?_
            refine X.cut [(0, zr g0 44)] i208_128 rfl ?_
            refine X.aload_n 129 i208_128 rfl rfl rfl ?_
            refine X.callv 132 [] [] [(0, zr g0 44)] i208_129 rfl (by decide) rfl rfl (by omega) rfl rfl (by decide) rfl t222 (Nat.le_of_ble_eq_true rfl) (Nat.le_of_ble_eq_true rfl) rfl ?_
            refine c222_1 (B := B) g0  (by omega) (hJ558.up (by omega)) (by omega)  (fun m559 hJ560 km559 => ?_)
            show X (EE s) d 208 132 [(0, zr g0 44)] [] m559 _
            refine X.aload_n 133 i208_132 rfl rfl rfl ?_
            refine X.callv 136 [] [] [(0, zr g0 44)] i208_133 rfl (by decide) rfl rfl (by omega) rfl rfl (by decide) rfl t224 (Nat.le_of_ble_eq_true rfl) (Nat.le_of_ble_eq_true rfl) rfl ?_
            refine c224_1 (B := B + 1) g0  (by omega) (hJ560.up (by omega)) (by omega)  (fun m562 hJ563 km562 => ?_)
            show X (EE s) d 208 136 [(0, zr g0 44)] [] m562 _
            refine X.aload_n 137 i208_136 rfl rfl rfl ?_
            refine X.callv 140 [] [] [(0, zr g0 44)] i208_137 rfl (by decide) rfl rfl (by omega) rfl rfl (by decide) rfl t230 (Nat.le_of_ble_eq_true rfl) (Nat.le_of_ble_eq_true rfl) rfl ?_
            refine c230_1 (B := B + 9) g0  (by omega) (hJ563.up (by omega)) (by omega)  (fun m565 hJ566 km565 => ?_)
            show X (EE s) d 208 140 [(0, zr g0 44)] [] m565 _
            refine X.retv i208_140 rfl t208 ?_
            exact hQ  m565  (hJ566.up (by omega)) (fun g => by simp only [km519, km522, km557, km559, km562, km565]) 
        · have h541c : v511 < 0 := by omega
          clear h541 hz540
          refine X.lload_n 7 i215_6 rfl rfl rfl ?_
          refine X.lnegF 8 i215_7 rfl rfl (fun z568 hz568 => ?_)
          refine X.goto 12 i215_8 rfl rfl ?_
          refine X.cut [] i215_12 rfl ?_
          refine X.retl i215_12 rfl t215 ?_
          show X (EE s) d 208 96 [(0, zr g0 44), (1, zl v506), (3, zl v511), (5, zl v517)] [zl z568] m522 _
          refine X.aload_n 97 i208_96 rfl rfl rfl ?_
          refine X.getF 100 i208_97 rfl rfl (by decide) rfl rfl ?_
          refine X.iconst 101 i208_100 rfl rfl (by decide) ?_
          refine X.lald 102 i208_101 rfl rfl (by decide) rfl (by omega) ?_
          refine X.lcmp 103 i208_102 rfl rfl (fun z569 hz569 => ?_)
          refine X.ifge 120 106 i208_103 rfl rfl rfl (fun h570 => ?_) (fun h570 => ?_)
          · have h570c : z568 ≥ (m522 4 45 4) := by omega
            clear h570 hz569
            refine X.aload_n 121 i208_120 rfl rfl rfl ?_
            refine X.lload_n 122 i208_121 rfl rfl rfl ?_
            refine X.lload_n 123 i208_122 rfl rfl rfl ?_
            refine X.lload 125 i208_123 rfl rfl rfl ?_
            refine X.callv 128 [zl v506, zl v511, zl v517] [] [(0, zr g0 44), (1, zl v506), (3, zl v511), (5, zl v517)] i208_125 rfl (by decide) rfl rfl (by omega) rfl rfl (by decide) rfl t216 (Nat.le_of_ble_eq_true rfl) (Nat.le_of_ble_eq_true rfl) rfl ?_
            refine c216_3 (B := B) g0 v506 v511 v517 (by omega) (hJ523.up (by omega)) (by omega) (by omega) (by omega) (by omega) (fun m571 hJ572 km571 => ?_)
            show X (EE s) d 208 128 [(0, zr g0 44), (1, zl v506), (3, zl v511), (5, zl v517)] [] m571 _
            refine X.cut [(0, zr g0 44)] i208_128 rfl ?_
            refine X.aload_n 129 i208_128 rfl rfl rfl ?_
            refine X.callv 132 [] [] [(0, zr g0 44)] i208_129 rfl (by decide) rfl rfl (by omega) rfl rfl (by decide) rfl t222 (Nat.le_of_ble_eq_true rfl) (Nat.le_of_ble_eq_true rfl) rfl ?_
            refine c222_1 (B := B) g0  (by omega) (hJ572.up (by omega)) (by omega)  (fun m574 hJ575 km574 => ?_)
            show X (EE s) d 208 132 [(0, zr g0 44)] [] m574 _
            refine X.aload_n 133 i208_132 rfl rfl rfl ?_
            refine X.callv 136 [] [] [(0, zr g0 44)] i208_133 rfl (by decide) rfl rfl (by omega) rfl rfl (by decide) rfl t224 (Nat.le_of_ble_eq_true rfl) (Nat.le_of_ble_eq_true rfl) rfl ?_
            refine c224_1 (B := B + 1) g0  (by omega) (hJ575.up (by omega)) (by omega)  (fun m577 hJ578 km577 => ?_)
            show X (EE s) d 208 136 [(0, zr g0 44)] [] m577 _
            refine X.aload_n 137 i208_136 rfl rfl rfl ?_
            refine X.callv 140 [] [] [(0, zr g0 44)] i208_137 rfl (by decide) rfl rfl (by omega) rfl rfl (by decide) rfl t230 (Nat.le_of_ble_eq_true rfl) (Nat.le_of_ble_eq_true rfl) rfl ?_
            refine c230_1 (B := B + 9) g0  (by omega) (hJ578.up (by omega)) (by omega)  (fun m580 hJ581 km580 => ?_)
            show X (EE s) d 208 140 [(0, zr g0 44)] [] m580 _
            refine X.retv i208_140 rfl t208 ?_
            exact hQ  m580  (hJ581.up (by omega)) (fun g => by simp only [km519, km522, km571, km574, km577, km580]) 
          · have h570c : z568 < (m522 4 45 4) := by omega
            clear h570 hz569
            refine X.aload_n 107 i208_106 rfl rfl rfl ?_
            refine X.getF 110 i208_107 rfl rfl (by decide) rfl rfl ?_
            refine X.bipush 112 i208_110 rfl rfl (by decide) ?_
            refine X.dup2 113 i208_112 rfl rfl ?_
            refine X.lald 114 i208_113 rfl rfl (by decide) rfl (by omega) ?_
            refine X.lconst (y := 1) 115 i208_114 rfl rfl rfl ?_
            refine X.llF 116 .ladd (fun x y => x + y) i208_115 rfl rfl rfl (fun _ _ => rfl) (fun z583 hz583 => ?_)
            refine X.last' 117 i208_116 rfl rfl (by decide) rfl (by omega) (fun hrm584 m584 hm584 => ?_)
            have hJ585 := w45_13 hJ523 hm584 (by omega) hrm584
            have km584 : ∀ g, m584 g 8 9 = m522 g 8 9 := fun g9 => by rw [hm584]; exact z_upd_o _ _ rfl
            refine X.goto 128 i208_117 rfl rfl ?_
            refine X.cut [(0, zr g0 44)] i208_128 rfl ?_
            refine X.aload_n 129 i208_128 rfl rfl rfl ?_
            refine X.callv 132 [] [] [(0, zr g0 44)] i208_129 rfl (by decide) rfl rfl (by omega) rfl rfl (by decide) rfl t222 (Nat.le_of_ble_eq_true rfl) (Nat.le_of_ble_eq_true rfl) rfl ?_
            refine c222_1 (B := B) g0  (by omega) (hJ585.up (by omega)) (by omega)  (fun m586 hJ587 km586 => ?_)
            show X (EE s) d 208 132 [(0, zr g0 44)] [] m586 _
            refine X.aload_n 133 i208_132 rfl rfl rfl ?_
            refine X.callv 136 [] [] [(0, zr g0 44)] i208_133 rfl (by decide) rfl rfl (by omega) rfl rfl (by decide) rfl t224 (Nat.le_of_ble_eq_true rfl) (Nat.le_of_ble_eq_true rfl) rfl ?_
            refine c224_1 (B := B + 1) g0  (by omega) (hJ587.up (by omega)) (by omega)  (fun m589 hJ590 km589 => ?_)
            show X (EE s) d 208 136 [(0, zr g0 44)] [] m589 _
            refine X.aload_n 137 i208_136 rfl rfl rfl ?_
            refine X.callv 140 [] [] [(0, zr g0 44)] i208_137 rfl (by decide) rfl rfl (by omega) rfl rfl (by decide) rfl t230 (Nat.le_of_ble_eq_true rfl) (Nat.le_of_ble_eq_true rfl) rfl ?_
            refine c230_1 (B := B + 9) g0  (by omega) (hJ590.up (by omega)) (by omega)  (fun m592 hJ593 km592 => ?_)
            show X (EE s) d 208 140 [(0, zr g0 44)] [] m592 _
            refine X.retv i208_140 rfl t208 ?_
            exact hQ  m592  (hJ593.up (by omega)) (fun g => by simp only [km519, km522, km584, km586, km589, km592]) 
    · have h525c : v506 < 0 := by omega
      clear h525 hz524
      refine X.lload_n 7 i215_6 rfl rfl rfl ?_
      refine X.lnegF 8 i215_7 rfl rfl (fun z595 hz595 => ?_)
      refine X.goto 12 i215_8 rfl rfl ?_
      refine X.cut [] i215_12 rfl ?_
      refine X.retl i215_12 rfl t215 ?_
      show X (EE s) d 208 82 [(0, zr g0 44), (1, zl v506), (3, zl v511), (5, zl v517)] [zl z595] m522 _
      refine X.aload_n 83 i208_82 rfl rfl rfl ?_
      refine X.getF 86 i208_83 rfl rfl (by decide) rfl rfl ?_
      refine X.iconst 87 i208_86 rfl rfl (by decide) ?_
      refine X.lald 88 i208_87 rfl rfl (by decide) rfl (by omega) ?_
      refine X.lcmp 89 i208_88 rfl rfl (fun z596 hz596 => ?_)
      refine X.ifge 120 92 i208_89 rfl rfl rfl (fun h597 => ?_) (fun h597 => ?_)
      · have h597c : z595 ≥ (m522 4 45 4) := by omega
        clear h597 hz596
        refine X.aload_n 121 i208_120 rfl rfl rfl ?_
        refine X.lload_n 122 i208_121 rfl rfl rfl ?_
        refine X.lload_n 123 i208_122 rfl rfl rfl ?_
        refine X.lload 125 i208_123 rfl rfl rfl ?_
        refine X.callv 128 [zl v506, zl v511, zl v517] [] [(0, zr g0 44), (1, zl v506), (3, zl v511), (5, zl v517)] i208_125 rfl (by decide) rfl rfl (by omega) rfl rfl (by decide) rfl t216 (Nat.le_of_ble_eq_true rfl) (Nat.le_of_ble_eq_true rfl) rfl ?_
        refine c216_4 (B := B) g0 v506 v511 v517 (by omega) (hJ523.up (by omega)) (by omega) (by omega) (by omega) (fun m598 hJ599 km598 => ?_)
        show X (EE s) d 208 128 [(0, zr g0 44), (1, zl v506), (3, zl v511), (5, zl v517)] [] m598 _
        refine X.cut [(0, zr g0 44)] i208_128 rfl ?_
        refine X.aload_n 129 i208_128 rfl rfl rfl ?_
        refine X.callv 132 [] [] [(0, zr g0 44)] i208_129 rfl (by decide) rfl rfl (by omega) rfl rfl (by decide) rfl t222 (Nat.le_of_ble_eq_true rfl) (Nat.le_of_ble_eq_true rfl) rfl ?_
        refine c222_1 (B := B) g0  (by omega) (hJ599.up (by omega)) (by omega)  (fun m601 hJ602 km601 => ?_)
        show X (EE s) d 208 132 [(0, zr g0 44)] [] m601 _
        refine X.aload_n 133 i208_132 rfl rfl rfl ?_
        refine X.callv 136 [] [] [(0, zr g0 44)] i208_133 rfl (by decide) rfl rfl (by omega) rfl rfl (by decide) rfl t224 (Nat.le_of_ble_eq_true rfl) (Nat.le_of_ble_eq_true rfl) rfl ?_
        refine c224_1 (B := B + 1) g0  (by omega) (hJ602.up (by omega)) (by omega)  (fun m604 hJ605 km604 => ?_)
        show X (EE s) d 208 136 [(0, zr g0 44)] [] m604 _
        refine X.aload_n 137 i208_136 rfl rfl rfl ?_
        refine X.callv 140 [] [] [(0, zr g0 44)] i208_137 rfl (by decide) rfl rfl (by omega) rfl rfl (by decide) rfl t230 (Nat.le_of_ble_eq_true rfl) (Nat.le_of_ble_eq_true rfl) rfl ?_
        refine c230_1 (B := B + 9) g0  (by omega) (hJ605.up (by omega)) (by omega)  (fun m607 hJ608 km607 => ?_)
        show X (EE s) d 208 140 [(0, zr g0 44)] [] m607 _
        refine X.retv i208_140 rfl t208 ?_
        exact hQ  m607  (hJ608.up (by omega)) (fun g => by simp only [km519, km522, km598, km601, km604, km607]) 
      · have h597c : z595 < (m522 4 45 4) := by omega
        clear h597 hz596
        refine X.lload_n 93 i208_92 rfl rfl rfl ?_
        refine X.calls 96 [zl v511] [] [(0, zl v511)] i208_93 (by decide) rfl rfl (by omega) rfl rfl t215 (Nat.le_of_ble_eq_true rfl) (Nat.le_of_ble_eq_true rfl) rfl ?_
        refine X.lload_n 1 i215_0 rfl rfl rfl ?_
        refine X.lconst (y := 0) 2 i215_1 rfl rfl rfl ?_
        refine X.lcmp 3 i215_2 rfl rfl (fun z610 hz610 => ?_)
        refine X.ifge 11 6 i215_3 rfl rfl rfl (fun h611 => ?_) (fun h611 => ?_)
        · have h611c : v511 ≥ 0 := by omega
          clear h611 hz610
          refine X.lload_n 12 i215_11 rfl rfl rfl ?_
          refine X.cut [] i215_12 rfl ?_
          refine X.retl i215_12 rfl t215 ?_
          show X (EE s) d 208 96 [(0, zr g0 44), (1, zl v506), (3, zl v511), (5, zl v517)] [zl v511] m522 _
          refine X.aload_n 97 i208_96 rfl rfl rfl ?_
          refine X.getF 100 i208_97 rfl rfl (by decide) rfl rfl ?_
          refine X.iconst 101 i208_100 rfl rfl (by decide) ?_
          refine X.lald 102 i208_101 rfl rfl (by decide) rfl (by omega) ?_
          refine X.lcmp 103 i208_102 rfl rfl (fun z612 hz612 => ?_)
          refine X.ifge 120 106 i208_103 rfl rfl rfl (fun h613 => ?_) (fun h613 => ?_)
          · have h613c : v511 ≥ (m522 4 45 4) := by omega
            clear h613 hz612
            refine X.aload_n 121 i208_120 rfl rfl rfl ?_
            refine X.lload_n 122 i208_121 rfl rfl rfl ?_
            refine X.lload_n 123 i208_122 rfl rfl rfl ?_
            refine X.lload 125 i208_123 rfl rfl rfl ?_
            refine X.callv 128 [zl v506, zl v511, zl v517] [] [(0, zr g0 44), (1, zl v506), (3, zl v511), (5, zl v517)] i208_125 rfl (by decide) rfl rfl (by omega) rfl rfl (by decide) rfl t216 (Nat.le_of_ble_eq_true rfl) (Nat.le_of_ble_eq_true rfl) rfl ?_
            refine c216_5 (B := B) g0 v506 v511 v517 (by omega) (hJ523.up (by omega)) (by omega) (by omega) (by omega) (by omega) (fun m614 hJ615 km614 => ?_)
            show X (EE s) d 208 128 [(0, zr g0 44), (1, zl v506), (3, zl v511), (5, zl v517)] [] m614 _
            refine X.cut [(0, zr g0 44)] i208_128 rfl ?_
            refine X.aload_n 129 i208_128 rfl rfl rfl ?_
            refine X.callv 132 [] [] [(0, zr g0 44)] i208_129 rfl (by decide) rfl rfl (by omega) rfl rfl (by decide) rfl t222 (Nat.le_of_ble_eq_true rfl) (Nat.le_of_ble_eq_true rfl) rfl ?_
            refine c222_1 (B := B) g0  (by omega) (hJ615.up (by omega)) (by omega)  (fun m617 hJ618 km617 => ?_)
            show X (EE s) d 208 132 [(0, zr g0 44)] [] m617 _
            refine X.aload_n 133 i208_132 rfl rfl rfl ?_
            refine X.callv 136 [] [] [(0, zr g0 44)] i208_133 rfl (by decide) rfl rfl (by omega) rfl rfl (by decide) rfl t224 (Nat.le_of_ble_eq_true rfl) (Nat.le_of_ble_eq_true rfl) rfl ?_
            refine c224_1 (B := B + 1) g0  (by omega) (hJ618.up (by omega)) (by omega)  (fun m620 hJ621 km620 => ?_)
            show X (EE s) d 208 136 [(0, zr g0 44)] [] m620 _
            refine X.aload_n 137 i208_136 rfl rfl rfl ?_
            refine X.callv 140 [] [] [(0, zr g0 44)] i208_137 rfl (by decide) rfl rfl (by omega) rfl rfl (by decide) rfl t230 (Nat.le_of_ble_eq_true rfl) (Nat.le_of_ble_eq_true rfl) rfl ?_
            refine c230_1 (B := B + 9) g0  (by omega) (hJ621.up (by omega)) (by omega)  (fun m623 hJ624 km623 => ?_)
            show X (EE s) d 208 140 [(0, zr g0 44)] [] m623 _
            refine X.retv i208_140 rfl t208 ?_
            exact hQ  m623  (hJ624.up (by omega)) (fun g => by simp only [km519, km522, km614, km617, km620, km623]) 
          · have h613c : v511 < (m522 4 45 4) := by omega
            clear h613 hz612
            refine X.aload_n 107 i208_106 rfl rfl rfl ?_
            refine X.getF 110 i208_107 rfl rfl (by decide) rfl rfl ?_
            refine X.bipush 112 i208_110 rfl rfl (by decide) ?_
            refine X.dup2 113 i208_112 rfl rfl ?_
            refine X.lald 114 i208_113 rfl rfl (by decide) rfl (by omega) ?_
            refine X.lconst (y := 1) 115 i208_114 rfl rfl rfl ?_
            refine X.llF 116 .ladd (fun x y => x + y) i208_115 rfl rfl rfl (fun _ _ => rfl) (fun z626 hz626 => ?_)
            refine X.last' 117 i208_116 rfl rfl (by decide) rfl (by omega) (fun hrm627 m627 hm627 => ?_)
            have hJ628 := w45_13 hJ523 hm627 (by omega) hrm627
            have km627 : ∀ g, m627 g 8 9 = m522 g 8 9 := fun g9 => by rw [hm627]; exact z_upd_o _ _ rfl
            refine X.goto 128 i208_117 rfl rfl ?_
            refine X.cut [(0, zr g0 44)] i208_128 rfl ?_
            refine X.aload_n 129 i208_128 rfl rfl rfl ?_
            refine X.callv 132 [] [] [(0, zr g0 44)] i208_129 rfl (by decide) rfl rfl (by omega) rfl rfl (by decide) rfl t222 (Nat.le_of_ble_eq_true rfl) (Nat.le_of_ble_eq_true rfl) rfl ?_
            refine c222_1 (B := B) g0  (by omega) (hJ628.up (by omega)) (by omega)  (fun m629 hJ630 km629 => ?_)
            show X (EE s) d 208 132 [(0, zr g0 44)] [] m629 _
            refine X.aload_n 133 i208_132 rfl rfl rfl ?_
            refine X.callv 136 [] [] [(0, zr g0 44)] i208_133 rfl (by decide) rfl rfl (by omega) rfl rfl (by decide) rfl t224 (Nat.le_of_ble_eq_true rfl) (Nat.le_of_ble_eq_true rfl) rfl ?_
            refine c224_1 (B := B + 1) g0  (by omega) (hJ630.up (by omega)) (by omega)  (fun m632 hJ633 km632 => ?_)
            show X (EE s) d 208 136 [(0, zr g0 44)] [] m632 _
            refine X.aload_n 137 i208_136 rfl rfl rfl ?_
            refine X.callv 140 [] [] [(0, zr g0 44)] i208_137 rfl (by decide) rfl rfl (by omega) rfl rfl (by decide) rfl t230 (Nat.le_of_ble_eq_true rfl) (Nat.le_of_ble_eq_true rfl) rfl ?_
            refine c230_1 (B := B + 9) g0  (by omega) (hJ633.up (by omega)) (by omega)  (fun m635 hJ636 km635 => ?_)
            show X (EE s) d 208 140 [(0, zr g0 44)] [] m635 _
            refine X.retv i208_140 rfl t208 ?_
            exact hQ  m635  (hJ636.up (by omega)) (fun g => by simp only [km519, km522, km627, km629, km632, km635]) 
        · have h611c : v511 < 0 := by omega
          clear h611 hz610
          refine X.lload_n 7 i215_6 rfl rfl rfl ?_
          refine X.lnegF 8 i215_7 rfl rfl (fun z638 hz638 => ?_)
          refine X.goto 12 i215_8 rfl rfl ?_
          refine X.cut [] i215_12 rfl ?_
          refine X.retl i215_12 rfl t215 ?_
          show X (EE s) d 208 96 [(0, zr g0 44), (1, zl v506), (3, zl v511), (5, zl v517)] [zl z638] m522 _
          refine X.aload_n 97 i208_96 rfl rfl rfl ?_
          refine X.getF 100 i208_97 rfl rfl (by decide) rfl rfl ?_
          refine X.iconst 101 i208_100 rfl rfl (by decide) ?_
          refine X.lald 102 i208_101 rfl rfl (by decide) rfl (by omega) ?_
          refine X.lcmp 103 i208_102 rfl rfl (fun z639 hz639 => ?_)
          refine X.ifge 120 106 i208_103 rfl rfl rfl (fun h640 => ?_) (fun h640 => ?_)
          · have h640c : z638 ≥ (m522 4 45 4) := by omega
            clear h640 hz639
            refine X.aload_n 121 i208_120 rfl rfl rfl ?_
            refine X.lload_n 122 i208_121 rfl rfl rfl ?_
            refine X.lload_n 123 i208_122 rfl rfl rfl ?_
            refine X.lload 125 i208_123 rfl rfl rfl ?_
            refine X.callv 128 [zl v506, zl v511, zl v517] [] [(0, zr g0 44), (1, zl v506), (3, zl v511), (5, zl v517)] i208_125 rfl (by decide) rfl rfl (by omega) rfl rfl (by decide) rfl t216 (Nat.le_of_ble_eq_true rfl) (Nat.le_of_ble_eq_true rfl) rfl ?_
            refine c216_6 (B := B) g0 v506 v511 v517 (by omega) (hJ523.up (by omega)) (by omega) (by omega) (by omega) (by omega) (fun m641 hJ642 km641 => ?_)
            show X (EE s) d 208 128 [(0, zr g0 44), (1, zl v506), (3, zl v511), (5, zl v517)] [] m641 _
            refine X.cut [(0, zr g0 44)] i208_128 rfl ?_
            refine X.aload_n 129 i208_128 rfl rfl rfl ?_
            refine X.callv 132 [] [] [(0, zr g0 44)] i208_129 rfl (by decide) rfl rfl (by omega) rfl rfl (by decide) rfl t222 (Nat.le_of_ble_eq_true rfl) (Nat.le_of_ble_eq_true rfl) rfl ?_
            refine c222_1 (B := B) g0  (by omega) (hJ642.up (by omega)) (by omega)  (fun m644 hJ645 km644 => ?_)
            show X (EE s) d 208 132 [(0, zr g0 44)] [] m644 _
            refine X.aload_n 133 i208_132 rfl rfl rfl ?_
            refine X.callv 136 [] [] [(0, zr g0 44)] i208_133 rfl (by decide) rfl rfl (by omega) rfl rfl (by decide) rfl t224 (Nat.le_of_ble_eq_true rfl) (Nat.le_of_ble_eq_true rfl) rfl ?_
            refine c224_1 (B := B + 1) g0  (by omega) (hJ645.up (by omega)) (by omega)  (fun m647 hJ648 km647 => ?_)
            show X (EE s) d 208 136 [(0, zr g0 44)] [] m647 _
            refine X.aload_n 137 i208_136 rfl rfl rfl ?_
            refine X.callv 140 [] [] [(0, zr g0 44)] i208_137 rfl (by decide) rfl rfl (by omega) rfl rfl (by decide) rfl t230 (Nat.le_of_ble_eq_true rfl) (Nat.le_of_ble_eq_true rfl) rfl ?_
            refine c230_1 (B := B + 9) g0  (by omega) (hJ648.up (by omega)) (by omega)  (fun m650 hJ651 km650 => ?_)
            show X (EE s) d 208 140 [(0, zr g0 44)] [] m650 _
            refine X.retv i208_140 rfl t208 ?_
            exact hQ  m650  (hJ651.up (by omega)) (fun g => by simp only [km519, km522, km641, km644, km647, km650]) 
          · have h640c : z638 < (m522 4 45 4) := by omega
            clear h640 hz639
            refine X.aload_n 107 i208_106 rfl rfl rfl ?_
            refine X.getF 110 i208_107 rfl rfl (by decide) rfl rfl ?_
            refine X.bipush 112 i208_110 rfl rfl (by decide) ?_
            refine X.dup2 113 i208_112 rfl rfl ?_
            refine X.lald 114 i208_113 rfl rfl (by decide) rfl (by omega) ?_
            refine X.lconst (y := 1) 115 i208_114 rfl rfl rfl ?_
            refine X.llF 116 .ladd (fun x y => x + y) i208_115 rfl rfl rfl (fun _ _ => rfl) (fun z653 hz653 => ?_)
            refine X.last' 117 i208_116 rfl rfl (by decide) rfl (by omega) (fun hrm654 m654 hm654 => ?_)
            have hJ655 := w45_13 hJ523 hm654 (by omega) hrm654
            have km654 : ∀ g, m654 g 8 9 = m522 g 8 9 := fun g9 => by rw [hm654]; exact z_upd_o _ _ rfl
            refine X.goto 128 i208_117 rfl rfl ?_
            refine X.cut [(0, zr g0 44)] i208_128 rfl ?_
            refine X.aload_n 129 i208_128 rfl rfl rfl ?_
            refine X.callv 132 [] [] [(0, zr g0 44)] i208_129 rfl (by decide) rfl rfl (by omega) rfl rfl (by decide) rfl t222 (Nat.le_of_ble_eq_true rfl) (Nat.le_of_ble_eq_true rfl) rfl ?_
            refine c222_1 (B := B) g0  (by omega) (hJ655.up (by omega)) (by omega)  (fun m656 hJ657 km656 => ?_)
            show X (EE s) d 208 132 [(0, zr g0 44)] [] m656 _
            refine X.aload_n 133 i208_132 rfl rfl rfl ?_
            refine X.callv 136 [] [] [(0, zr g0 44)] i208_133 rfl (by decide) rfl rfl (by omega) rfl rfl (by decide) rfl t224 (Nat.le_of_ble_eq_true rfl) (Nat.le_of_ble_eq_true rfl) rfl ?_
            refine c224_1 (B := B + 1) g0  (by omega) (hJ657.up (by omega)) (by omega)  (fun m659 hJ660 km659 => ?_)
            show X (EE s) d 208 136 [(0, zr g0 44)] [] m659 _
            refine X.aload_n 137 i208_136 rfl rfl rfl ?_
            refine X.callv 140 [] [] [(0, zr g0 44)] i208_137 rfl (by decide) rfl rfl (by omega) rfl rfl (by decide) rfl t230 (Nat.le_of_ble_eq_true rfl) (Nat.le_of_ble_eq_true rfl) rfl ?_
            refine c230_1 (B := B + 9) g0  (by omega) (hJ660.up (by omega)) (by omega)  (fun m662 hJ663 km662 => ?_)
            show X (EE s) d 208 140 [(0, zr g0 44)] [] m662 _
            refine X.retv i208_140 rfl t208 ?_
            exact hQ  m662  (hJ663.up (by omega)) (fun g => by simp only [km519, km522, km654, km656, km659, km662]) 
  · have h503c : (m 4 45 12) = 1 := by omega
    clear h503 hz502
    refine X.lconst (y := 0) 13 i208_12 rfl rfl rfl ?_
    refine X.goto 21 i208_13 rfl rfl ?_
    refine X.lstore_n 22 [(0, zr g0 44), (1, zl 0)] i208_21 rfl rfl rfl ?_
    refine X.aload_n 23 i208_22 rfl rfl rfl ?_
    refine X.getF 26 i208_23 rfl rfl (by decide) rfl rfl ?_
    refine X.bipush 28 i208_26 rfl rfl (by decide) ?_
    refine X.lald 29 i208_28 rfl rfl (by decide) rfl (by omega) ?_
    refine X.lconst (y := 1) 30 i208_29 rfl rfl rfl ?_
    refine X.lcmp 31 i208_30 rfl rfl (fun z665 hz665 => ?_)
    refine X.ifne 38 34 i208_31 rfl rfl rfl (fun h666 => (by exfalso; omega)) (fun h666 => ?_)
    have h666c : (m 4 45 12) = 1 := by omega
    clear h666 hz665
    refine X.lconst (y := 0) 35 i208_34 rfl rfl rfl ?_
    refine X.goto 43 i208_35 rfl rfl ?_
    refine X.lstore_n 44 [(0, zr g0 44), (1, zl 0), (3, zl 0)] i208_43 rfl rfl rfl ?_
    refine X.lload_n 45 i208_44 rfl rfl rfl ?_
    refine X.lload_n 46 i208_45 rfl rfl rfl ?_
    refine X.lmul 47 i208_46 rfl rfl (by omega) ?_
    refine X.lload_n 48 i208_47 rfl rfl rfl ?_
    refine X.lload_n 49 i208_48 rfl rfl rfl ?_
    refine X.lmul 50 i208_49 rfl rfl (by omega) ?_
    refine X.ladd 51 i208_50 rfl rfl (by omega) ?_
    refine X.calls 54 [zl ((0 * 0) + (0 * 0))] [] [(0, zl ((0 * 0) + (0 * 0)))] i208_51 (by decide) rfl rfl (by omega) rfl rfl t214 (Nat.le_of_ble_eq_true rfl) (Nat.le_of_ble_eq_true rfl) rfl ?_
    refine c214_1 (B := B)  ((0 * 0) + (0 * 0)) (by omega) (hJ.up (by omega)) (by omega)  (fun v669 hv669 => ?_)
    show X (EE s) d 208 54 [(0, zr g0 44), (1, zl 0), (3, zl 0)] [zl v669] m _
    refine X.lstore 56 [(0, zr g0 44), (1, zl 0), (3, zl 0), (5, zl v669)] i208_54 rfl rfl rfl ?_
    refine X.aload_n 57 i208_56 rfl rfl rfl ?_
    refine X.getF 60 i208_57 rfl rfl (by decide) rfl rfl ?_
    refine X.bipush 62 i208_60 rfl rfl (by decide) ?_
    refine X.dup2 63 i208_62 rfl rfl ?_
    refine X.lald 64 i208_63 rfl rfl (by decide) rfl (by omega) ?_
    refine X.lconst (y := 1) 65 i208_64 rfl rfl rfl ?_
    refine X.llF 66 .ladd (fun x y => x + y) i208_65 rfl rfl rfl (fun _ _ => rfl) (fun z670 hz670 => ?_)
    refine X.last' 67 i208_66 rfl rfl (by decide) rfl (by omega) (fun hrm671 m671 hm671 => ?_)
    have hJ672 := w45_13 hJ hm671 (by omega) hrm671
    have km671 : ∀ g, m671 g 8 9 = m g 8 9 := fun g9 => by rw [hm671]; exact z_upd_o _ _ rfl
    refine X.aload_n 68 i208_67 rfl rfl rfl ?_
    refine X.getF 71 i208_68 rfl rfl (by decide) rfl rfl ?_
    refine X.bipush 73 i208_71 rfl rfl (by decide) ?_
    refine X.dup2 74 i208_73 rfl rfl ?_
    refine X.lald 75 i208_74 rfl rfl (by decide) rfl (by omega) ?_
    refine X.lconst (y := 1) 76 i208_75 rfl rfl rfl ?_
    refine X.llF 77 .ladd (fun x y => x + y) i208_76 rfl rfl rfl (fun _ _ => rfl) (fun z673 hz673 => ?_)
    refine X.last' 78 i208_77 rfl rfl (by decide) rfl (by omega) (fun hrm674 m674 hm674 => ?_)
    have hJ675 := w45_19 hJ672 hm674 (by omega) hrm674
    have km674 : ∀ g, m674 g 8 9 = m671 g 8 9 := fun g9 => by rw [hm674]; exact z_upd_o _ _ rfl
    refine X.lload_n 79 i208_78 rfl rfl rfl ?_
    refine X.calls 82 [zl 0] [] [(0, zl 0)] i208_79 (by decide) rfl rfl (by omega) rfl rfl t215 (Nat.le_of_ble_eq_true rfl) (Nat.le_of_ble_eq_true rfl) rfl ?_
    refine X.lload_n 1 i215_0 rfl rfl rfl ?_
    refine X.lconst (y := 0) 2 i215_1 rfl rfl rfl ?_
    refine X.lcmp 3 i215_2 rfl rfl (fun z676 hz676 => ?_)
    refine X.ifge 11 6 i215_3 rfl rfl rfl (fun h677 => ?_) (fun h677 => (by exfalso; omega))
    have h677c : 0 ≥ 0 := by omega
    clear h677 hz676
    refine X.lload_n 12 i215_11 rfl rfl rfl ?_
    refine X.cut [] i215_12 rfl ?_
    refine X.retl i215_12 rfl t215 ?_
    show X (EE s) d 208 82 [(0, zr g0 44), (1, zl 0), (3, zl 0), (5, zl v669)] [zl 0] m674 _
    refine X.aload_n 83 i208_82 rfl rfl rfl ?_
    refine X.getF 86 i208_83 rfl rfl (by decide) rfl rfl ?_
    refine X.iconst 87 i208_86 rfl rfl (by decide) ?_
    refine X.lald 88 i208_87 rfl rfl (by decide) rfl (by omega) ?_
    refine X.lcmp 89 i208_88 rfl rfl (fun z678 hz678 => ?_)
    refine X.ifge 120 92 i208_89 rfl rfl rfl (fun h679 => ?_) (fun h679 => ?_)
    · have h679c : 0 ≥ (m674 4 45 4) := by omega
      clear h679 hz678
      refine X.aload_n 121 i208_120 rfl rfl rfl ?_
      refine X.lload_n 122 i208_121 rfl rfl rfl ?_
      refine X.lload_n 123 i208_122 rfl rfl rfl ?_
      refine X.lload 125 i208_123 rfl rfl rfl ?_
      refine X.callv 128 [zl 0, zl 0, zl v669] [] [(0, zr g0 44), (1, zl 0), (3, zl 0), (5, zl v669)] i208_125 rfl (by decide) rfl rfl (by omega) rfl rfl (by decide) rfl t216 (Nat.le_of_ble_eq_true rfl) (Nat.le_of_ble_eq_true rfl) rfl ?_
      refine c216_1 (B := B) g0 0 0 v669 (by omega) (hJ675.up (by omega)) (by omega) (by omega) (by omega) (fun m680 hJ681 km680 => ?_)
      show X (EE s) d 208 128 [(0, zr g0 44), (1, zl 0), (3, zl 0), (5, zl v669)] [] m680 _
      refine X.cut [(0, zr g0 44)] i208_128 rfl ?_
      refine X.aload_n 129 i208_128 rfl rfl rfl ?_
      refine X.callv 132 [] [] [(0, zr g0 44)] i208_129 rfl (by decide) rfl rfl (by omega) rfl rfl (by decide) rfl t222 (Nat.le_of_ble_eq_true rfl) (Nat.le_of_ble_eq_true rfl) rfl ?_
      refine c222_1 (B := B) g0  (by omega) (hJ681.up (by omega)) (by omega)  (fun m683 hJ684 km683 => ?_)
      show X (EE s) d 208 132 [(0, zr g0 44)] [] m683 _
      refine X.aload_n 133 i208_132 rfl rfl rfl ?_
      refine X.callv 136 [] [] [(0, zr g0 44)] i208_133 rfl (by decide) rfl rfl (by omega) rfl rfl (by decide) rfl t224 (Nat.le_of_ble_eq_true rfl) (Nat.le_of_ble_eq_true rfl) rfl ?_
      refine c224_1 (B := B + 1) g0  (by omega) (hJ684.up (by omega)) (by omega)  (fun m686 hJ687 km686 => ?_)
      show X (EE s) d 208 136 [(0, zr g0 44)] [] m686 _
      refine X.aload_n 137 i208_136 rfl rfl rfl ?_
      refine X.callv 140 [] [] [(0, zr g0 44)] i208_137 rfl (by decide) rfl rfl (by omega) rfl rfl (by decide) rfl t230 (Nat.le_of_ble_eq_true rfl) (Nat.le_of_ble_eq_true rfl) rfl ?_
      refine c230_1 (B := B + 9) g0  (by omega) (hJ687.up (by omega)) (by omega)  (fun m689 hJ690 km689 => ?_)
      show X (EE s) d 208 140 [(0, zr g0 44)] [] m689 _
      refine X.retv i208_140 rfl t208 ?_
      exact hQ  m689  (hJ690.up (by omega)) (fun g => by simp only [km671, km674, km680, km683, km686, km689]) 
    · have h679c : 0 < (m674 4 45 4) := by omega
      clear h679 hz678
      refine X.lload_n 93 i208_92 rfl rfl rfl ?_
      refine X.calls 96 [zl 0] [] [(0, zl 0)] i208_93 (by decide) rfl rfl (by omega) rfl rfl t215 (Nat.le_of_ble_eq_true rfl) (Nat.le_of_ble_eq_true rfl) rfl ?_
      refine X.lload_n 1 i215_0 rfl rfl rfl ?_
      refine X.lconst (y := 0) 2 i215_1 rfl rfl rfl ?_
      refine X.lcmp 3 i215_2 rfl rfl (fun z692 hz692 => ?_)
      refine X.ifge 11 6 i215_3 rfl rfl rfl (fun h693 => ?_) (fun h693 => (by exfalso; omega))
      have h693c : 0 ≥ 0 := by omega
      clear h693 hz692
      refine X.lload_n 12 i215_11 rfl rfl rfl ?_
      refine X.cut [] i215_12 rfl ?_
      refine X.retl i215_12 rfl t215 ?_
      show X (EE s) d 208 96 [(0, zr g0 44), (1, zl 0), (3, zl 0), (5, zl v669)] [zl 0] m674 _
      refine X.aload_n 97 i208_96 rfl rfl rfl ?_
      refine X.getF 100 i208_97 rfl rfl (by decide) rfl rfl ?_
      refine X.iconst 101 i208_100 rfl rfl (by decide) ?_
      refine X.lald 102 i208_101 rfl rfl (by decide) rfl (by omega) ?_
      refine X.lcmp 103 i208_102 rfl rfl (fun z694 hz694 => ?_)
      refine X.ifge 120 106 i208_103 rfl rfl rfl (fun h695 => (by exfalso; omega)) (fun h695 => ?_)
      have h695c : 0 < (m674 4 45 4) := by omega
      clear h695 hz694
      refine X.aload_n 107 i208_106 rfl rfl rfl ?_
      refine X.getF 110 i208_107 rfl rfl (by decide) rfl rfl ?_
      refine X.bipush 112 i208_110 rfl rfl (by decide) ?_
      refine X.dup2 113 i208_112 rfl rfl ?_
      refine X.lald 114 i208_113 rfl rfl (by decide) rfl (by omega) ?_
      refine X.lconst (y := 1) 115 i208_114 rfl rfl rfl ?_
      refine X.llF 116 .ladd (fun x y => x + y) i208_115 rfl rfl rfl (fun _ _ => rfl) (fun z696 hz696 => ?_)
      refine X.last' 117 i208_116 rfl rfl (by decide) rfl (by omega) (fun hrm697 m697 hm697 => ?_)
      have hJ698 := w45_13 hJ675 hm697 (by omega) hrm697
      have km697 : ∀ g, m697 g 8 9 = m674 g 8 9 := fun g9 => by rw [hm697]; exact z_upd_o _ _ rfl
      refine X.goto 128 i208_117 rfl rfl ?_
      refine X.cut [(0, zr g0 44)] i208_128 rfl ?_
      refine X.aload_n 129 i208_128 rfl rfl rfl ?_
      refine X.callv 132 [] [] [(0, zr g0 44)] i208_129 rfl (by decide) rfl rfl (by omega) rfl rfl (by decide) rfl t222 (Nat.le_of_ble_eq_true rfl) (Nat.le_of_ble_eq_true rfl) rfl ?_
      refine c222_1 (B := B) g0  (by omega) (hJ698.up (by omega)) (by omega)  (fun m699 hJ700 km699 => ?_)
      show X (EE s) d 208 132 [(0, zr g0 44)] [] m699 _
      refine X.aload_n 133 i208_132 rfl rfl rfl ?_
      refine X.callv 136 [] [] [(0, zr g0 44)] i208_133 rfl (by decide) rfl rfl (by omega) rfl rfl (by decide) rfl t224 (Nat.le_of_ble_eq_true rfl) (Nat.le_of_ble_eq_true rfl) rfl ?_
      refine c224_1 (B := B + 1) g0  (by omega) (hJ700.up (by omega)) (by omega)  (fun m702 hJ703 km702 => ?_)
      show X (EE s) d 208 136 [(0, zr g0 44)] [] m702 _
      refine X.aload_n 137 i208_136 rfl rfl rfl ?_
      refine X.callv 140 [] [] [(0, zr g0 44)] i208_137 rfl (by decide) rfl rfl (by omega) rfl rfl (by decide) rfl t230 (Nat.le_of_ble_eq_true rfl) (Nat.le_of_ble_eq_true rfl) rfl ?_
      refine c230_1 (B := B + 9) g0  (by omega) (hJ703.up (by omega)) (by omega)  (fun m705 hJ706 km705 => ?_)
      show X (EE s) d 208 140 [(0, zr g0 44)] [] m705 _
      refine X.retv i208_140 rfl t208 ?_
      exact hQ  m705  (hJ706.up (by omega)) (fun g => by simp only [km671, km674, km697, km699, km702, km705]) 
-- WorkMeterModel.sample
theorem c205_1 {s : Nat × (Nat → Int32)} {m0 m : zM} {B : Int} {d : Nat} {Q : Option zV → zM → Prop} (g0 : Nat) (a1 a2 : Int) (hd : 20 ≤ d) (hJ : J m0 B m) (hB : B + 10 ≤ 1000000000) (ha1 : (-2147483648) ≤ a1 ∧ a1 ≤ 2147483647) (ha2 : (-2147483648) ≤ a2 ∧ a2 ≤ 2147483647) (hQ : ∀ (v : Int) m', ((-1) ≤ v ∧ v ≤ 47) → J m0 (B + 10) m' → (∀ g, m' g 8 9 = m g 8 9) → Q (some (zi v)) m') : X (EE s) d 205 0 [(0, zr g0 44), (1, zi a1), (2, zi a2)] [] m Q := by
  refine X.iload_n 1 i205_0 rfl rfl rfl ?_
  refine X.i2l 2 i205_1 rfl rfl ?_
  refine X.ldc2 5 i205_2 rfl rfl (by decide) ?_
  refine X.ldc2 8 i205_5 rfl rfl (by decide) ?_
  refine X.calls 11 [zl a1, zl (-500), zl 500] [] [(0, zl a1), (2, zl (-500)), (4, zl 500)] i205_8 (by decide) rfl rfl (by omega) rfl rfl t204 (Nat.le_of_ble_eq_true rfl) (Nat.le_of_ble_eq_true rfl) rfl ?_
  refine X.lload_n 1 i204_0 rfl rfl rfl ?_
  refine X.lload_n 2 i204_1 rfl rfl rfl ?_
  refine X.lcmp 3 i204_2 rfl rfl (fun z501 hz501 => ?_)
  refine X.iflt 17 6 i204_3 rfl rfl rfl (fun h502 => ?_) (fun h502 => ?_)
  · have h502c : a1 < (-500) := by omega
    clear h502 hz501
    refine X.cut [] i204_17 rfl ?_
    refine X.iconst 18 i204_17 rfl rfl (by decide) ?_
    refine X.retz i204_18 rfl t204 (by omega) ?_
    show X (EE s) d 205 11 [(0, zr g0 44), (1, zi a1), (2, zi a2)] [zi 0] m _
    refine X.ifeq 28 14 i205_11 rfl rfl rfl (fun h503 => ?_) (fun h503 => (by exfalso; omega))
    refine X.cut [] i205_28 rfl ?_
    refine X.iconst 29 i205_28 rfl rfl (by decide) ?_
    refine X.reti i205_29 rfl t205 ?_
    exact hQ (-1) m (by first | trivial | omega) (hJ.up (by omega)) (fun g => rfl) 
  · have h502c : a1 ≥ (-500) := by omega
    clear h502 hz501
    refine X.lload_n 7 i204_6 rfl rfl rfl ?_
    refine X.lload 9 i204_7 rfl rfl rfl ?_
    refine X.lcmp 10 i204_9 rfl rfl (fun z504 hz504 => ?_)
    refine X.ifgt 17 13 i204_10 rfl rfl rfl (fun h505 => ?_) (fun h505 => ?_)
    · have h505c : a1 > 500 := by omega
      clear h505 hz504
      refine X.cut [] i204_17 rfl ?_
      refine X.iconst 18 i204_17 rfl rfl (by decide) ?_
      refine X.retz i204_18 rfl t204 (by omega) ?_
      show X (EE s) d 205 11 [(0, zr g0 44), (1, zi a1), (2, zi a2)] [zi 0] m _
      refine X.ifeq 28 14 i205_11 rfl rfl rfl (fun h506 => ?_) (fun h506 => (by exfalso; omega))
      refine X.cut [] i205_28 rfl ?_
      refine X.iconst 29 i205_28 rfl rfl (by decide) ?_
      refine X.reti i205_29 rfl t205 ?_
      exact hQ (-1) m (by first | trivial | omega) (hJ.up (by omega)) (fun g => rfl) 
    · have h505c : a1 ≤ 500 := by omega
      clear h505 hz504
      refine X.iconst 14 i204_13 rfl rfl (by decide) ?_
      refine X.goto 18 i204_14 rfl rfl ?_
      refine X.cut [] i204_18 rfl ?_
      refine X.retz i204_18 rfl t204 (by omega) ?_
      show X (EE s) d 205 11 [(0, zr g0 44), (1, zi a1), (2, zi a2)] [zi 1] m _
      refine X.ifeq 28 14 i205_11 rfl rfl rfl (fun h507 => (by exfalso; omega)) (fun h507 => ?_)
      refine X.iload_n 15 i205_14 rfl rfl rfl ?_
      refine X.i2l 16 i205_15 rfl rfl ?_
      refine X.ldc2 19 i205_16 rfl rfl (by decide) ?_
      refine X.ldc2 22 i205_19 rfl rfl (by decide) ?_
      refine X.calls 25 [zl a2, zl (-500), zl 500] [] [(0, zl a2), (2, zl (-500)), (4, zl 500)] i205_22 (by decide) rfl rfl (by omega) rfl rfl t204 (Nat.le_of_ble_eq_true rfl) (Nat.le_of_ble_eq_true rfl) rfl ?_
      refine X.lload_n 1 i204_0 rfl rfl rfl ?_
      refine X.lload_n 2 i204_1 rfl rfl rfl ?_
      refine X.lcmp 3 i204_2 rfl rfl (fun z508 hz508 => ?_)
      refine X.iflt 17 6 i204_3 rfl rfl rfl (fun h509 => ?_) (fun h509 => ?_)
      · have h509c : a2 < (-500) := by omega
        clear h509 hz508
        refine X.cut [] i204_17 rfl ?_
        refine X.iconst 18 i204_17 rfl rfl (by decide) ?_
        refine X.retz i204_18 rfl t204 (by omega) ?_
        show X (EE s) d 205 25 [(0, zr g0 44), (1, zi a1), (2, zi a2)] [zi 0] m _
        refine X.ifne 30 28 i205_25 rfl rfl rfl (fun h510 => (by exfalso; omega)) (fun h510 => ?_)
        refine X.cut [] i205_28 rfl ?_
        refine X.iconst 29 i205_28 rfl rfl (by decide) ?_
        refine X.reti i205_29 rfl t205 ?_
        exact hQ (-1) m (by first | trivial | omega) (hJ.up (by omega)) (fun g => rfl) 
      · have h509c : a2 ≥ (-500) := by omega
        clear h509 hz508
        refine X.lload_n 7 i204_6 rfl rfl rfl ?_
        refine X.lload 9 i204_7 rfl rfl rfl ?_
        refine X.lcmp 10 i204_9 rfl rfl (fun z511 hz511 => ?_)
        refine X.ifgt 17 13 i204_10 rfl rfl rfl (fun h512 => ?_) (fun h512 => ?_)
        · have h512c : a2 > 500 := by omega
          clear h512 hz511
          refine X.cut [] i204_17 rfl ?_
          refine X.iconst 18 i204_17 rfl rfl (by decide) ?_
          refine X.retz i204_18 rfl t204 (by omega) ?_
          show X (EE s) d 205 25 [(0, zr g0 44), (1, zi a1), (2, zi a2)] [zi 0] m _
          refine X.ifne 30 28 i205_25 rfl rfl rfl (fun h513 => (by exfalso; omega)) (fun h513 => ?_)
          refine X.cut [] i205_28 rfl ?_
          refine X.iconst 29 i205_28 rfl rfl (by decide) ?_
          refine X.reti i205_29 rfl t205 ?_
          exact hQ (-1) m (by first | trivial | omega) (hJ.up (by omega)) (fun g => rfl) 
        · have h512c : a2 ≤ 500 := by omega
          clear h512 hz511
          refine X.iconst 14 i204_13 rfl rfl (by decide) ?_
          refine X.goto 18 i204_14 rfl rfl ?_
          refine X.cut [] i204_18 rfl ?_
          refine X.retz i204_18 rfl t204 (by omega) ?_
          show X (EE s) d 205 25 [(0, zr g0 44), (1, zi a1), (2, zi a2)] [zi 1] m _
          refine X.ifne 30 28 i205_25 rfl rfl rfl (fun h514 => ?_) (fun h514 => (by exfalso; omega))
          refine X.aload_n 31 i205_30 rfl rfl rfl ?_
          refine X.getF 34 i205_31 rfl rfl (by decide) rfl rfl ?_
          refine X.iconst 35 i205_34 rfl rfl (by decide) ?_
          refine X.lald 36 i205_35 rfl rfl (by decide) rfl (by omega) ?_
          have h515 := r45_3 hJ 4
          refine X.l2i 37 i205_36 rfl rfl (by omega) ?_
          refine X.istore_n 38 [(0, zr g0 44), (1, zi a1), (2, zi a2), (3, zi (m 4 45 3))] i205_37 rfl rfl rfl ?_
          refine X.aload_n 39 i205_38 rfl rfl rfl ?_
          refine X.getF 42 i205_39 rfl rfl (by decide) rfl rfl ?_
          refine X.sipush 45 i205_42 rfl rfl (by decide) ?_
          refine X.iload_n 46 i205_45 rfl rfl rfl ?_
          refine X.aload_n 47 i205_46 rfl rfl rfl ?_
          refine X.callv 50 [] [zi (m 4 45 3), zi 191, zr 4 45] [(0, zr g0 44)] i205_47 rfl (by decide) rfl rfl (by omega) rfl rfl (by decide) rfl t206 (Nat.le_of_ble_eq_true rfl) (Nat.le_of_ble_eq_true rfl) rfl ?_
          refine X.aload_n 1 i206_0 rfl rfl rfl ?_
          refine X.getF 4 i206_1 rfl rfl (by decide) rfl rfl ?_
          refine X.iconst 5 i206_4 rfl rfl (by decide) ?_
          refine X.lald 6 i206_5 rfl rfl (by decide) rfl (by omega) ?_
          have h516 := r45_1 hJ 4
          refine X.l2i 7 i206_6 rfl rfl (by omega) ?_
          refine X.reti i206_7 rfl t206 ?_
          show X (EE s) d 205 50 [(0, zr g0 44), (1, zi a1), (2, zi a2), (3, zi (m 4 45 3))] [zi (m 4 45 1), zi (m 4 45 3), zi 191, zr 4 45] m _
          rcases (show (m 4 45 1) = 1 ∨ (m 4 45 1) = 2 ∨ (m 4 45 1) = 3 by omega) with h517 | h517 | h517
          · have h518 : (m 4 45 1) = 1 := by omega
            rw [h518]
            clear h518
            refine X.irem 51 i205_50 rfl rfl (by omega) ?_
            refine X.iload_n 52 i205_51 rfl rfl rfl ?_
            refine X.aload_n 53 i205_52 rfl rfl rfl ?_
            refine X.callv 56 [] [zi (m 4 45 3), zi ((m 4 45 3) % 1), zi 191, zr 4 45] [(0, zr g0 44)] i205_53 rfl (by decide) rfl rfl (by omega) rfl rfl (by decide) rfl t206 (Nat.le_of_ble_eq_true rfl) (Nat.le_of_ble_eq_true rfl) rfl ?_
            refine X.aload_n 1 i206_0 rfl rfl rfl ?_
            refine X.getF 4 i206_1 rfl rfl (by decide) rfl rfl ?_
            refine X.iconst 5 i206_4 rfl rfl (by decide) ?_
            refine X.lald 6 i206_5 rfl rfl (by decide) rfl (by omega) ?_
            refine X.l2i 7 i206_6 rfl rfl (by omega) ?_
            refine X.reti i206_7 rfl t206 ?_
            show X (EE s) d 205 56 [(0, zr g0 44), (1, zi a1), (2, zi a2), (3, zi (m 4 45 3))] [zi (m 4 45 1), zi (m 4 45 3), zi ((m 4 45 3) % 1), zi 191, zr 4 45] m _
            have h519 : (m 4 45 1) = 1 := by omega
            rw [h519]
            clear h519
            refine X.idiv 57 i205_56 rfl rfl (by omega) ?_
            refine X.calls 60 [zi 191, zi ((m 4 45 3) % 1), zi ((m 4 45 3) / 1)] [zr 4 45] [(0, zi 191), (1, zi ((m 4 45 3) % 1)), (2, zi ((m 4 45 3) / 1))] i205_57 (by decide) rfl rfl (by omega) rfl rfl t207 (Nat.le_of_ble_eq_true rfl) (Nat.le_of_ble_eq_true rfl) rfl ?_
            refine X.iload_n 1 i207_0 rfl rfl rfl ?_
            refine X.bipush 3 i207_1 rfl rfl (by decide) ?_
            refine X.iload_n 4 i207_3 rfl rfl rfl ?_
            refine X.imul 5 i207_4 rfl rfl (by omega) ?_
            refine X.iadd 6 i207_5 rfl rfl (by omega) ?_
            refine X.iload_n 7 i207_6 rfl rfl rfl ?_
            refine X.iadd 8 i207_7 rfl rfl (by omega) ?_
            refine X.reti i207_8 rfl t207 ?_
            show X (EE s) d 205 60 [(0, zr g0 44), (1, zi a1), (2, zi a2), (3, zi (m 4 45 3))] [zi ((191 + (16 * ((m 4 45 3) % 1))) + ((m 4 45 3) / 1)), zr 4 45] m _
            refine X.iload_n 61 i205_60 rfl rfl rfl ?_
            refine X.i2l 62 i205_61 rfl rfl ?_
            refine X.last' 63 i205_62 rfl rfl (by decide) rfl (by omega) (fun hrm520 m520 hm520 => ?_)
            have hJ521 := w45_19 hJ hm520 (by omega) hrm520
            have km520 : ∀ g, m520 g 8 9 = m g 8 9 := fun g9 => by rw [hm520]; exact z_upd_o _ _ rfl
            refine X.aload_n 64 i205_63 rfl rfl rfl ?_
            refine X.getF 67 i205_64 rfl rfl (by decide) rfl rfl ?_
            refine X.sipush 70 i205_67 rfl rfl (by decide) ?_
            refine X.iload_n 71 i205_70 rfl rfl rfl ?_
            refine X.aload_n 72 i205_71 rfl rfl rfl ?_
            refine X.callv 75 [] [zi (m 4 45 3), zi 239, zr 4 45] [(0, zr g0 44)] i205_72 rfl (by decide) rfl rfl (by omega) rfl rfl (by decide) rfl t206 (Nat.le_of_ble_eq_true rfl) (Nat.le_of_ble_eq_true rfl) rfl ?_
            refine X.aload_n 1 i206_0 rfl rfl rfl ?_
            refine X.getF 4 i206_1 rfl rfl (by decide) rfl rfl ?_
            refine X.iconst 5 i206_4 rfl rfl (by decide) ?_
            refine X.lald 6 i206_5 rfl rfl (by decide) rfl (by omega) ?_
            have h522 := r45_1 hJ521 4
            refine X.l2i 7 i206_6 rfl rfl (by omega) ?_
            refine X.reti i206_7 rfl t206 ?_
            show X (EE s) d 205 75 [(0, zr g0 44), (1, zi a1), (2, zi a2), (3, zi (m 4 45 3))] [zi (m520 4 45 1), zi (m 4 45 3), zi 239, zr 4 45] m520 _
            rcases (show (m520 4 45 1) = 1 ∨ (m520 4 45 1) = 2 ∨ (m520 4 45 1) = 3 by omega) with h523 | h523 | h523
            · have h524 : (m520 4 45 1) = 1 := by omega
              rw [h524]
              clear h524
              refine X.irem 76 i205_75 rfl rfl (by omega) ?_
              refine X.iload_n 77 i205_76 rfl rfl rfl ?_
              refine X.aload_n 78 i205_77 rfl rfl rfl ?_
              refine X.callv 81 [] [zi (m 4 45 3), zi ((m 4 45 3) % 1), zi 239, zr 4 45] [(0, zr g0 44)] i205_78 rfl (by decide) rfl rfl (by omega) rfl rfl (by decide) rfl t206 (Nat.le_of_ble_eq_true rfl) (Nat.le_of_ble_eq_true rfl) rfl ?_
              refine X.aload_n 1 i206_0 rfl rfl rfl ?_
              refine X.getF 4 i206_1 rfl rfl (by decide) rfl rfl ?_
              refine X.iconst 5 i206_4 rfl rfl (by decide) ?_
              refine X.lald 6 i206_5 rfl rfl (by decide) rfl (by omega) ?_
              refine X.l2i 7 i206_6 rfl rfl (by omega) ?_
              refine X.reti i206_7 rfl t206 ?_
              show X (EE s) d 205 81 [(0, zr g0 44), (1, zi a1), (2, zi a2), (3, zi (m 4 45 3))] [zi (m520 4 45 1), zi (m 4 45 3), zi ((m 4 45 3) % 1), zi 239, zr 4 45] m520 _
              have h525 : (m520 4 45 1) = 1 := by omega
              rw [h525]
              clear h525
              refine X.idiv 82 i205_81 rfl rfl (by omega) ?_
              refine X.calls 85 [zi 239, zi ((m 4 45 3) % 1), zi ((m 4 45 3) / 1)] [zr 4 45] [(0, zi 239), (1, zi ((m 4 45 3) % 1)), (2, zi ((m 4 45 3) / 1))] i205_82 (by decide) rfl rfl (by omega) rfl rfl t207 (Nat.le_of_ble_eq_true rfl) (Nat.le_of_ble_eq_true rfl) rfl ?_
              refine X.iload_n 1 i207_0 rfl rfl rfl ?_
              refine X.bipush 3 i207_1 rfl rfl (by decide) ?_
              refine X.iload_n 4 i207_3 rfl rfl rfl ?_
              refine X.imul 5 i207_4 rfl rfl (by omega) ?_
              refine X.iadd 6 i207_5 rfl rfl (by omega) ?_
              refine X.iload_n 7 i207_6 rfl rfl rfl ?_
              refine X.iadd 8 i207_7 rfl rfl (by omega) ?_
              refine X.reti i207_8 rfl t207 ?_
              show X (EE s) d 205 85 [(0, zr g0 44), (1, zi a1), (2, zi a2), (3, zi (m 4 45 3))] [zi ((239 + (16 * ((m 4 45 3) % 1))) + ((m 4 45 3) / 1)), zr 4 45] m520 _
              refine X.iload_n 86 i205_85 rfl rfl rfl ?_
              refine X.i2l 87 i205_86 rfl rfl ?_
              refine X.last' 88 i205_87 rfl rfl (by decide) rfl (by omega) (fun hrm526 m526 hm526 => ?_)
              have hJ527 := w45_19 hJ521 hm526 (by omega) hrm526
              have km526 : ∀ g, m526 g 8 9 = m520 g 8 9 := fun g9 => by rw [hm526]; exact z_upd_o _ _ rfl
              refine X.aload_n 89 i205_88 rfl rfl rfl ?_
              refine X.getF 92 i205_89 rfl rfl (by decide) rfl rfl ?_
              refine X.iconst 93 i205_92 rfl rfl (by decide) ?_
              refine X.dup2 94 i205_93 rfl rfl ?_
              refine X.lald 95 i205_94 rfl rfl (by decide) rfl (by omega) ?_
              have h528 := r45_3 hJ527 4
              refine X.lconst (y := 1) 96 i205_95 rfl rfl rfl ?_
              refine X.ladd 97 i205_96 rfl rfl (by omega) ?_
              refine X.last' 98 i205_97 rfl rfl (by decide) rfl (by omega) (fun hrm529 m529 hm529 => ?_)
              have em529 : m529 4 45 3 = ((m526 4 45 3) + 1) := by rw [hm529]; exact z_upd_same _ _ _ _ _
              have qm5291 : m529 4 45 1 = m526 4 45 1 := by rw [hm529]; exact z_upd_o _ _ rfl
              have qqm5291 := r45_1 hJ527 4
              have qm5292 : m529 4 45 2 = m526 4 45 2 := by rw [hm529]; exact z_upd_o _ _ rfl
              have qqm5292 := r45_2 hJ527 4
              have km529 : ∀ g, m529 g 8 9 = m526 g 8 9 := fun g9 => by rw [hm529]; exact z_upd_o _ _ rfl
              refine X.aload_n 99 i205_98 rfl rfl rfl ?_
              refine X.getF 102 i205_99 rfl rfl (by decide) rfl rfl ?_
              refine X.iconst 103 i205_102 rfl rfl (by decide) ?_
              refine X.lald 104 i205_103 rfl rfl (by decide) rfl (by omega) ?_
              refine X.aload_n 105 i205_104 rfl rfl rfl ?_
              refine X.getF 108 i205_105 rfl rfl (by decide) rfl rfl ?_
              refine X.iconst 109 i205_108 rfl rfl (by decide) ?_
              refine X.lald 110 i205_109 rfl rfl (by decide) rfl (by omega) ?_
              refine X.aload_n 111 i205_110 rfl rfl rfl ?_
              refine X.getF 114 i205_111 rfl rfl (by decide) rfl rfl ?_
              refine X.iconst 115 i205_114 rfl rfl (by decide) ?_
              refine X.lald 116 i205_115 rfl rfl (by decide) rfl (by omega) ?_
              have hz531 := z_mulr (a := 1) (b := 3) (c := 4) (e := 16) (x := (m529 4 45 1)) (y := (m529 4 45 2)) (by omega) (by omega)
              refine X.lmul 117 i205_116 rfl rfl (z_in3 hz531 (by decide) (by decide)) ?_
              obtain ⟨z531, ez531⟩ : ∃ z, z = ((m529 4 45 1) * (m529 4 45 2)) := ⟨_, rfl⟩
              rw [← ez531] at hz531 ⊢
              have gz531 : 4 ≤ z531 ∧ z531 ≤ 48 := z_in3 hz531 (by decide) (by decide)
              clear hz531
              refine X.lcmp 118 i205_117 rfl rfl (fun z532 hz532 => ?_)
              refine X.ifge 129 121 i205_118 rfl rfl rfl (fun h533 => ?_) (fun h533 => ?_)
              · have h533c : (m529 4 45 3) ≥ z531 := by omega
                clear h533 hz532
                refine X.cut [(0, zr g0 44)] i205_129 rfl ?_
                refine X.aload_n 130 i205_129 rfl rfl rfl ?_
                refine X.getF 133 i205_130 rfl rfl (by decide) rfl rfl ?_
                refine X.iconst 134 i205_133 rfl rfl (by decide) ?_
                refine X.lconst (y := 0) 135 i205_134 rfl rfl rfl ?_
                refine X.last' 136 i205_135 rfl rfl (by decide) rfl (by omega) (fun hrm534 m534 hm534 => ?_)
                have hJ535 := w45_3 (x := 0) hJ527 (show m534 = z_upd m526 4 45 3 0 by rw [hm534, hm529]; exact z_upd_upd _ _ _ _ _ _) (by omega)
                have km534 : ∀ g, m534 g 8 9 = m529 g 8 9 := fun g9 => by rw [hm534]; exact z_upd_o _ _ rfl
                refine X.iconst 137 i205_136 rfl rfl (by decide) ?_
                refine X.istore 139 [(0, zr g0 44), (4, zi 0)] i205_137 rfl rfl rfl ?_
                refine l205_139_1 (s := s) (m0 := m0) (d := d) g0  (fun g => m g 8 9) (BE := B + 0) (by omega) (by omega) (fun  m536 B537 hJ538 hBB537 hkm536 => ?_) ((96 - 0 : Int).toNat + 1) 0 m534 (B) (hJ535.up (by omega)) (by omega) (fun g => by simp only [km520, km526, km529, km534]) (by omega) (by omega)
                refine X.aload_n 174 i205_173 rfl rfl rfl ?_
                refine X.callv 177 [] [] [(0, zr g0 44)] i205_174 rfl (by decide) rfl rfl (by omega) rfl rfl (by decide) rfl t208 (Nat.le_of_ble_eq_true rfl) (Nat.le_of_ble_eq_true rfl) rfl ?_
                refine c208_1 (B := B537) g0  (by omega) (hJ538.up (by omega)) (by omega)  (fun m539 hJ540 km539 => ?_)
                show X (EE s) d 205 177 [(0, zr g0 44)] [] m539 _
                refine X.iconst 178 i205_177 rfl rfl (by decide) ?_
                refine X.reti i205_178 rfl t205 ?_
                exact hQ 0 m539 (by first | trivial | omega) (hJ540.up (by omega)) (fun g => by simp only [hkm536, km539]) 
              · have h533c : (m529 4 45 3) < z531 := by omega
                clear h533 hz532
                refine X.aload_n 122 i205_121 rfl rfl rfl ?_
                refine X.getF 125 i205_122 rfl rfl (by decide) rfl rfl ?_
                refine X.iconst 126 i205_125 rfl rfl (by decide) ?_
                refine X.lald 127 i205_126 rfl rfl (by decide) rfl (by omega) ?_
                refine X.l2i 128 i205_127 rfl rfl (by omega) ?_
                have hJ542 := w45_3 hJ527 hm529 (by omega)
                refine X.reti i205_128 rfl t205 ?_
                exact hQ (m529 4 45 3) m529 (by first | trivial | omega) (hJ542.up (by omega)) (fun g => by simp only [km520, km526, km529]) 
            · have h543 : (m520 4 45 1) = 2 := by omega
              rw [h543]
              clear h543
              refine X.irem 76 i205_75 rfl rfl (by omega) ?_
              refine X.iload_n 77 i205_76 rfl rfl rfl ?_
              refine X.aload_n 78 i205_77 rfl rfl rfl ?_
              refine X.callv 81 [] [zi (m 4 45 3), zi ((m 4 45 3) % 2), zi 239, zr 4 45] [(0, zr g0 44)] i205_78 rfl (by decide) rfl rfl (by omega) rfl rfl (by decide) rfl t206 (Nat.le_of_ble_eq_true rfl) (Nat.le_of_ble_eq_true rfl) rfl ?_
              refine X.aload_n 1 i206_0 rfl rfl rfl ?_
              refine X.getF 4 i206_1 rfl rfl (by decide) rfl rfl ?_
              refine X.iconst 5 i206_4 rfl rfl (by decide) ?_
              refine X.lald 6 i206_5 rfl rfl (by decide) rfl (by omega) ?_
              refine X.l2i 7 i206_6 rfl rfl (by omega) ?_
              refine X.reti i206_7 rfl t206 ?_
              show X (EE s) d 205 81 [(0, zr g0 44), (1, zi a1), (2, zi a2), (3, zi (m 4 45 3))] [zi (m520 4 45 1), zi (m 4 45 3), zi ((m 4 45 3) % 2), zi 239, zr 4 45] m520 _
              have h544 : (m520 4 45 1) = 2 := by omega
              rw [h544]
              clear h544
              refine X.idiv 82 i205_81 rfl rfl (by omega) ?_
              refine X.calls 85 [zi 239, zi ((m 4 45 3) % 2), zi ((m 4 45 3) / 2)] [zr 4 45] [(0, zi 239), (1, zi ((m 4 45 3) % 2)), (2, zi ((m 4 45 3) / 2))] i205_82 (by decide) rfl rfl (by omega) rfl rfl t207 (Nat.le_of_ble_eq_true rfl) (Nat.le_of_ble_eq_true rfl) rfl ?_
              refine X.iload_n 1 i207_0 rfl rfl rfl ?_
              refine X.bipush 3 i207_1 rfl rfl (by decide) ?_
              refine X.iload_n 4 i207_3 rfl rfl rfl ?_
              refine X.imul 5 i207_4 rfl rfl (by omega) ?_
              refine X.iadd 6 i207_5 rfl rfl (by omega) ?_
              refine X.iload_n 7 i207_6 rfl rfl rfl ?_
              refine X.iadd 8 i207_7 rfl rfl (by omega) ?_
              refine X.reti i207_8 rfl t207 ?_
              show X (EE s) d 205 85 [(0, zr g0 44), (1, zi a1), (2, zi a2), (3, zi (m 4 45 3))] [zi ((239 + (16 * ((m 4 45 3) % 2))) + ((m 4 45 3) / 2)), zr 4 45] m520 _
              refine X.iload_n 86 i205_85 rfl rfl rfl ?_
              refine X.i2l 87 i205_86 rfl rfl ?_
              refine X.last' 88 i205_87 rfl rfl (by decide) rfl (by omega) (fun hrm545 m545 hm545 => ?_)
              have hJ546 := w45_19 hJ521 hm545 (by omega) hrm545
              have km545 : ∀ g, m545 g 8 9 = m520 g 8 9 := fun g9 => by rw [hm545]; exact z_upd_o _ _ rfl
              refine X.aload_n 89 i205_88 rfl rfl rfl ?_
              refine X.getF 92 i205_89 rfl rfl (by decide) rfl rfl ?_
              refine X.iconst 93 i205_92 rfl rfl (by decide) ?_
              refine X.dup2 94 i205_93 rfl rfl ?_
              refine X.lald 95 i205_94 rfl rfl (by decide) rfl (by omega) ?_
              have h547 := r45_3 hJ546 4
              refine X.lconst (y := 1) 96 i205_95 rfl rfl rfl ?_
              refine X.ladd 97 i205_96 rfl rfl (by omega) ?_
              refine X.last' 98 i205_97 rfl rfl (by decide) rfl (by omega) (fun hrm548 m548 hm548 => ?_)
              have em548 : m548 4 45 3 = ((m545 4 45 3) + 1) := by rw [hm548]; exact z_upd_same _ _ _ _ _
              have qm5481 : m548 4 45 1 = m545 4 45 1 := by rw [hm548]; exact z_upd_o _ _ rfl
              have qqm5481 := r45_1 hJ546 4
              have qm5482 : m548 4 45 2 = m545 4 45 2 := by rw [hm548]; exact z_upd_o _ _ rfl
              have qqm5482 := r45_2 hJ546 4
              have km548 : ∀ g, m548 g 8 9 = m545 g 8 9 := fun g9 => by rw [hm548]; exact z_upd_o _ _ rfl
              refine X.aload_n 99 i205_98 rfl rfl rfl ?_
              refine X.getF 102 i205_99 rfl rfl (by decide) rfl rfl ?_
              refine X.iconst 103 i205_102 rfl rfl (by decide) ?_
              refine X.lald 104 i205_103 rfl rfl (by decide) rfl (by omega) ?_
              refine X.aload_n 105 i205_104 rfl rfl rfl ?_
              refine X.getF 108 i205_105 rfl rfl (by decide) rfl rfl ?_
              refine X.iconst 109 i205_108 rfl rfl (by decide) ?_
              refine X.lald 110 i205_109 rfl rfl (by decide) rfl (by omega) ?_
              refine X.aload_n 111 i205_110 rfl rfl rfl ?_
              refine X.getF 114 i205_111 rfl rfl (by decide) rfl rfl ?_
              refine X.iconst 115 i205_114 rfl rfl (by decide) ?_
              refine X.lald 116 i205_115 rfl rfl (by decide) rfl (by omega) ?_
              have hz550 := z_mulr (a := 1) (b := 3) (c := 4) (e := 16) (x := (m548 4 45 1)) (y := (m548 4 45 2)) (by omega) (by omega)
              refine X.lmul 117 i205_116 rfl rfl (z_in3 hz550 (by decide) (by decide)) ?_
              obtain ⟨z550, ez550⟩ : ∃ z, z = ((m548 4 45 1) * (m548 4 45 2)) := ⟨_, rfl⟩
              rw [← ez550] at hz550 ⊢
              have gz550 : 4 ≤ z550 ∧ z550 ≤ 48 := z_in3 hz550 (by decide) (by decide)
              clear hz550
              refine X.lcmp 118 i205_117 rfl rfl (fun z551 hz551 => ?_)
              refine X.ifge 129 121 i205_118 rfl rfl rfl (fun h552 => ?_) (fun h552 => ?_)
              · have h552c : (m548 4 45 3) ≥ z550 := by omega
                clear h552 hz551
                refine X.cut [(0, zr g0 44)] i205_129 rfl ?_
                refine X.aload_n 130 i205_129 rfl rfl rfl ?_
                refine X.getF 133 i205_130 rfl rfl (by decide) rfl rfl ?_
                refine X.iconst 134 i205_133 rfl rfl (by decide) ?_
                refine X.lconst (y := 0) 135 i205_134 rfl rfl rfl ?_
                refine X.last' 136 i205_135 rfl rfl (by decide) rfl (by omega) (fun hrm553 m553 hm553 => ?_)
                have hJ554 := w45_3 (x := 0) hJ546 (show m553 = z_upd m545 4 45 3 0 by rw [hm553, hm548]; exact z_upd_upd _ _ _ _ _ _) (by omega)
                have km553 : ∀ g, m553 g 8 9 = m548 g 8 9 := fun g9 => by rw [hm553]; exact z_upd_o _ _ rfl
                refine X.iconst 137 i205_136 rfl rfl (by decide) ?_
                refine X.istore 139 [(0, zr g0 44), (4, zi 0)] i205_137 rfl rfl rfl ?_
                refine l205_139_1 (s := s) (m0 := m0) (d := d) g0  (fun g => m g 8 9) (BE := B + 0) (by omega) (by omega) (fun  m555 B556 hJ557 hBB556 hkm555 => ?_) ((96 - 0 : Int).toNat + 1) 0 m553 (B) (hJ554.up (by omega)) (by omega) (fun g => by simp only [km520, km545, km548, km553]) (by omega) (by omega)
                refine X.aload_n 174 i205_173 rfl rfl rfl ?_
                refine X.callv 177 [] [] [(0, zr g0 44)] i205_174 rfl (by decide) rfl rfl (by omega) rfl rfl (by decide) rfl t208 (Nat.le_of_ble_eq_true rfl) (Nat.le_of_ble_eq_true rfl) rfl ?_
                refine c208_1 (B := B556) g0  (by omega) (hJ557.up (by omega)) (by omega)  (fun m558 hJ559 km558 => ?_)
                show X (EE s) d 205 177 [(0, zr g0 44)] [] m558 _
                refine X.iconst 178 i205_177 rfl rfl (by decide) ?_
                refine X.reti i205_178 rfl t205 ?_
                exact hQ 0 m558 (by first | trivial | omega) (hJ559.up (by omega)) (fun g => by simp only [hkm555, km558]) 
              · have h552c : (m548 4 45 3) < z550 := by omega
                clear h552 hz551
                refine X.aload_n 122 i205_121 rfl rfl rfl ?_
                refine X.getF 125 i205_122 rfl rfl (by decide) rfl rfl ?_
                refine X.iconst 126 i205_125 rfl rfl (by decide) ?_
                refine X.lald 127 i205_126 rfl rfl (by decide) rfl (by omega) ?_
                refine X.l2i 128 i205_127 rfl rfl (by omega) ?_
                have hJ561 := w45_3 hJ546 hm548 (by omega)
                refine X.reti i205_128 rfl t205 ?_
                exact hQ (m548 4 45 3) m548 (by first | trivial | omega) (hJ561.up (by omega)) (fun g => by simp only [km520, km545, km548]) 
            · have h562 : (m520 4 45 1) = 3 := by omega
              rw [h562]
              clear h562
              refine X.irem 76 i205_75 rfl rfl (by omega) ?_
              refine X.iload_n 77 i205_76 rfl rfl rfl ?_
              refine X.aload_n 78 i205_77 rfl rfl rfl ?_
              refine X.callv 81 [] [zi (m 4 45 3), zi ((m 4 45 3) % 3), zi 239, zr 4 45] [(0, zr g0 44)] i205_78 rfl (by decide) rfl rfl (by omega) rfl rfl (by decide) rfl t206 (Nat.le_of_ble_eq_true rfl) (Nat.le_of_ble_eq_true rfl) rfl ?_
              refine X.aload_n 1 i206_0 rfl rfl rfl ?_
              refine X.getF 4 i206_1 rfl rfl (by decide) rfl rfl ?_
              refine X.iconst 5 i206_4 rfl rfl (by decide) ?_
              refine X.lald 6 i206_5 rfl rfl (by decide) rfl (by omega) ?_
              refine X.l2i 7 i206_6 rfl rfl (by omega) ?_
              refine X.reti i206_7 rfl t206 ?_
              show X (EE s) d 205 81 [(0, zr g0 44), (1, zi a1), (2, zi a2), (3, zi (m 4 45 3))] [zi (m520 4 45 1), zi (m 4 45 3), zi ((m 4 45 3) % 3), zi 239, zr 4 45] m520 _
              have h563 : (m520 4 45 1) = 3 := by omega
              rw [h563]
              clear h563
              refine X.idiv 82 i205_81 rfl rfl (by omega) ?_
              refine X.calls 85 [zi 239, zi ((m 4 45 3) % 3), zi ((m 4 45 3) / 3)] [zr 4 45] [(0, zi 239), (1, zi ((m 4 45 3) % 3)), (2, zi ((m 4 45 3) / 3))] i205_82 (by decide) rfl rfl (by omega) rfl rfl t207 (Nat.le_of_ble_eq_true rfl) (Nat.le_of_ble_eq_true rfl) rfl ?_
              refine X.iload_n 1 i207_0 rfl rfl rfl ?_
              refine X.bipush 3 i207_1 rfl rfl (by decide) ?_
              refine X.iload_n 4 i207_3 rfl rfl rfl ?_
              refine X.imul 5 i207_4 rfl rfl (by omega) ?_
              refine X.iadd 6 i207_5 rfl rfl (by omega) ?_
              refine X.iload_n 7 i207_6 rfl rfl rfl ?_
              refine X.iadd 8 i207_7 rfl rfl (by omega) ?_
              refine X.reti i207_8 rfl t207 ?_
              show X (EE s) d 205 85 [(0, zr g0 44), (1, zi a1), (2, zi a2), (3, zi (m 4 45 3))] [zi ((239 + (16 * ((m 4 45 3) % 3))) + ((m 4 45 3) / 3)), zr 4 45] m520 _
              refine X.iload_n 86 i205_85 rfl rfl rfl ?_
              refine X.i2l 87 i205_86 rfl rfl ?_
              refine X.last' 88 i205_87 rfl rfl (by decide) rfl (by omega) (fun hrm564 m564 hm564 => ?_)
              have hJ565 := w45_19 hJ521 hm564 (by omega) hrm564
              have km564 : ∀ g, m564 g 8 9 = m520 g 8 9 := fun g9 => by rw [hm564]; exact z_upd_o _ _ rfl
              refine X.aload_n 89 i205_88 rfl rfl rfl ?_
              refine X.getF 92 i205_89 rfl rfl (by decide) rfl rfl ?_
              refine X.iconst 93 i205_92 rfl rfl (by decide) ?_
              refine X.dup2 94 i205_93 rfl rfl ?_
              refine X.lald 95 i205_94 rfl rfl (by decide) rfl (by omega) ?_
              have h566 := r45_3 hJ565 4
              refine X.lconst (y := 1) 96 i205_95 rfl rfl rfl ?_
              refine X.ladd 97 i205_96 rfl rfl (by omega) ?_
              refine X.last' 98 i205_97 rfl rfl (by decide) rfl (by omega) (fun hrm567 m567 hm567 => ?_)
              have em567 : m567 4 45 3 = ((m564 4 45 3) + 1) := by rw [hm567]; exact z_upd_same _ _ _ _ _
              have qm5671 : m567 4 45 1 = m564 4 45 1 := by rw [hm567]; exact z_upd_o _ _ rfl
              have qqm5671 := r45_1 hJ565 4
              have qm5672 : m567 4 45 2 = m564 4 45 2 := by rw [hm567]; exact z_upd_o _ _ rfl
              have qqm5672 := r45_2 hJ565 4
              have km567 : ∀ g, m567 g 8 9 = m564 g 8 9 := fun g9 => by rw [hm567]; exact z_upd_o _ _ rfl
              refine X.aload_n 99 i205_98 rfl rfl rfl ?_
              refine X.getF 102 i205_99 rfl rfl (by decide) rfl rfl ?_
              refine X.iconst 103 i205_102 rfl rfl (by decide) ?_
              refine X.lald 104 i205_103 rfl rfl (by decide) rfl (by omega) ?_
              refine X.aload_n 105 i205_104 rfl rfl rfl ?_
              refine X.getF 108 i205_105 rfl rfl (by decide) rfl rfl ?_
              refine X.iconst 109 i205_108 rfl rfl (by decide) ?_
              refine X.lald 110 i205_109 rfl rfl (by decide) rfl (by omega) ?_
              refine X.aload_n 111 i205_110 rfl rfl rfl ?_
              refine X.getF 114 i205_111 rfl rfl (by decide) rfl rfl ?_
              refine X.iconst 115 i205_114 rfl rfl (by decide) ?_
              refine X.lald 116 i205_115 rfl rfl (by decide) rfl (by omega) ?_
              have hz569 := z_mulr (a := 1) (b := 3) (c := 4) (e := 16) (x := (m567 4 45 1)) (y := (m567 4 45 2)) (by omega) (by omega)
              refine X.lmul 117 i205_116 rfl rfl (z_in3 hz569 (by decide) (by decide)) ?_
              obtain ⟨z569, ez569⟩ : ∃ z, z = ((m567 4 45 1) * (m567 4 45 2)) := ⟨_, rfl⟩
              rw [← ez569] at hz569 ⊢
              have gz569 : 4 ≤ z569 ∧ z569 ≤ 48 := z_in3 hz569 (by decide) (by decide)
              clear hz569
              refine X.lcmp 118 i205_117 rfl rfl (fun z570 hz570 => ?_)
              refine X.ifge 129 121 i205_118 rfl rfl rfl (fun h571 => ?_) (fun h571 => ?_)
              · have h571c : (m567 4 45 3) ≥ z569 := by omega
                clear h571 hz570
                refine X.cut [(0, zr g0 44)] i205_129 rfl ?_
                refine X.aload_n 130 i205_129 rfl rfl rfl ?_
                refine X.getF 133 i205_130 rfl rfl (by decide) rfl rfl ?_
                refine X.iconst 134 i205_133 rfl rfl (by decide) ?_
                refine X.lconst (y := 0) 135 i205_134 rfl rfl rfl ?_
                refine X.last' 136 i205_135 rfl rfl (by decide) rfl (by omega) (fun hrm572 m572 hm572 => ?_)
                have hJ573 := w45_3 (x := 0) hJ565 (show m572 = z_upd m564 4 45 3 0 by rw [hm572, hm567]; exact z_upd_upd _ _ _ _ _ _) (by omega)
                have km572 : ∀ g, m572 g 8 9 = m567 g 8 9 := fun g9 => by rw [hm572]; exact z_upd_o _ _ rfl
                refine X.iconst 137 i205_136 rfl rfl (by decide) ?_
                refine X.istore 139 [(0, zr g0 44), (4, zi 0)] i205_137 rfl rfl rfl ?_
                refine l205_139_1 (s := s) (m0 := m0) (d := d) g0  (fun g => m g 8 9) (BE := B + 0) (by omega) (by omega) (fun  m574 B575 hJ576 hBB575 hkm574 => ?_) ((96 - 0 : Int).toNat + 1) 0 m572 (B) (hJ573.up (by omega)) (by omega) (fun g => by simp only [km520, km564, km567, km572]) (by omega) (by omega)
                refine X.aload_n 174 i205_173 rfl rfl rfl ?_
                refine X.callv 177 [] [] [(0, zr g0 44)] i205_174 rfl (by decide) rfl rfl (by omega) rfl rfl (by decide) rfl t208 (Nat.le_of_ble_eq_true rfl) (Nat.le_of_ble_eq_true rfl) rfl ?_
                refine c208_1 (B := B575) g0  (by omega) (hJ576.up (by omega)) (by omega)  (fun m577 hJ578 km577 => ?_)
                show X (EE s) d 205 177 [(0, zr g0 44)] [] m577 _
                refine X.iconst 178 i205_177 rfl rfl (by decide) ?_
                refine X.reti i205_178 rfl t205 ?_
                exact hQ 0 m577 (by first | trivial | omega) (hJ578.up (by omega)) (fun g => by simp only [hkm574, km577]) 
              · have h571c : (m567 4 45 3) < z569 := by omega
                clear h571 hz570
                refine X.aload_n 122 i205_121 rfl rfl rfl ?_
                refine X.getF 125 i205_122 rfl rfl (by decide) rfl rfl ?_
                refine X.iconst 126 i205_125 rfl rfl (by decide) ?_
                refine X.lald 127 i205_126 rfl rfl (by decide) rfl (by omega) ?_
                refine X.l2i 128 i205_127 rfl rfl (by omega) ?_
                have hJ580 := w45_3 hJ565 hm567 (by omega)
                refine X.reti i205_128 rfl t205 ?_
                exact hQ (m567 4 45 3) m567 (by first | trivial | omega) (hJ580.up (by omega)) (fun g => by simp only [km520, km564, km567]) 
          · have h581 : (m 4 45 1) = 2 := by omega
            rw [h581]
            clear h581
            refine X.irem 51 i205_50 rfl rfl (by omega) ?_
            refine X.iload_n 52 i205_51 rfl rfl rfl ?_
            refine X.aload_n 53 i205_52 rfl rfl rfl ?_
            refine X.callv 56 [] [zi (m 4 45 3), zi ((m 4 45 3) % 2), zi 191, zr 4 45] [(0, zr g0 44)] i205_53 rfl (by decide) rfl rfl (by omega) rfl rfl (by decide) rfl t206 (Nat.le_of_ble_eq_true rfl) (Nat.le_of_ble_eq_true rfl) rfl ?_
            refine X.aload_n 1 i206_0 rfl rfl rfl ?_
            refine X.getF 4 i206_1 rfl rfl (by decide) rfl rfl ?_
            refine X.iconst 5 i206_4 rfl rfl (by decide) ?_
            refine X.lald 6 i206_5 rfl rfl (by decide) rfl (by omega) ?_
            refine X.l2i 7 i206_6 rfl rfl (by omega) ?_
            refine X.reti i206_7 rfl t206 ?_
            show X (EE s) d 205 56 [(0, zr g0 44), (1, zi a1), (2, zi a2), (3, zi (m 4 45 3))] [zi (m 4 45 1), zi (m 4 45 3), zi ((m 4 45 3) % 2), zi 191, zr 4 45] m _
            have h582 : (m 4 45 1) = 2 := by omega
            rw [h582]
            clear h582
            refine X.idiv 57 i205_56 rfl rfl (by omega) ?_
            refine X.calls 60 [zi 191, zi ((m 4 45 3) % 2), zi ((m 4 45 3) / 2)] [zr 4 45] [(0, zi 191), (1, zi ((m 4 45 3) % 2)), (2, zi ((m 4 45 3) / 2))] i205_57 (by decide) rfl rfl (by omega) rfl rfl t207 (Nat.le_of_ble_eq_true rfl) (Nat.le_of_ble_eq_true rfl) rfl ?_
            refine X.iload_n 1 i207_0 rfl rfl rfl ?_
            refine X.bipush 3 i207_1 rfl rfl (by decide) ?_
            refine X.iload_n 4 i207_3 rfl rfl rfl ?_
            refine X.imul 5 i207_4 rfl rfl (by omega) ?_
            refine X.iadd 6 i207_5 rfl rfl (by omega) ?_
            refine X.iload_n 7 i207_6 rfl rfl rfl ?_
            refine X.iadd 8 i207_7 rfl rfl (by omega) ?_
            refine X.reti i207_8 rfl t207 ?_
            show X (EE s) d 205 60 [(0, zr g0 44), (1, zi a1), (2, zi a2), (3, zi (m 4 45 3))] [zi ((191 + (16 * ((m 4 45 3) % 2))) + ((m 4 45 3) / 2)), zr 4 45] m _
            refine X.iload_n 61 i205_60 rfl rfl rfl ?_
            refine X.i2l 62 i205_61 rfl rfl ?_
            refine X.last' 63 i205_62 rfl rfl (by decide) rfl (by omega) (fun hrm583 m583 hm583 => ?_)
            have hJ584 := w45_19 hJ hm583 (by omega) hrm583
            have km583 : ∀ g, m583 g 8 9 = m g 8 9 := fun g9 => by rw [hm583]; exact z_upd_o _ _ rfl
            refine X.aload_n 64 i205_63 rfl rfl rfl ?_
            refine X.getF 67 i205_64 rfl rfl (by decide) rfl rfl ?_
            refine X.sipush 70 i205_67 rfl rfl (by decide) ?_
            refine X.iload_n 71 i205_70 rfl rfl rfl ?_
            refine X.aload_n 72 i205_71 rfl rfl rfl ?_
            refine X.callv 75 [] [zi (m 4 45 3), zi 239, zr 4 45] [(0, zr g0 44)] i205_72 rfl (by decide) rfl rfl (by omega) rfl rfl (by decide) rfl t206 (Nat.le_of_ble_eq_true rfl) (Nat.le_of_ble_eq_true rfl) rfl ?_
            refine X.aload_n 1 i206_0 rfl rfl rfl ?_
            refine X.getF 4 i206_1 rfl rfl (by decide) rfl rfl ?_
            refine X.iconst 5 i206_4 rfl rfl (by decide) ?_
            refine X.lald 6 i206_5 rfl rfl (by decide) rfl (by omega) ?_
            have h585 := r45_1 hJ584 4
            refine X.l2i 7 i206_6 rfl rfl (by omega) ?_
            refine X.reti i206_7 rfl t206 ?_
            show X (EE s) d 205 75 [(0, zr g0 44), (1, zi a1), (2, zi a2), (3, zi (m 4 45 3))] [zi (m583 4 45 1), zi (m 4 45 3), zi 239, zr 4 45] m583 _
            rcases (show (m583 4 45 1) = 1 ∨ (m583 4 45 1) = 2 ∨ (m583 4 45 1) = 3 by omega) with h586 | h586 | h586
            · have h587 : (m583 4 45 1) = 1 := by omega
              rw [h587]
              clear h587
              refine X.irem 76 i205_75 rfl rfl (by omega) ?_
              refine X.iload_n 77 i205_76 rfl rfl rfl ?_
              refine X.aload_n 78 i205_77 rfl rfl rfl ?_
              refine X.callv 81 [] [zi (m 4 45 3), zi ((m 4 45 3) % 1), zi 239, zr 4 45] [(0, zr g0 44)] i205_78 rfl (by decide) rfl rfl (by omega) rfl rfl (by decide) rfl t206 (Nat.le_of_ble_eq_true rfl) (Nat.le_of_ble_eq_true rfl) rfl ?_
              refine X.aload_n 1 i206_0 rfl rfl rfl ?_
              refine X.getF 4 i206_1 rfl rfl (by decide) rfl rfl ?_
              refine X.iconst 5 i206_4 rfl rfl (by decide) ?_
              refine X.lald 6 i206_5 rfl rfl (by decide) rfl (by omega) ?_
              refine X.l2i 7 i206_6 rfl rfl (by omega) ?_
              refine X.reti i206_7 rfl t206 ?_
              show X (EE s) d 205 81 [(0, zr g0 44), (1, zi a1), (2, zi a2), (3, zi (m 4 45 3))] [zi (m583 4 45 1), zi (m 4 45 3), zi ((m 4 45 3) % 1), zi 239, zr 4 45] m583 _
              have h588 : (m583 4 45 1) = 1 := by omega
              rw [h588]
              clear h588
              refine X.idiv 82 i205_81 rfl rfl (by omega) ?_
              refine X.calls 85 [zi 239, zi ((m 4 45 3) % 1), zi ((m 4 45 3) / 1)] [zr 4 45] [(0, zi 239), (1, zi ((m 4 45 3) % 1)), (2, zi ((m 4 45 3) / 1))] i205_82 (by decide) rfl rfl (by omega) rfl rfl t207 (Nat.le_of_ble_eq_true rfl) (Nat.le_of_ble_eq_true rfl) rfl ?_
              refine X.iload_n 1 i207_0 rfl rfl rfl ?_
              refine X.bipush 3 i207_1 rfl rfl (by decide) ?_
              refine X.iload_n 4 i207_3 rfl rfl rfl ?_
              refine X.imul 5 i207_4 rfl rfl (by omega) ?_
              refine X.iadd 6 i207_5 rfl rfl (by omega) ?_
              refine X.iload_n 7 i207_6 rfl rfl rfl ?_
              refine X.iadd 8 i207_7 rfl rfl (by omega) ?_
              refine X.reti i207_8 rfl t207 ?_
              show X (EE s) d 205 85 [(0, zr g0 44), (1, zi a1), (2, zi a2), (3, zi (m 4 45 3))] [zi ((239 + (16 * ((m 4 45 3) % 1))) + ((m 4 45 3) / 1)), zr 4 45] m583 _
              refine X.iload_n 86 i205_85 rfl rfl rfl ?_
              refine X.i2l 87 i205_86 rfl rfl ?_
              refine X.last' 88 i205_87 rfl rfl (by decide) rfl (by omega) (fun hrm589 m589 hm589 => ?_)
              have hJ590 := w45_19 hJ584 hm589 (by omega) hrm589
              have km589 : ∀ g, m589 g 8 9 = m583 g 8 9 := fun g9 => by rw [hm589]; exact z_upd_o _ _ rfl
              refine X.aload_n 89 i205_88 rfl rfl rfl ?_
              refine X.getF 92 i205_89 rfl rfl (by decide) rfl rfl ?_
              refine X.iconst 93 i205_92 rfl rfl (by decide) ?_
              refine X.dup2 94 i205_93 rfl rfl ?_
              refine X.lald 95 i205_94 rfl rfl (by decide) rfl (by omega) ?_
              have h591 := r45_3 hJ590 4
              refine X.lconst (y := 1) 96 i205_95 rfl rfl rfl ?_
              refine X.ladd 97 i205_96 rfl rfl (by omega) ?_
              refine X.last' 98 i205_97 rfl rfl (by decide) rfl (by omega) (fun hrm592 m592 hm592 => ?_)
              have em592 : m592 4 45 3 = ((m589 4 45 3) + 1) := by rw [hm592]; exact z_upd_same _ _ _ _ _
              have qm5921 : m592 4 45 1 = m589 4 45 1 := by rw [hm592]; exact z_upd_o _ _ rfl
              have qqm5921 := r45_1 hJ590 4
              have qm5922 : m592 4 45 2 = m589 4 45 2 := by rw [hm592]; exact z_upd_o _ _ rfl
              have qqm5922 := r45_2 hJ590 4
              have km592 : ∀ g, m592 g 8 9 = m589 g 8 9 := fun g9 => by rw [hm592]; exact z_upd_o _ _ rfl
              refine X.aload_n 99 i205_98 rfl rfl rfl ?_
              refine X.getF 102 i205_99 rfl rfl (by decide) rfl rfl ?_
              refine X.iconst 103 i205_102 rfl rfl (by decide) ?_
              refine X.lald 104 i205_103 rfl rfl (by decide) rfl (by omega) ?_
              refine X.aload_n 105 i205_104 rfl rfl rfl ?_
              refine X.getF 108 i205_105 rfl rfl (by decide) rfl rfl ?_
              refine X.iconst 109 i205_108 rfl rfl (by decide) ?_
              refine X.lald 110 i205_109 rfl rfl (by decide) rfl (by omega) ?_
              refine X.aload_n 111 i205_110 rfl rfl rfl ?_
              refine X.getF 114 i205_111 rfl rfl (by decide) rfl rfl ?_
              refine X.iconst 115 i205_114 rfl rfl (by decide) ?_
              refine X.lald 116 i205_115 rfl rfl (by decide) rfl (by omega) ?_
              have hz594 := z_mulr (a := 1) (b := 3) (c := 4) (e := 16) (x := (m592 4 45 1)) (y := (m592 4 45 2)) (by omega) (by omega)
              refine X.lmul 117 i205_116 rfl rfl (z_in3 hz594 (by decide) (by decide)) ?_
              obtain ⟨z594, ez594⟩ : ∃ z, z = ((m592 4 45 1) * (m592 4 45 2)) := ⟨_, rfl⟩
              rw [← ez594] at hz594 ⊢
              have gz594 : 4 ≤ z594 ∧ z594 ≤ 48 := z_in3 hz594 (by decide) (by decide)
              clear hz594
              refine X.lcmp 118 i205_117 rfl rfl (fun z595 hz595 => ?_)
              refine X.ifge 129 121 i205_118 rfl rfl rfl (fun h596 => ?_) (fun h596 => ?_)
              · have h596c : (m592 4 45 3) ≥ z594 := by omega
                clear h596 hz595
                refine X.cut [(0, zr g0 44)] i205_129 rfl ?_
                refine X.aload_n 130 i205_129 rfl rfl rfl ?_
                refine X.getF 133 i205_130 rfl rfl (by decide) rfl rfl ?_
                refine X.iconst 134 i205_133 rfl rfl (by decide) ?_
                refine X.lconst (y := 0) 135 i205_134 rfl rfl rfl ?_
                refine X.last' 136 i205_135 rfl rfl (by decide) rfl (by omega) (fun hrm597 m597 hm597 => ?_)
                have hJ598 := w45_3 (x := 0) hJ590 (show m597 = z_upd m589 4 45 3 0 by rw [hm597, hm592]; exact z_upd_upd _ _ _ _ _ _) (by omega)
                have km597 : ∀ g, m597 g 8 9 = m592 g 8 9 := fun g9 => by rw [hm597]; exact z_upd_o _ _ rfl
                refine X.iconst 137 i205_136 rfl rfl (by decide) ?_
                refine X.istore 139 [(0, zr g0 44), (4, zi 0)] i205_137 rfl rfl rfl ?_
                refine l205_139_1 (s := s) (m0 := m0) (d := d) g0  (fun g => m g 8 9) (BE := B + 0) (by omega) (by omega) (fun  m599 B600 hJ601 hBB600 hkm599 => ?_) ((96 - 0 : Int).toNat + 1) 0 m597 (B) (hJ598.up (by omega)) (by omega) (fun g => by simp only [km583, km589, km592, km597]) (by omega) (by omega)
                refine X.aload_n 174 i205_173 rfl rfl rfl ?_
                refine X.callv 177 [] [] [(0, zr g0 44)] i205_174 rfl (by decide) rfl rfl (by omega) rfl rfl (by decide) rfl t208 (Nat.le_of_ble_eq_true rfl) (Nat.le_of_ble_eq_true rfl) rfl ?_
                refine c208_1 (B := B600) g0  (by omega) (hJ601.up (by omega)) (by omega)  (fun m602 hJ603 km602 => ?_)
                show X (EE s) d 205 177 [(0, zr g0 44)] [] m602 _
                refine X.iconst 178 i205_177 rfl rfl (by decide) ?_
                refine X.reti i205_178 rfl t205 ?_
                exact hQ 0 m602 (by first | trivial | omega) (hJ603.up (by omega)) (fun g => by simp only [hkm599, km602]) 
              · have h596c : (m592 4 45 3) < z594 := by omega
                clear h596 hz595
                refine X.aload_n 122 i205_121 rfl rfl rfl ?_
                refine X.getF 125 i205_122 rfl rfl (by decide) rfl rfl ?_
                refine X.iconst 126 i205_125 rfl rfl (by decide) ?_
                refine X.lald 127 i205_126 rfl rfl (by decide) rfl (by omega) ?_
                refine X.l2i 128 i205_127 rfl rfl (by omega) ?_
                have hJ605 := w45_3 hJ590 hm592 (by omega)
                refine X.reti i205_128 rfl t205 ?_
                exact hQ (m592 4 45 3) m592 (by first | trivial | omega) (hJ605.up (by omega)) (fun g => by simp only [km583, km589, km592]) 
            · have h606 : (m583 4 45 1) = 2 := by omega
              rw [h606]
              clear h606
              refine X.irem 76 i205_75 rfl rfl (by omega) ?_
              refine X.iload_n 77 i205_76 rfl rfl rfl ?_
              refine X.aload_n 78 i205_77 rfl rfl rfl ?_
              refine X.callv 81 [] [zi (m 4 45 3), zi ((m 4 45 3) % 2), zi 239, zr 4 45] [(0, zr g0 44)] i205_78 rfl (by decide) rfl rfl (by omega) rfl rfl (by decide) rfl t206 (Nat.le_of_ble_eq_true rfl) (Nat.le_of_ble_eq_true rfl) rfl ?_
              refine X.aload_n 1 i206_0 rfl rfl rfl ?_
              refine X.getF 4 i206_1 rfl rfl (by decide) rfl rfl ?_
              refine X.iconst 5 i206_4 rfl rfl (by decide) ?_
              refine X.lald 6 i206_5 rfl rfl (by decide) rfl (by omega) ?_
              refine X.l2i 7 i206_6 rfl rfl (by omega) ?_
              refine X.reti i206_7 rfl t206 ?_
              show X (EE s) d 205 81 [(0, zr g0 44), (1, zi a1), (2, zi a2), (3, zi (m 4 45 3))] [zi (m583 4 45 1), zi (m 4 45 3), zi ((m 4 45 3) % 2), zi 239, zr 4 45] m583 _
              have h607 : (m583 4 45 1) = 2 := by omega
              rw [h607]
              clear h607
              refine X.idiv 82 i205_81 rfl rfl (by omega) ?_
              refine X.calls 85 [zi 239, zi ((m 4 45 3) % 2), zi ((m 4 45 3) / 2)] [zr 4 45] [(0, zi 239), (1, zi ((m 4 45 3) % 2)), (2, zi ((m 4 45 3) / 2))] i205_82 (by decide) rfl rfl (by omega) rfl rfl t207 (Nat.le_of_ble_eq_true rfl) (Nat.le_of_ble_eq_true rfl) rfl ?_
              refine X.iload_n 1 i207_0 rfl rfl rfl ?_
              refine X.bipush 3 i207_1 rfl rfl (by decide) ?_
              refine X.iload_n 4 i207_3 rfl rfl rfl ?_
              refine X.imul 5 i207_4 rfl rfl (by omega) ?_
              refine X.iadd 6 i207_5 rfl rfl (by omega) ?_
              refine X.iload_n 7 i207_6 rfl rfl rfl ?_
              refine X.iadd 8 i207_7 rfl rfl (by omega) ?_
              refine X.reti i207_8 rfl t207 ?_
              show X (EE s) d 205 85 [(0, zr g0 44), (1, zi a1), (2, zi a2), (3, zi (m 4 45 3))] [zi ((239 + (16 * ((m 4 45 3) % 2))) + ((m 4 45 3) / 2)), zr 4 45] m583 _
              refine X.iload_n 86 i205_85 rfl rfl rfl ?_
              refine X.i2l 87 i205_86 rfl rfl ?_
              refine X.last' 88 i205_87 rfl rfl (by decide) rfl (by omega) (fun hrm608 m608 hm608 => ?_)
              have hJ609 := w45_19 hJ584 hm608 (by omega) hrm608
              have km608 : ∀ g, m608 g 8 9 = m583 g 8 9 := fun g9 => by rw [hm608]; exact z_upd_o _ _ rfl
              refine X.aload_n 89 i205_88 rfl rfl rfl ?_
              refine X.getF 92 i205_89 rfl rfl (by decide) rfl rfl ?_
              refine X.iconst 93 i205_92 rfl rfl (by decide) ?_
              refine X.dup2 94 i205_93 rfl rfl ?_
              refine X.lald 95 i205_94 rfl rfl (by decide) rfl (by omega) ?_
              have h610 := r45_3 hJ609 4
              refine X.lconst (y := 1) 96 i205_95 rfl rfl rfl ?_
              refine X.ladd 97 i205_96 rfl rfl (by omega) ?_
              refine X.last' 98 i205_97 rfl rfl (by decide) rfl (by omega) (fun hrm611 m611 hm611 => ?_)
              have em611 : m611 4 45 3 = ((m608 4 45 3) + 1) := by rw [hm611]; exact z_upd_same _ _ _ _ _
              have qm6111 : m611 4 45 1 = m608 4 45 1 := by rw [hm611]; exact z_upd_o _ _ rfl
              have qqm6111 := r45_1 hJ609 4
              have qm6112 : m611 4 45 2 = m608 4 45 2 := by rw [hm611]; exact z_upd_o _ _ rfl
              have qqm6112 := r45_2 hJ609 4
              have km611 : ∀ g, m611 g 8 9 = m608 g 8 9 := fun g9 => by rw [hm611]; exact z_upd_o _ _ rfl
              refine X.aload_n 99 i205_98 rfl rfl rfl ?_
              refine X.getF 102 i205_99 rfl rfl (by decide) rfl rfl ?_
              refine X.iconst 103 i205_102 rfl rfl (by decide) ?_
              refine X.lald 104 i205_103 rfl rfl (by decide) rfl (by omega) ?_
              refine X.aload_n 105 i205_104 rfl rfl rfl ?_
              refine X.getF 108 i205_105 rfl rfl (by decide) rfl rfl ?_
              refine X.iconst 109 i205_108 rfl rfl (by decide) ?_
              refine X.lald 110 i205_109 rfl rfl (by decide) rfl (by omega) ?_
              refine X.aload_n 111 i205_110 rfl rfl rfl ?_
              refine X.getF 114 i205_111 rfl rfl (by decide) rfl rfl ?_
              refine X.iconst 115 i205_114 rfl rfl (by decide) ?_
              refine X.lald 116 i205_115 rfl rfl (by decide) rfl (by omega) ?_
              have hz613 := z_mulr (a := 1) (b := 3) (c := 4) (e := 16) (x := (m611 4 45 1)) (y := (m611 4 45 2)) (by omega) (by omega)
              refine X.lmul 117 i205_116 rfl rfl (z_in3 hz613 (by decide) (by decide)) ?_
              obtain ⟨z613, ez613⟩ : ∃ z, z = ((m611 4 45 1) * (m611 4 45 2)) := ⟨_, rfl⟩
              rw [← ez613] at hz613 ⊢
              have gz613 : 4 ≤ z613 ∧ z613 ≤ 48 := z_in3 hz613 (by decide) (by decide)
              clear hz613
              refine X.lcmp 118 i205_117 rfl rfl (fun z614 hz614 => ?_)
              refine X.ifge 129 121 i205_118 rfl rfl rfl (fun h615 => ?_) (fun h615 => ?_)
              · have h615c : (m611 4 45 3) ≥ z613 := by omega
                clear h615 hz614
                refine X.cut [(0, zr g0 44)] i205_129 rfl ?_
                refine X.aload_n 130 i205_129 rfl rfl rfl ?_
                refine X.getF 133 i205_130 rfl rfl (by decide) rfl rfl ?_
                refine X.iconst 134 i205_133 rfl rfl (by decide) ?_
                refine X.lconst (y := 0) 135 i205_134 rfl rfl rfl ?_
                refine X.last' 136 i205_135 rfl rfl (by decide) rfl (by omega) (fun hrm616 m616 hm616 => ?_)
                have hJ617 := w45_3 (x := 0) hJ609 (show m616 = z_upd m608 4 45 3 0 by rw [hm616, hm611]; exact z_upd_upd _ _ _ _ _ _) (by omega)
                have km616 : ∀ g, m616 g 8 9 = m611 g 8 9 := fun g9 => by rw [hm616]; exact z_upd_o _ _ rfl
                refine X.iconst 137 i205_136 rfl rfl (by decide) ?_
                refine X.istore 139 [(0, zr g0 44), (4, zi 0)] i205_137 rfl rfl rfl ?_
                refine l205_139_1 (s := s) (m0 := m0) (d := d) g0  (fun g => m g 8 9) (BE := B + 0) (by omega) (by omega) (fun  m618 B619 hJ620 hBB619 hkm618 => ?_) ((96 - 0 : Int).toNat + 1) 0 m616 (B) (hJ617.up (by omega)) (by omega) (fun g => by simp only [km583, km608, km611, km616]) (by omega) (by omega)
                refine X.aload_n 174 i205_173 rfl rfl rfl ?_
                refine X.callv 177 [] [] [(0, zr g0 44)] i205_174 rfl (by decide) rfl rfl (by omega) rfl rfl (by decide) rfl t208 (Nat.le_of_ble_eq_true rfl) (Nat.le_of_ble_eq_true rfl) rfl ?_
                refine c208_1 (B := B619) g0  (by omega) (hJ620.up (by omega)) (by omega)  (fun m621 hJ622 km621 => ?_)
                show X (EE s) d 205 177 [(0, zr g0 44)] [] m621 _
                refine X.iconst 178 i205_177 rfl rfl (by decide) ?_
                refine X.reti i205_178 rfl t205 ?_
                exact hQ 0 m621 (by first | trivial | omega) (hJ622.up (by omega)) (fun g => by simp only [hkm618, km621]) 
              · have h615c : (m611 4 45 3) < z613 := by omega
                clear h615 hz614
                refine X.aload_n 122 i205_121 rfl rfl rfl ?_
                refine X.getF 125 i205_122 rfl rfl (by decide) rfl rfl ?_
                refine X.iconst 126 i205_125 rfl rfl (by decide) ?_
                refine X.lald 127 i205_126 rfl rfl (by decide) rfl (by omega) ?_
                refine X.l2i 128 i205_127 rfl rfl (by omega) ?_
                have hJ624 := w45_3 hJ609 hm611 (by omega)
                refine X.reti i205_128 rfl t205 ?_
                exact hQ (m611 4 45 3) m611 (by first | trivial | omega) (hJ624.up (by omega)) (fun g => by simp only [km583, km608, km611]) 
            · have h625 : (m583 4 45 1) = 3 := by omega
              rw [h625]
              clear h625
              refine X.irem 76 i205_75 rfl rfl (by omega) ?_
              refine X.iload_n 77 i205_76 rfl rfl rfl ?_
              refine X.aload_n 78 i205_77 rfl rfl rfl ?_
              refine X.callv 81 [] [zi (m 4 45 3), zi ((m 4 45 3) % 3), zi 239, zr 4 45] [(0, zr g0 44)] i205_78 rfl (by decide) rfl rfl (by omega) rfl rfl (by decide) rfl t206 (Nat.le_of_ble_eq_true rfl) (Nat.le_of_ble_eq_true rfl) rfl ?_
              refine X.aload_n 1 i206_0 rfl rfl rfl ?_
              refine X.getF 4 i206_1 rfl rfl (by decide) rfl rfl ?_
              refine X.iconst 5 i206_4 rfl rfl (by decide) ?_
              refine X.lald 6 i206_5 rfl rfl (by decide) rfl (by omega) ?_
              refine X.l2i 7 i206_6 rfl rfl (by omega) ?_
              refine X.reti i206_7 rfl t206 ?_
              show X (EE s) d 205 81 [(0, zr g0 44), (1, zi a1), (2, zi a2), (3, zi (m 4 45 3))] [zi (m583 4 45 1), zi (m 4 45 3), zi ((m 4 45 3) % 3), zi 239, zr 4 45] m583 _
              have h626 : (m583 4 45 1) = 3 := by omega
              rw [h626]
              clear h626
              refine X.idiv 82 i205_81 rfl rfl (by omega) ?_
              refine X.calls 85 [zi 239, zi ((m 4 45 3) % 3), zi ((m 4 45 3) / 3)] [zr 4 45] [(0, zi 239), (1, zi ((m 4 45 3) % 3)), (2, zi ((m 4 45 3) / 3))] i205_82 (by decide) rfl rfl (by omega) rfl rfl t207 (Nat.le_of_ble_eq_true rfl) (Nat.le_of_ble_eq_true rfl) rfl ?_
              refine X.iload_n 1 i207_0 rfl rfl rfl ?_
              refine X.bipush 3 i207_1 rfl rfl (by decide) ?_
              refine X.iload_n 4 i207_3 rfl rfl rfl ?_
              refine X.imul 5 i207_4 rfl rfl (by omega) ?_
              refine X.iadd 6 i207_5 rfl rfl (by omega) ?_
              refine X.iload_n 7 i207_6 rfl rfl rfl ?_
              refine X.iadd 8 i207_7 rfl rfl (by omega) ?_
              refine X.reti i207_8 rfl t207 ?_
              show X (EE s) d 205 85 [(0, zr g0 44), (1, zi a1), (2, zi a2), (3, zi (m 4 45 3))] [zi ((239 + (16 * ((m 4 45 3) % 3))) + ((m 4 45 3) / 3)), zr 4 45] m583 _
              refine X.iload_n 86 i205_85 rfl rfl rfl ?_
              refine X.i2l 87 i205_86 rfl rfl ?_
              refine X.last' 88 i205_87 rfl rfl (by decide) rfl (by omega) (fun hrm627 m627 hm627 => ?_)
              have hJ628 := w45_19 hJ584 hm627 (by omega) hrm627
              have km627 : ∀ g, m627 g 8 9 = m583 g 8 9 := fun g9 => by rw [hm627]; exact z_upd_o _ _ rfl
              refine X.aload_n 89 i205_88 rfl rfl rfl ?_
              refine X.getF 92 i205_89 rfl rfl (by decide) rfl rfl ?_
              refine X.iconst 93 i205_92 rfl rfl (by decide) ?_
              refine X.dup2 94 i205_93 rfl rfl ?_
              refine X.lald 95 i205_94 rfl rfl (by decide) rfl (by omega) ?_
              have h629 := r45_3 hJ628 4
              refine X.lconst (y := 1) 96 i205_95 rfl rfl rfl ?_
              refine X.ladd 97 i205_96 rfl rfl (by omega) ?_
              refine X.last' 98 i205_97 rfl rfl (by decide) rfl (by omega) (fun hrm630 m630 hm630 => ?_)
              have em630 : m630 4 45 3 = ((m627 4 45 3) + 1) := by rw [hm630]; exact z_upd_same _ _ _ _ _
              have qm6301 : m630 4 45 1 = m627 4 45 1 := by rw [hm630]; exact z_upd_o _ _ rfl
              have qqm6301 := r45_1 hJ628 4
              have qm6302 : m630 4 45 2 = m627 4 45 2 := by rw [hm630]; exact z_upd_o _ _ rfl
              have qqm6302 := r45_2 hJ628 4
              have km630 : ∀ g, m630 g 8 9 = m627 g 8 9 := fun g9 => by rw [hm630]; exact z_upd_o _ _ rfl
              refine X.aload_n 99 i205_98 rfl rfl rfl ?_
              refine X.getF 102 i205_99 rfl rfl (by decide) rfl rfl ?_
              refine X.iconst 103 i205_102 rfl rfl (by decide) ?_
              refine X.lald 104 i205_103 rfl rfl (by decide) rfl (by omega) ?_
              refine X.aload_n 105 i205_104 rfl rfl rfl ?_
              refine X.getF 108 i205_105 rfl rfl (by decide) rfl rfl ?_
              refine X.iconst 109 i205_108 rfl rfl (by decide) ?_
              refine X.lald 110 i205_109 rfl rfl (by decide) rfl (by omega) ?_
              refine X.aload_n 111 i205_110 rfl rfl rfl ?_
              refine X.getF 114 i205_111 rfl rfl (by decide) rfl rfl ?_
              refine X.iconst 115 i205_114 rfl rfl (by decide) ?_
              refine X.lald 116 i205_115 rfl rfl (by decide) rfl (by omega) ?_
              have hz632 := z_mulr (a := 1) (b := 3) (c := 4) (e := 16) (x := (m630 4 45 1)) (y := (m630 4 45 2)) (by omega) (by omega)
              refine X.lmul 117 i205_116 rfl rfl (z_in3 hz632 (by decide) (by decide)) ?_
              obtain ⟨z632, ez632⟩ : ∃ z, z = ((m630 4 45 1) * (m630 4 45 2)) := ⟨_, rfl⟩
              rw [← ez632] at hz632 ⊢
              have gz632 : 4 ≤ z632 ∧ z632 ≤ 48 := z_in3 hz632 (by decide) (by decide)
              clear hz632
              refine X.lcmp 118 i205_117 rfl rfl (fun z633 hz633 => ?_)
              refine X.ifge 129 121 i205_118 rfl rfl rfl (fun h634 => ?_) (fun h634 => ?_)
              · have h634c : (m630 4 45 3) ≥ z632 := by omega
                clear h634 hz633
                refine X.cut [(0, zr g0 44)] i205_129 rfl ?_
                refine X.aload_n 130 i205_129 rfl rfl rfl ?_
                refine X.getF 133 i205_130 rfl rfl (by decide) rfl rfl ?_
                refine X.iconst 134 i205_133 rfl rfl (by decide) ?_
                refine X.lconst (y := 0) 135 i205_134 rfl rfl rfl ?_
                refine X.last' 136 i205_135 rfl rfl (by decide) rfl (by omega) (fun hrm635 m635 hm635 => ?_)
                have hJ636 := w45_3 (x := 0) hJ628 (show m635 = z_upd m627 4 45 3 0 by rw [hm635, hm630]; exact z_upd_upd _ _ _ _ _ _) (by omega)
                have km635 : ∀ g, m635 g 8 9 = m630 g 8 9 := fun g9 => by rw [hm635]; exact z_upd_o _ _ rfl
                refine X.iconst 137 i205_136 rfl rfl (by decide) ?_
                refine X.istore 139 [(0, zr g0 44), (4, zi 0)] i205_137 rfl rfl rfl ?_
                refine l205_139_1 (s := s) (m0 := m0) (d := d) g0  (fun g => m g 8 9) (BE := B + 0) (by omega) (by omega) (fun  m637 B638 hJ639 hBB638 hkm637 => ?_) ((96 - 0 : Int).toNat + 1) 0 m635 (B) (hJ636.up (by omega)) (by omega) (fun g => by simp only [km583, km627, km630, km635]) (by omega) (by omega)
                refine X.aload_n 174 i205_173 rfl rfl rfl ?_
                refine X.callv 177 [] [] [(0, zr g0 44)] i205_174 rfl (by decide) rfl rfl (by omega) rfl rfl (by decide) rfl t208 (Nat.le_of_ble_eq_true rfl) (Nat.le_of_ble_eq_true rfl) rfl ?_
                refine c208_1 (B := B638) g0  (by omega) (hJ639.up (by omega)) (by omega)  (fun m640 hJ641 km640 => ?_)
                show X (EE s) d 205 177 [(0, zr g0 44)] [] m640 _
                refine X.iconst 178 i205_177 rfl rfl (by decide) ?_
                refine X.reti i205_178 rfl t205 ?_
                exact hQ 0 m640 (by first | trivial | omega) (hJ641.up (by omega)) (fun g => by simp only [hkm637, km640]) 
              · have h634c : (m630 4 45 3) < z632 := by omega
                clear h634 hz633
                refine X.aload_n 122 i205_121 rfl rfl rfl ?_
                refine X.getF 125 i205_122 rfl rfl (by decide) rfl rfl ?_
                refine X.iconst 126 i205_125 rfl rfl (by decide) ?_
                refine X.lald 127 i205_126 rfl rfl (by decide) rfl (by omega) ?_
                refine X.l2i 128 i205_127 rfl rfl (by omega) ?_
                have hJ643 := w45_3 hJ628 hm630 (by omega)
                refine X.reti i205_128 rfl t205 ?_
                exact hQ (m630 4 45 3) m630 (by first | trivial | omega) (hJ643.up (by omega)) (fun g => by simp only [km583, km627, km630]) 
          · have h644 : (m 4 45 1) = 3 := by omega
            rw [h644]
            clear h644
            refine X.irem 51 i205_50 rfl rfl (by omega) ?_
            refine X.iload_n 52 i205_51 rfl rfl rfl ?_
            refine X.aload_n 53 i205_52 rfl rfl rfl ?_
            refine X.callv 56 [] [zi (m 4 45 3), zi ((m 4 45 3) % 3), zi 191, zr 4 45] [(0, zr g0 44)] i205_53 rfl (by decide) rfl rfl (by omega) rfl rfl (by decide) rfl t206 (Nat.le_of_ble_eq_true rfl) (Nat.le_of_ble_eq_true rfl) rfl ?_
            refine X.aload_n 1 i206_0 rfl rfl rfl ?_
            refine X.getF 4 i206_1 rfl rfl (by decide) rfl rfl ?_
            refine X.iconst 5 i206_4 rfl rfl (by decide) ?_
            refine X.lald 6 i206_5 rfl rfl (by decide) rfl (by omega) ?_
            refine X.l2i 7 i206_6 rfl rfl (by omega) ?_
            refine X.reti i206_7 rfl t206 ?_
            show X (EE s) d 205 56 [(0, zr g0 44), (1, zi a1), (2, zi a2), (3, zi (m 4 45 3))] [zi (m 4 45 1), zi (m 4 45 3), zi ((m 4 45 3) % 3), zi 191, zr 4 45] m _
            have h645 : (m 4 45 1) = 3 := by omega
            rw [h645]
            clear h645
            refine X.idiv 57 i205_56 rfl rfl (by omega) ?_
            refine X.calls 60 [zi 191, zi ((m 4 45 3) % 3), zi ((m 4 45 3) / 3)] [zr 4 45] [(0, zi 191), (1, zi ((m 4 45 3) % 3)), (2, zi ((m 4 45 3) / 3))] i205_57 (by decide) rfl rfl (by omega) rfl rfl t207 (Nat.le_of_ble_eq_true rfl) (Nat.le_of_ble_eq_true rfl) rfl ?_
            refine X.iload_n 1 i207_0 rfl rfl rfl ?_
            refine X.bipush 3 i207_1 rfl rfl (by decide) ?_
            refine X.iload_n 4 i207_3 rfl rfl rfl ?_
            refine X.imul 5 i207_4 rfl rfl (by omega) ?_
            refine X.iadd 6 i207_5 rfl rfl (by omega) ?_
            refine X.iload_n 7 i207_6 rfl rfl rfl ?_
            refine X.iadd 8 i207_7 rfl rfl (by omega) ?_
            refine X.reti i207_8 rfl t207 ?_
            show X (EE s) d 205 60 [(0, zr g0 44), (1, zi a1), (2, zi a2), (3, zi (m 4 45 3))] [zi ((191 + (16 * ((m 4 45 3) % 3))) + ((m 4 45 3) / 3)), zr 4 45] m _
            refine X.iload_n 61 i205_60 rfl rfl rfl ?_
            refine X.i2l 62 i205_61 rfl rfl ?_
            refine X.last' 63 i205_62 rfl rfl (by decide) rfl (by omega) (fun hrm646 m646 hm646 => ?_)
            have hJ647 := w45_19 hJ hm646 (by omega) hrm646
            have km646 : ∀ g, m646 g 8 9 = m g 8 9 := fun g9 => by rw [hm646]; exact z_upd_o _ _ rfl
            refine X.aload_n 64 i205_63 rfl rfl rfl ?_
            refine X.getF 67 i205_64 rfl rfl (by decide) rfl rfl ?_
            refine X.sipush 70 i205_67 rfl rfl (by decide) ?_
            refine X.iload_n 71 i205_70 rfl rfl rfl ?_
            refine X.aload_n 72 i205_71 rfl rfl rfl ?_
            refine X.callv 75 [] [zi (m 4 45 3), zi 239, zr 4 45] [(0, zr g0 44)] i205_72 rfl (by decide) rfl rfl (by omega) rfl rfl (by decide) rfl t206 (Nat.le_of_ble_eq_true rfl) (Nat.le_of_ble_eq_true rfl) rfl ?_
            refine X.aload_n 1 i206_0 rfl rfl rfl ?_
            refine X.getF 4 i206_1 rfl rfl (by decide) rfl rfl ?_
            refine X.iconst 5 i206_4 rfl rfl (by decide) ?_
            refine X.lald 6 i206_5 rfl rfl (by decide) rfl (by omega) ?_
            have h648 := r45_1 hJ647 4
            refine X.l2i 7 i206_6 rfl rfl (by omega) ?_
            refine X.reti i206_7 rfl t206 ?_
            show X (EE s) d 205 75 [(0, zr g0 44), (1, zi a1), (2, zi a2), (3, zi (m 4 45 3))] [zi (m646 4 45 1), zi (m 4 45 3), zi 239, zr 4 45] m646 _
            rcases (show (m646 4 45 1) = 1 ∨ (m646 4 45 1) = 2 ∨ (m646 4 45 1) = 3 by omega) with h649 | h649 | h649
            · have h650 : (m646 4 45 1) = 1 := by omega
              rw [h650]
              clear h650
              refine X.irem 76 i205_75 rfl rfl (by omega) ?_
              refine X.iload_n 77 i205_76 rfl rfl rfl ?_
              refine X.aload_n 78 i205_77 rfl rfl rfl ?_
              refine X.callv 81 [] [zi (m 4 45 3), zi ((m 4 45 3) % 1), zi 239, zr 4 45] [(0, zr g0 44)] i205_78 rfl (by decide) rfl rfl (by omega) rfl rfl (by decide) rfl t206 (Nat.le_of_ble_eq_true rfl) (Nat.le_of_ble_eq_true rfl) rfl ?_
              refine X.aload_n 1 i206_0 rfl rfl rfl ?_
              refine X.getF 4 i206_1 rfl rfl (by decide) rfl rfl ?_
              refine X.iconst 5 i206_4 rfl rfl (by decide) ?_
              refine X.lald 6 i206_5 rfl rfl (by decide) rfl (by omega) ?_
              refine X.l2i 7 i206_6 rfl rfl (by omega) ?_
              refine X.reti i206_7 rfl t206 ?_
              show X (EE s) d 205 81 [(0, zr g0 44), (1, zi a1), (2, zi a2), (3, zi (m 4 45 3))] [zi (m646 4 45 1), zi (m 4 45 3), zi ((m 4 45 3) % 1), zi 239, zr 4 45] m646 _
              have h651 : (m646 4 45 1) = 1 := by omega
              rw [h651]
              clear h651
              refine X.idiv 82 i205_81 rfl rfl (by omega) ?_
              refine X.calls 85 [zi 239, zi ((m 4 45 3) % 1), zi ((m 4 45 3) / 1)] [zr 4 45] [(0, zi 239), (1, zi ((m 4 45 3) % 1)), (2, zi ((m 4 45 3) / 1))] i205_82 (by decide) rfl rfl (by omega) rfl rfl t207 (Nat.le_of_ble_eq_true rfl) (Nat.le_of_ble_eq_true rfl) rfl ?_
              refine X.iload_n 1 i207_0 rfl rfl rfl ?_
              refine X.bipush 3 i207_1 rfl rfl (by decide) ?_
              refine X.iload_n 4 i207_3 rfl rfl rfl ?_
              refine X.imul 5 i207_4 rfl rfl (by omega) ?_
              refine X.iadd 6 i207_5 rfl rfl (by omega) ?_
              refine X.iload_n 7 i207_6 rfl rfl rfl ?_
              refine X.iadd 8 i207_7 rfl rfl (by omega) ?_
              refine X.reti i207_8 rfl t207 ?_
              show X (EE s) d 205 85 [(0, zr g0 44), (1, zi a1), (2, zi a2), (3, zi (m 4 45 3))] [zi ((239 + (16 * ((m 4 45 3) % 1))) + ((m 4 45 3) / 1)), zr 4 45] m646 _
              refine X.iload_n 86 i205_85 rfl rfl rfl ?_
              refine X.i2l 87 i205_86 rfl rfl ?_
              refine X.last' 88 i205_87 rfl rfl (by decide) rfl (by omega) (fun hrm652 m652 hm652 => ?_)
              have hJ653 := w45_19 hJ647 hm652 (by omega) hrm652
              have km652 : ∀ g, m652 g 8 9 = m646 g 8 9 := fun g9 => by rw [hm652]; exact z_upd_o _ _ rfl
              refine X.aload_n 89 i205_88 rfl rfl rfl ?_
              refine X.getF 92 i205_89 rfl rfl (by decide) rfl rfl ?_
              refine X.iconst 93 i205_92 rfl rfl (by decide) ?_
              refine X.dup2 94 i205_93 rfl rfl ?_
              refine X.lald 95 i205_94 rfl rfl (by decide) rfl (by omega) ?_
              have h654 := r45_3 hJ653 4
              refine X.lconst (y := 1) 96 i205_95 rfl rfl rfl ?_
              refine X.ladd 97 i205_96 rfl rfl (by omega) ?_
              refine X.last' 98 i205_97 rfl rfl (by decide) rfl (by omega) (fun hrm655 m655 hm655 => ?_)
              have em655 : m655 4 45 3 = ((m652 4 45 3) + 1) := by rw [hm655]; exact z_upd_same _ _ _ _ _
              have qm6551 : m655 4 45 1 = m652 4 45 1 := by rw [hm655]; exact z_upd_o _ _ rfl
              have qqm6551 := r45_1 hJ653 4
              have qm6552 : m655 4 45 2 = m652 4 45 2 := by rw [hm655]; exact z_upd_o _ _ rfl
              have qqm6552 := r45_2 hJ653 4
              have km655 : ∀ g, m655 g 8 9 = m652 g 8 9 := fun g9 => by rw [hm655]; exact z_upd_o _ _ rfl
              refine X.aload_n 99 i205_98 rfl rfl rfl ?_
              refine X.getF 102 i205_99 rfl rfl (by decide) rfl rfl ?_
              refine X.iconst 103 i205_102 rfl rfl (by decide) ?_
              refine X.lald 104 i205_103 rfl rfl (by decide) rfl (by omega) ?_
              refine X.aload_n 105 i205_104 rfl rfl rfl ?_
              refine X.getF 108 i205_105 rfl rfl (by decide) rfl rfl ?_
              refine X.iconst 109 i205_108 rfl rfl (by decide) ?_
              refine X.lald 110 i205_109 rfl rfl (by decide) rfl (by omega) ?_
              refine X.aload_n 111 i205_110 rfl rfl rfl ?_
              refine X.getF 114 i205_111 rfl rfl (by decide) rfl rfl ?_
              refine X.iconst 115 i205_114 rfl rfl (by decide) ?_
              refine X.lald 116 i205_115 rfl rfl (by decide) rfl (by omega) ?_
              have hz657 := z_mulr (a := 1) (b := 3) (c := 4) (e := 16) (x := (m655 4 45 1)) (y := (m655 4 45 2)) (by omega) (by omega)
              refine X.lmul 117 i205_116 rfl rfl (z_in3 hz657 (by decide) (by decide)) ?_
              obtain ⟨z657, ez657⟩ : ∃ z, z = ((m655 4 45 1) * (m655 4 45 2)) := ⟨_, rfl⟩
              rw [← ez657] at hz657 ⊢
              have gz657 : 4 ≤ z657 ∧ z657 ≤ 48 := z_in3 hz657 (by decide) (by decide)
              clear hz657
              refine X.lcmp 118 i205_117 rfl rfl (fun z658 hz658 => ?_)
              refine X.ifge 129 121 i205_118 rfl rfl rfl (fun h659 => ?_) (fun h659 => ?_)
              · have h659c : (m655 4 45 3) ≥ z657 := by omega
                clear h659 hz658
                refine X.cut [(0, zr g0 44)] i205_129 rfl ?_
                refine X.aload_n 130 i205_129 rfl rfl rfl ?_
                refine X.getF 133 i205_130 rfl rfl (by decide) rfl rfl ?_
                refine X.iconst 134 i205_133 rfl rfl (by decide) ?_
                refine X.lconst (y := 0) 135 i205_134 rfl rfl rfl ?_
                refine X.last' 136 i205_135 rfl rfl (by decide) rfl (by omega) (fun hrm660 m660 hm660 => ?_)
                have hJ661 := w45_3 (x := 0) hJ653 (show m660 = z_upd m652 4 45 3 0 by rw [hm660, hm655]; exact z_upd_upd _ _ _ _ _ _) (by omega)
                have km660 : ∀ g, m660 g 8 9 = m655 g 8 9 := fun g9 => by rw [hm660]; exact z_upd_o _ _ rfl
                refine X.iconst 137 i205_136 rfl rfl (by decide) ?_
                refine X.istore 139 [(0, zr g0 44), (4, zi 0)] i205_137 rfl rfl rfl ?_
                refine l205_139_1 (s := s) (m0 := m0) (d := d) g0  (fun g => m g 8 9) (BE := B + 0) (by omega) (by omega) (fun  m662 B663 hJ664 hBB663 hkm662 => ?_) ((96 - 0 : Int).toNat + 1) 0 m660 (B) (hJ661.up (by omega)) (by omega) (fun g => by simp only [km646, km652, km655, km660]) (by omega) (by omega)
                refine X.aload_n 174 i205_173 rfl rfl rfl ?_
                refine X.callv 177 [] [] [(0, zr g0 44)] i205_174 rfl (by decide) rfl rfl (by omega) rfl rfl (by decide) rfl t208 (Nat.le_of_ble_eq_true rfl) (Nat.le_of_ble_eq_true rfl) rfl ?_
                refine c208_1 (B := B663) g0  (by omega) (hJ664.up (by omega)) (by omega)  (fun m665 hJ666 km665 => ?_)
                show X (EE s) d 205 177 [(0, zr g0 44)] [] m665 _
                refine X.iconst 178 i205_177 rfl rfl (by decide) ?_
                refine X.reti i205_178 rfl t205 ?_
                exact hQ 0 m665 (by first | trivial | omega) (hJ666.up (by omega)) (fun g => by simp only [hkm662, km665]) 
              · have h659c : (m655 4 45 3) < z657 := by omega
                clear h659 hz658
                refine X.aload_n 122 i205_121 rfl rfl rfl ?_
                refine X.getF 125 i205_122 rfl rfl (by decide) rfl rfl ?_
                refine X.iconst 126 i205_125 rfl rfl (by decide) ?_
                refine X.lald 127 i205_126 rfl rfl (by decide) rfl (by omega) ?_
                refine X.l2i 128 i205_127 rfl rfl (by omega) ?_
                have hJ668 := w45_3 hJ653 hm655 (by omega)
                refine X.reti i205_128 rfl t205 ?_
                exact hQ (m655 4 45 3) m655 (by first | trivial | omega) (hJ668.up (by omega)) (fun g => by simp only [km646, km652, km655]) 
            · have h669 : (m646 4 45 1) = 2 := by omega
              rw [h669]
              clear h669
              refine X.irem 76 i205_75 rfl rfl (by omega) ?_
              refine X.iload_n 77 i205_76 rfl rfl rfl ?_
              refine X.aload_n 78 i205_77 rfl rfl rfl ?_
              refine X.callv 81 [] [zi (m 4 45 3), zi ((m 4 45 3) % 2), zi 239, zr 4 45] [(0, zr g0 44)] i205_78 rfl (by decide) rfl rfl (by omega) rfl rfl (by decide) rfl t206 (Nat.le_of_ble_eq_true rfl) (Nat.le_of_ble_eq_true rfl) rfl ?_
              refine X.aload_n 1 i206_0 rfl rfl rfl ?_
              refine X.getF 4 i206_1 rfl rfl (by decide) rfl rfl ?_
              refine X.iconst 5 i206_4 rfl rfl (by decide) ?_
              refine X.lald 6 i206_5 rfl rfl (by decide) rfl (by omega) ?_
              refine X.l2i 7 i206_6 rfl rfl (by omega) ?_
              refine X.reti i206_7 rfl t206 ?_
              show X (EE s) d 205 81 [(0, zr g0 44), (1, zi a1), (2, zi a2), (3, zi (m 4 45 3))] [zi (m646 4 45 1), zi (m 4 45 3), zi ((m 4 45 3) % 2), zi 239, zr 4 45] m646 _
              have h670 : (m646 4 45 1) = 2 := by omega
              rw [h670]
              clear h670
              refine X.idiv 82 i205_81 rfl rfl (by omega) ?_
              refine X.calls 85 [zi 239, zi ((m 4 45 3) % 2), zi ((m 4 45 3) / 2)] [zr 4 45] [(0, zi 239), (1, zi ((m 4 45 3) % 2)), (2, zi ((m 4 45 3) / 2))] i205_82 (by decide) rfl rfl (by omega) rfl rfl t207 (Nat.le_of_ble_eq_true rfl) (Nat.le_of_ble_eq_true rfl) rfl ?_
              refine X.iload_n 1 i207_0 rfl rfl rfl ?_
              refine X.bipush 3 i207_1 rfl rfl (by decide) ?_
              refine X.iload_n 4 i207_3 rfl rfl rfl ?_
              refine X.imul 5 i207_4 rfl rfl (by omega) ?_
              refine X.iadd 6 i207_5 rfl rfl (by omega) ?_
              refine X.iload_n 7 i207_6 rfl rfl rfl ?_
              refine X.iadd 8 i207_7 rfl rfl (by omega) ?_
              refine X.reti i207_8 rfl t207 ?_
              show X (EE s) d 205 85 [(0, zr g0 44), (1, zi a1), (2, zi a2), (3, zi (m 4 45 3))] [zi ((239 + (16 * ((m 4 45 3) % 2))) + ((m 4 45 3) / 2)), zr 4 45] m646 _
              refine X.iload_n 86 i205_85 rfl rfl rfl ?_
              refine X.i2l 87 i205_86 rfl rfl ?_
              refine X.last' 88 i205_87 rfl rfl (by decide) rfl (by omega) (fun hrm671 m671 hm671 => ?_)
              have hJ672 := w45_19 hJ647 hm671 (by omega) hrm671
              have km671 : ∀ g, m671 g 8 9 = m646 g 8 9 := fun g9 => by rw [hm671]; exact z_upd_o _ _ rfl
              refine X.aload_n 89 i205_88 rfl rfl rfl ?_
              refine X.getF 92 i205_89 rfl rfl (by decide) rfl rfl ?_
              refine X.iconst 93 i205_92 rfl rfl (by decide) ?_
              refine X.dup2 94 i205_93 rfl rfl ?_
              refine X.lald 95 i205_94 rfl rfl (by decide) rfl (by omega) ?_
              have h673 := r45_3 hJ672 4
              refine X.lconst (y := 1) 96 i205_95 rfl rfl rfl ?_
              refine X.ladd 97 i205_96 rfl rfl (by omega) ?_
              refine X.last' 98 i205_97 rfl rfl (by decide) rfl (by omega) (fun hrm674 m674 hm674 => ?_)
              have em674 : m674 4 45 3 = ((m671 4 45 3) + 1) := by rw [hm674]; exact z_upd_same _ _ _ _ _
              have qm6741 : m674 4 45 1 = m671 4 45 1 := by rw [hm674]; exact z_upd_o _ _ rfl
              have qqm6741 := r45_1 hJ672 4
              have qm6742 : m674 4 45 2 = m671 4 45 2 := by rw [hm674]; exact z_upd_o _ _ rfl
              have qqm6742 := r45_2 hJ672 4
              have km674 : ∀ g, m674 g 8 9 = m671 g 8 9 := fun g9 => by rw [hm674]; exact z_upd_o _ _ rfl
              refine X.aload_n 99 i205_98 rfl rfl rfl ?_
              refine X.getF 102 i205_99 rfl rfl (by decide) rfl rfl ?_
              refine X.iconst 103 i205_102 rfl rfl (by decide) ?_
              refine X.lald 104 i205_103 rfl rfl (by decide) rfl (by omega) ?_
              refine X.aload_n 105 i205_104 rfl rfl rfl ?_
              refine X.getF 108 i205_105 rfl rfl (by decide) rfl rfl ?_
              refine X.iconst 109 i205_108 rfl rfl (by decide) ?_
              refine X.lald 110 i205_109 rfl rfl (by decide) rfl (by omega) ?_
              refine X.aload_n 111 i205_110 rfl rfl rfl ?_
              refine X.getF 114 i205_111 rfl rfl (by decide) rfl rfl ?_
              refine X.iconst 115 i205_114 rfl rfl (by decide) ?_
              refine X.lald 116 i205_115 rfl rfl (by decide) rfl (by omega) ?_
              have hz676 := z_mulr (a := 1) (b := 3) (c := 4) (e := 16) (x := (m674 4 45 1)) (y := (m674 4 45 2)) (by omega) (by omega)
              refine X.lmul 117 i205_116 rfl rfl (z_in3 hz676 (by decide) (by decide)) ?_
              obtain ⟨z676, ez676⟩ : ∃ z, z = ((m674 4 45 1) * (m674 4 45 2)) := ⟨_, rfl⟩
              rw [← ez676] at hz676 ⊢
              have gz676 : 4 ≤ z676 ∧ z676 ≤ 48 := z_in3 hz676 (by decide) (by decide)
              clear hz676
              refine X.lcmp 118 i205_117 rfl rfl (fun z677 hz677 => ?_)
              refine X.ifge 129 121 i205_118 rfl rfl rfl (fun h678 => ?_) (fun h678 => ?_)
              · have h678c : (m674 4 45 3) ≥ z676 := by omega
                clear h678 hz677
                refine X.cut [(0, zr g0 44)] i205_129 rfl ?_
                refine X.aload_n 130 i205_129 rfl rfl rfl ?_
                refine X.getF 133 i205_130 rfl rfl (by decide) rfl rfl ?_
                refine X.iconst 134 i205_133 rfl rfl (by decide) ?_
                refine X.lconst (y := 0) 135 i205_134 rfl rfl rfl ?_
                refine X.last' 136 i205_135 rfl rfl (by decide) rfl (by omega) (fun hrm679 m679 hm679 => ?_)
                have hJ680 := w45_3 (x := 0) hJ672 (show m679 = z_upd m671 4 45 3 0 by rw [hm679, hm674]; exact z_upd_upd _ _ _ _ _ _) (by omega)
                have km679 : ∀ g, m679 g 8 9 = m674 g 8 9 := fun g9 => by rw [hm679]; exact z_upd_o _ _ rfl
                refine X.iconst 137 i205_136 rfl rfl (by decide) ?_
                refine X.istore 139 [(0, zr g0 44), (4, zi 0)] i205_137 rfl rfl rfl ?_
                refine l205_139_1 (s := s) (m0 := m0) (d := d) g0  (fun g => m g 8 9) (BE := B + 0) (by omega) (by omega) (fun  m681 B682 hJ683 hBB682 hkm681 => ?_) ((96 - 0 : Int).toNat + 1) 0 m679 (B) (hJ680.up (by omega)) (by omega) (fun g => by simp only [km646, km671, km674, km679]) (by omega) (by omega)
                refine X.aload_n 174 i205_173 rfl rfl rfl ?_
                refine X.callv 177 [] [] [(0, zr g0 44)] i205_174 rfl (by decide) rfl rfl (by omega) rfl rfl (by decide) rfl t208 (Nat.le_of_ble_eq_true rfl) (Nat.le_of_ble_eq_true rfl) rfl ?_
                refine c208_1 (B := B682) g0  (by omega) (hJ683.up (by omega)) (by omega)  (fun m684 hJ685 km684 => ?_)
                show X (EE s) d 205 177 [(0, zr g0 44)] [] m684 _
                refine X.iconst 178 i205_177 rfl rfl (by decide) ?_
                refine X.reti i205_178 rfl t205 ?_
                exact hQ 0 m684 (by first | trivial | omega) (hJ685.up (by omega)) (fun g => by simp only [hkm681, km684]) 
              · have h678c : (m674 4 45 3) < z676 := by omega
                clear h678 hz677
                refine X.aload_n 122 i205_121 rfl rfl rfl ?_
                refine X.getF 125 i205_122 rfl rfl (by decide) rfl rfl ?_
                refine X.iconst 126 i205_125 rfl rfl (by decide) ?_
                refine X.lald 127 i205_126 rfl rfl (by decide) rfl (by omega) ?_
                refine X.l2i 128 i205_127 rfl rfl (by omega) ?_
                have hJ687 := w45_3 hJ672 hm674 (by omega)
                refine X.reti i205_128 rfl t205 ?_
                exact hQ (m674 4 45 3) m674 (by first | trivial | omega) (hJ687.up (by omega)) (fun g => by simp only [km646, km671, km674]) 
            · have h688 : (m646 4 45 1) = 3 := by omega
              rw [h688]
              clear h688
              refine X.irem 76 i205_75 rfl rfl (by omega) ?_
              refine X.iload_n 77 i205_76 rfl rfl rfl ?_
              refine X.aload_n 78 i205_77 rfl rfl rfl ?_
              refine X.callv 81 [] [zi (m 4 45 3), zi ((m 4 45 3) % 3), zi 239, zr 4 45] [(0, zr g0 44)] i205_78 rfl (by decide) rfl rfl (by omega) rfl rfl (by decide) rfl t206 (Nat.le_of_ble_eq_true rfl) (Nat.le_of_ble_eq_true rfl) rfl ?_
              refine X.aload_n 1 i206_0 rfl rfl rfl ?_
              refine X.getF 4 i206_1 rfl rfl (by decide) rfl rfl ?_
              refine X.iconst 5 i206_4 rfl rfl (by decide) ?_
              refine X.lald 6 i206_5 rfl rfl (by decide) rfl (by omega) ?_
              refine X.l2i 7 i206_6 rfl rfl (by omega) ?_
              refine X.reti i206_7 rfl t206 ?_
              show X (EE s) d 205 81 [(0, zr g0 44), (1, zi a1), (2, zi a2), (3, zi (m 4 45 3))] [zi (m646 4 45 1), zi (m 4 45 3), zi ((m 4 45 3) % 3), zi 239, zr 4 45] m646 _
              have h689 : (m646 4 45 1) = 3 := by omega
              rw [h689]
              clear h689
              refine X.idiv 82 i205_81 rfl rfl (by omega) ?_
              refine X.calls 85 [zi 239, zi ((m 4 45 3) % 3), zi ((m 4 45 3) / 3)] [zr 4 45] [(0, zi 239), (1, zi ((m 4 45 3) % 3)), (2, zi ((m 4 45 3) / 3))] i205_82 (by decide) rfl rfl (by omega) rfl rfl t207 (Nat.le_of_ble_eq_true rfl) (Nat.le_of_ble_eq_true rfl) rfl ?_
              refine X.iload_n 1 i207_0 rfl rfl rfl ?_
              refine X.bipush 3 i207_1 rfl rfl (by decide) ?_
              refine X.iload_n 4 i207_3 rfl rfl rfl ?_
              refine X.imul 5 i207_4 rfl rfl (by omega) ?_
              refine X.iadd 6 i207_5 rfl rfl (by omega) ?_
              refine X.iload_n 7 i207_6 rfl rfl rfl ?_
              refine X.iadd 8 i207_7 rfl rfl (by omega) ?_
              refine X.reti i207_8 rfl t207 ?_
              show X (EE s) d 205 85 [(0, zr g0 44), (1, zi a1), (2, zi a2), (3, zi (m 4 45 3))] [zi ((239 + (16 * ((m 4 45 3) % 3))) + ((m 4 45 3) / 3)), zr 4 45] m646 _
              refine X.iload_n 86 i205_85 rfl rfl rfl ?_
              refine X.i2l 87 i205_86 rfl rfl ?_
              refine X.last' 88 i205_87 rfl rfl (by decide) rfl (by omega) (fun hrm690 m690 hm690 => ?_)
              have hJ691 := w45_19 hJ647 hm690 (by omega) hrm690
              have km690 : ∀ g, m690 g 8 9 = m646 g 8 9 := fun g9 => by rw [hm690]; exact z_upd_o _ _ rfl
              refine X.aload_n 89 i205_88 rfl rfl rfl ?_
              refine X.getF 92 i205_89 rfl rfl (by decide) rfl rfl ?_
              refine X.iconst 93 i205_92 rfl rfl (by decide) ?_
              refine X.dup2 94 i205_93 rfl rfl ?_
              refine X.lald 95 i205_94 rfl rfl (by decide) rfl (by omega) ?_
              have h692 := r45_3 hJ691 4
              refine X.lconst (y := 1) 96 i205_95 rfl rfl rfl ?_
              refine X.ladd 97 i205_96 rfl rfl (by omega) ?_
              refine X.last' 98 i205_97 rfl rfl (by decide) rfl (by omega) (fun hrm693 m693 hm693 => ?_)
              have em693 : m693 4 45 3 = ((m690 4 45 3) + 1) := by rw [hm693]; exact z_upd_same _ _ _ _ _
              have qm6931 : m693 4 45 1 = m690 4 45 1 := by rw [hm693]; exact z_upd_o _ _ rfl
              have qqm6931 := r45_1 hJ691 4
              have qm6932 : m693 4 45 2 = m690 4 45 2 := by rw [hm693]; exact z_upd_o _ _ rfl
              have qqm6932 := r45_2 hJ691 4
              have km693 : ∀ g, m693 g 8 9 = m690 g 8 9 := fun g9 => by rw [hm693]; exact z_upd_o _ _ rfl
              refine X.aload_n 99 i205_98 rfl rfl rfl ?_
              refine X.getF 102 i205_99 rfl rfl (by decide) rfl rfl ?_
              refine X.iconst 103 i205_102 rfl rfl (by decide) ?_
              refine X.lald 104 i205_103 rfl rfl (by decide) rfl (by omega) ?_
              refine X.aload_n 105 i205_104 rfl rfl rfl ?_
              refine X.getF 108 i205_105 rfl rfl (by decide) rfl rfl ?_
              refine X.iconst 109 i205_108 rfl rfl (by decide) ?_
              refine X.lald 110 i205_109 rfl rfl (by decide) rfl (by omega) ?_
              refine X.aload_n 111 i205_110 rfl rfl rfl ?_
              refine X.getF 114 i205_111 rfl rfl (by decide) rfl rfl ?_
              refine X.iconst 115 i205_114 rfl rfl (by decide) ?_
              refine X.lald 116 i205_115 rfl rfl (by decide) rfl (by omega) ?_
              have hz695 := z_mulr (a := 1) (b := 3) (c := 4) (e := 16) (x := (m693 4 45 1)) (y := (m693 4 45 2)) (by omega) (by omega)
              refine X.lmul 117 i205_116 rfl rfl (z_in3 hz695 (by decide) (by decide)) ?_
              obtain ⟨z695, ez695⟩ : ∃ z, z = ((m693 4 45 1) * (m693 4 45 2)) := ⟨_, rfl⟩
              rw [← ez695] at hz695 ⊢
              have gz695 : 4 ≤ z695 ∧ z695 ≤ 48 := z_in3 hz695 (by decide) (by decide)
              clear hz695
              refine X.lcmp 118 i205_117 rfl rfl (fun z696 hz696 => ?_)
              refine X.ifge 129 121 i205_118 rfl rfl rfl (fun h697 => ?_) (fun h697 => ?_)
              · have h697c : (m693 4 45 3) ≥ z695 := by omega
                clear h697 hz696
                refine X.cut [(0, zr g0 44)] i205_129 rfl ?_
                refine X.aload_n 130 i205_129 rfl rfl rfl ?_
                refine X.getF 133 i205_130 rfl rfl (by decide) rfl rfl ?_
                refine X.iconst 134 i205_133 rfl rfl (by decide) ?_
                refine X.lconst (y := 0) 135 i205_134 rfl rfl rfl ?_
                refine X.last' 136 i205_135 rfl rfl (by decide) rfl (by omega) (fun hrm698 m698 hm698 => ?_)
                have hJ699 := w45_3 (x := 0) hJ691 (show m698 = z_upd m690 4 45 3 0 by rw [hm698, hm693]; exact z_upd_upd _ _ _ _ _ _) (by omega)
                have km698 : ∀ g, m698 g 8 9 = m693 g 8 9 := fun g9 => by rw [hm698]; exact z_upd_o _ _ rfl
                refine X.iconst 137 i205_136 rfl rfl (by decide) ?_
                refine X.istore 139 [(0, zr g0 44), (4, zi 0)] i205_137 rfl rfl rfl ?_
                refine l205_139_1 (s := s) (m0 := m0) (d := d) g0  (fun g => m g 8 9) (BE := B + 0) (by omega) (by omega) (fun  m700 B701 hJ702 hBB701 hkm700 => ?_) ((96 - 0 : Int).toNat + 1) 0 m698 (B) (hJ699.up (by omega)) (by omega) (fun g => by simp only [km646, km690, km693, km698]) (by omega) (by omega)
                refine X.aload_n 174 i205_173 rfl rfl rfl ?_
                refine X.callv 177 [] [] [(0, zr g0 44)] i205_174 rfl (by decide) rfl rfl (by omega) rfl rfl (by decide) rfl t208 (Nat.le_of_ble_eq_true rfl) (Nat.le_of_ble_eq_true rfl) rfl ?_
                refine c208_1 (B := B701) g0  (by omega) (hJ702.up (by omega)) (by omega)  (fun m703 hJ704 km703 => ?_)
                show X (EE s) d 205 177 [(0, zr g0 44)] [] m703 _
                refine X.iconst 178 i205_177 rfl rfl (by decide) ?_
                refine X.reti i205_178 rfl t205 ?_
                exact hQ 0 m703 (by first | trivial | omega) (hJ704.up (by omega)) (fun g => by simp only [hkm700, km703]) 
              · have h697c : (m693 4 45 3) < z695 := by omega
                clear h697 hz696
                refine X.aload_n 122 i205_121 rfl rfl rfl ?_
                refine X.getF 125 i205_122 rfl rfl (by decide) rfl rfl ?_
                refine X.iconst 126 i205_125 rfl rfl (by decide) ?_
                refine X.lald 127 i205_126 rfl rfl (by decide) rfl (by omega) ?_
                refine X.l2i 128 i205_127 rfl rfl (by omega) ?_
                have hJ706 := w45_3 hJ691 hm693 (by omega)
                refine X.reti i205_128 rfl t205 ?_
                exact hQ (m693 4 45 3) m693 (by first | trivial | omega) (hJ706.up (by omega)) (fun g => by simp only [km646, km690, km693]) 
