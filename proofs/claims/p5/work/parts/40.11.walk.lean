-- WorkMeterModel.spells
theorem c266_1 {s : Nat × (Nat → Int32)} {S : zS} {m0 m : zM} {B : Int} {d : Nat} {Q : Option zV → zM → Prop} (a1 a2 a3 a4 a5 a6 a7 a8 : Int) (hd : 14 ≤ d) (hJ : J S m0 B m) (hB : B + 0 ≤ 1000000000) (ha1 : 5 ≤ a1 ∧ a1 ≤ 7) (ha2 : 116 ≤ a2 ∧ a2 ≤ 116) (ha3 : 97 ≤ a3 ∧ a3 ≤ 97) (ha4 : 98 ≤ a4 ∧ a4 ≤ 98) (ha5 : 108 ≤ a5 ∧ a5 ≤ 108) (ha6 : 101 ≤ a6 ∧ a6 ≤ 101) (ha7 : 0 ≤ a7 ∧ a7 ≤ 0) (ha8 : 0 ≤ a8 ∧ a8 ≤ 0) (hQ : ∀ (v : Int), (0 ≤ v ∧ v ≤ 1) → f266_1 a1 a2 a3 a4 a5 a6 a7 a8 m = v → Q (some (zi v)) m) : X (EE s) d 266 0 [(0, zr 4 44), (1, zi a1), (2, zi a2), (3, zi a3), (4, zi a4), (5, zi a5), (6, zi a6), (7, zi a7), (8, zi a8)] [] m Q := by
  refine X.aload_n 1 i266_0 rfl rfl rfl ?_
  refine X.callv 4 [] [] [(0, zr 4 44)] i266_1 rfl (by decide) rfl rfl (by omega) rfl rfl (by decide) rfl t267 (Nat.le_of_ble_eq_true rfl) (Nat.le_of_ble_eq_true rfl) rfl ?_
  refine c267_1 (B := B)   (by omega) (hJ.up (by omega)) (by omega)  (fun v503 hv503 hFv503 hqv503_0 => ?_)
  show X (EE s) d 266 4 [(0, zr 4 44), (1, zi a1), (2, zi a2), (3, zi a3), (4, zi a4), (5, zi a5), (6, zi a6), (7, zi a7), (8, zi a8)] [zi v503] m _
  refine X.aload_n 5 i266_4 rfl rfl rfl ?_
  refine X.getI 8 8 i266_5 rfl rfl (by decide) rfl rfl rfl ?_
  have h504 := r44_8 hJ 4
  refine X.iload_n 9 i266_8 rfl rfl rfl ?_
  refine X.iadd 10 i266_9 rfl rfl (by omega) ?_
  refine X.icmpne 89 13 i266_10 rfl rfl rfl (fun h505 => ?_) (fun h505 => ?_)
  · refine X.cut [] i266_89 rfl ?_
    refine X.iconst 90 i266_89 rfl rfl (by decide) ?_
    refine X.retz i266_90 rfl t266 (by omega) ?_
    exact hQ 0 (by first | trivial | omega) (Eq.trans (zn_eq hFv503.symm) (Eq.trans (if_neg h505) rfl)) 
  · refine X.aload_n 14 i266_13 rfl rfl rfl ?_
    refine X.getF 17 i266_14 rfl rfl (by decide) rfl rfl ?_
    refine X.aload_n 18 i266_17 rfl rfl rfl ?_
    refine X.getI 21 8 i266_18 rfl rfl (by decide) rfl rfl rfl ?_
    refine X.bald 22 i266_21 rfl rfl (by decide) rfl (by omega) (fun h506 => ?_)
    refine X.iload_n 23 i266_22 rfl rfl rfl ?_
    refine X.icmpne 89 26 i266_23 rfl rfl rfl (fun h507 => ?_) (fun h507 => ?_)
    · refine X.cut [] i266_89 rfl ?_
      refine X.iconst 90 i266_89 rfl rfl (by decide) ?_
      refine X.retz i266_90 rfl t266 (by omega) ?_
      exact hQ 0 (by first | trivial | omega) (Eq.trans (zn_eq hFv503.symm) (Eq.trans (if_pos h505) (Eq.trans (if_neg h507) rfl))) 
    · refine X.aload_n 27 i266_26 rfl rfl rfl ?_
      refine X.getF 30 i266_27 rfl rfl (by decide) rfl rfl ?_
      refine X.aload_n 31 i266_30 rfl rfl rfl ?_
      refine X.getI 34 8 i266_31 rfl rfl (by decide) rfl rfl rfl ?_
      refine X.iconst 35 i266_34 rfl rfl (by decide) ?_
      refine X.iadd 36 i266_35 rfl rfl (by omega) ?_
      refine X.bald 37 i266_36 rfl rfl (by decide) rfl (by omega) (fun h508 => ?_)
      refine X.iload_n 38 i266_37 rfl rfl rfl ?_
      refine X.icmpne 89 41 i266_38 rfl rfl rfl (fun h509 => ?_) (fun h509 => ?_)
      · refine X.cut [] i266_89 rfl ?_
        refine X.iconst 90 i266_89 rfl rfl (by decide) ?_
        refine X.retz i266_90 rfl t266 (by omega) ?_
        exact hQ 0 (by first | trivial | omega) (Eq.trans (zn_eq hFv503.symm) (Eq.trans (if_pos h505) (Eq.trans (if_pos h507) (Eq.trans (if_neg h509) rfl)))) 
      · refine X.aload_n 42 i266_41 rfl rfl rfl ?_
        refine X.getF 45 i266_42 rfl rfl (by decide) rfl rfl ?_
        refine X.aload_n 46 i266_45 rfl rfl rfl ?_
        refine X.getI 49 8 i266_46 rfl rfl (by decide) rfl rfl rfl ?_
        refine X.iconst 50 i266_49 rfl rfl (by decide) ?_
        refine X.iadd 51 i266_50 rfl rfl (by omega) ?_
        refine X.bald 52 i266_51 rfl rfl (by decide) rfl (by omega) (fun h510 => ?_)
        refine X.iload 54 i266_52 rfl rfl rfl ?_
        refine X.icmpne 89 57 i266_54 rfl rfl rfl (fun h511 => ?_) (fun h511 => ?_)
        · refine X.cut [] i266_89 rfl ?_
          refine X.iconst 90 i266_89 rfl rfl (by decide) ?_
          refine X.retz i266_90 rfl t266 (by omega) ?_
          exact hQ 0 (by first | trivial | omega) (Eq.trans (zn_eq hFv503.symm) (Eq.trans (if_pos h505) (Eq.trans (if_pos h507) (Eq.trans (if_pos h509) (Eq.trans (if_neg h511) rfl))))) 
        · refine X.aload_n 58 i266_57 rfl rfl rfl ?_
          refine X.getF 61 i266_58 rfl rfl (by decide) rfl rfl ?_
          refine X.aload_n 62 i266_61 rfl rfl rfl ?_
          refine X.getI 65 8 i266_62 rfl rfl (by decide) rfl rfl rfl ?_
          refine X.iconst 66 i266_65 rfl rfl (by decide) ?_
          refine X.iadd 67 i266_66 rfl rfl (by omega) ?_
          refine X.bald 68 i266_67 rfl rfl (by decide) rfl (by omega) (fun h512 => ?_)
          refine X.iload 70 i266_68 rfl rfl rfl ?_
          refine X.icmpne 89 73 i266_70 rfl rfl rfl (fun h513 => ?_) (fun h513 => ?_)
          · refine X.cut [] i266_89 rfl ?_
            refine X.iconst 90 i266_89 rfl rfl (by decide) ?_
            refine X.retz i266_90 rfl t266 (by omega) ?_
            exact hQ 0 (by first | trivial | omega) (Eq.trans (zn_eq hFv503.symm) (Eq.trans (if_pos h505) (Eq.trans (if_pos h507) (Eq.trans (if_pos h509) (Eq.trans (if_pos h511) (Eq.trans (if_neg h513) rfl)))))) 
          · refine X.aload_n 74 i266_73 rfl rfl rfl ?_
            refine X.getF 77 i266_74 rfl rfl (by decide) rfl rfl ?_
            refine X.aload_n 78 i266_77 rfl rfl rfl ?_
            refine X.getI 81 8 i266_78 rfl rfl (by decide) rfl rfl rfl ?_
            refine X.iconst 82 i266_81 rfl rfl (by decide) ?_
            refine X.iadd 83 i266_82 rfl rfl (by omega) ?_
            refine X.bald 84 i266_83 rfl rfl (by decide) rfl (by omega) (fun h514 => ?_)
            refine X.iload 86 i266_84 rfl rfl rfl ?_
            refine X.icmpeq 91 89 i266_86 rfl rfl rfl (fun h515 => ?_) (fun h515 => ?_)
            · refine X.cut [(0, zr 4 44), (1, zi a1), (7, zi a7), (8, zi a8)] i266_91 rfl ?_
              refine X.iload_n 92 i266_91 rfl rfl rfl ?_
              refine X.bipush 94 i266_92 rfl rfl (by decide) ?_
              have hK526 : ∀ (v : Int) , (0 ≤ v ∧ v ≤ 1) → (if a1 < 6 then
                  (1)
                  else
                  (if (m 4 48 ((m 4 44 8) + 5)) = a7 then
                  (if a1 < 7 then
                  (1)
                  else
                  (if (m 4 48 ((m 4 44 8) + 6)) = a8 then
                  (1)
                  else
                  (0)))
                  else
                  (0))) = v → X (EE s) d 266 141 [] [zi v] m Q := by
                intro v523 hv523 hT527
                refine X.retz i266_141 rfl t266 (by omega) ?_
                exact hQ v523 (by first | trivial | omega) (Eq.trans (zn_eq hFv503.symm) (Eq.trans (if_pos h505) (Eq.trans (if_pos h507) (Eq.trans (if_pos h509) (Eq.trans (if_pos h511) (Eq.trans (if_pos h513) (Eq.trans (if_pos h515) (Eq.trans (zn_eq hT527.symm) rfl)))))))) 
              refine X.icmplt 113 97 i266_94 rfl rfl rfl (fun h516 => ?_) (fun h516 => ?_)
              · refine X.cut [(0, zr 4 44), (1, zi a1), (8, zi a8)] i266_113 rfl ?_
                refine X.iload_n 114 i266_113 rfl rfl rfl ?_
                refine X.bipush 116 i266_114 rfl rfl (by decide) ?_
                refine X.icmplt 136 119 i266_116 rfl rfl rfl (fun h517 => ?_) (fun h517 => (by exfalso; omega))
                refine X.cut [] i266_136 rfl ?_
                refine X.iconst 137 i266_136 rfl rfl (by decide) ?_
                refine X.goto 141 i266_137 rfl rfl ?_
                exact hK526 1 (by first | trivial | omega) (Eq.trans (if_pos h516) rfl)
              · refine X.aload_n 98 i266_97 rfl rfl rfl ?_
                refine X.getF 101 i266_98 rfl rfl (by decide) rfl rfl ?_
                refine X.aload_n 102 i266_101 rfl rfl rfl ?_
                refine X.getI 105 8 i266_102 rfl rfl (by decide) rfl rfl rfl ?_
                refine X.iconst 106 i266_105 rfl rfl (by decide) ?_
                refine X.iadd 107 i266_106 rfl rfl (by omega) ?_
                refine X.bald 108 i266_107 rfl rfl (by decide) rfl (by omega) (fun h518 => ?_)
                refine X.iload 110 i266_108 rfl rfl rfl ?_
                refine X.icmpne 140 113 i266_110 rfl rfl rfl (fun h519 => ?_) (fun h519 => ?_)
                · refine X.cut [] i266_140 rfl ?_
                  refine X.iconst 141 i266_140 rfl rfl (by decide) ?_
                  exact hK526 0 (by first | trivial | omega) (Eq.trans (if_neg h516) (Eq.trans (if_neg h519) rfl))
                · refine X.cut [(0, zr 4 44), (1, zi a1), (8, zi a8)] i266_113 rfl ?_
                  refine X.iload_n 114 i266_113 rfl rfl rfl ?_
                  refine X.bipush 116 i266_114 rfl rfl (by decide) ?_
                  refine X.icmplt 136 119 i266_116 rfl rfl rfl (fun h520 => ?_) (fun h520 => ?_)
                  · refine X.cut [] i266_136 rfl ?_
                    refine X.iconst 137 i266_136 rfl rfl (by decide) ?_
                    refine X.goto 141 i266_137 rfl rfl ?_
                    exact hK526 1 (by first | trivial | omega) (Eq.trans (if_neg h516) (Eq.trans (if_pos h519) (Eq.trans (if_pos h520) rfl)))
                  · refine X.aload_n 120 i266_119 rfl rfl rfl ?_
                    refine X.getF 123 i266_120 rfl rfl (by decide) rfl rfl ?_
                    refine X.aload_n 124 i266_123 rfl rfl rfl ?_
                    refine X.getI 127 8 i266_124 rfl rfl (by decide) rfl rfl rfl ?_
                    refine X.bipush 129 i266_127 rfl rfl (by decide) ?_
                    refine X.iadd 130 i266_129 rfl rfl (by omega) ?_
                    refine X.bald 131 i266_130 rfl rfl (by decide) rfl (by omega) (fun h521 => ?_)
                    refine X.iload 133 i266_131 rfl rfl rfl ?_
                    refine X.icmpne 140 136 i266_133 rfl rfl rfl (fun h522 => ?_) (fun h522 => ?_)
                    · refine X.cut [] i266_140 rfl ?_
                      refine X.iconst 141 i266_140 rfl rfl (by decide) ?_
                      exact hK526 0 (by first | trivial | omega) (Eq.trans (if_neg h516) (Eq.trans (if_pos h519) (Eq.trans (if_neg h520) (Eq.trans (if_neg h522) rfl))))
                    · refine X.cut [] i266_136 rfl ?_
                      refine X.iconst 137 i266_136 rfl rfl (by decide) ?_
                      refine X.goto 141 i266_137 rfl rfl ?_
                      exact hK526 1 (by first | trivial | omega) (Eq.trans (if_neg h516) (Eq.trans (if_pos h519) (Eq.trans (if_neg h520) (Eq.trans (if_pos h522) rfl))))
            · refine X.cut [] i266_89 rfl ?_
              refine X.iconst 90 i266_89 rfl rfl (by decide) ?_
              refine X.retz i266_90 rfl t266 (by omega) ?_
              exact hQ 0 (by first | trivial | omega) (Eq.trans (zn_eq hFv503.symm) (Eq.trans (if_pos h505) (Eq.trans (if_pos h507) (Eq.trans (if_pos h509) (Eq.trans (if_pos h511) (Eq.trans (if_pos h513) (Eq.trans (if_neg h515) rfl))))))) 
-- WorkMeterModel.spells
theorem c266_2 {s : Nat × (Nat → Int32)} {S : zS} {m0 m : zM} {B : Int} {d : Nat} {Q : Option zV → zM → Prop} (a1 a2 a3 a4 a5 a6 a7 a8 : Int) (hd : 14 ≤ d) (hJ : J S m0 B m) (hB : B + 0 ≤ 1000000000) (ha1 : 5 ≤ a1 ∧ a1 ≤ 7) (ha2 : 115 ≤ a2 ∧ a2 ≤ 115) (ha3 : 101 ≤ a3 ∧ a3 ≤ 101) (ha4 : 97 ≤ a4 ∧ a4 ≤ 97) (ha5 : 115 ≤ a5 ∧ a5 ≤ 115) (ha6 : 111 ≤ a6 ∧ a6 ≤ 111) (ha7 : 110 ≤ a7 ∧ a7 ≤ 110) (ha8 : 0 ≤ a8 ∧ a8 ≤ 0) (hQ : ∀ (v : Int), (0 ≤ v ∧ v ≤ 1) → f266_1 a1 a2 a3 a4 a5 a6 a7 a8 m = v → Q (some (zi v)) m) : X (EE s) d 266 0 [(0, zr 4 44), (1, zi a1), (2, zi a2), (3, zi a3), (4, zi a4), (5, zi a5), (6, zi a6), (7, zi a7), (8, zi a8)] [] m Q := by
  refine X.aload_n 1 i266_0 rfl rfl rfl ?_
  refine X.callv 4 [] [] [(0, zr 4 44)] i266_1 rfl (by decide) rfl rfl (by omega) rfl rfl (by decide) rfl t267 (Nat.le_of_ble_eq_true rfl) (Nat.le_of_ble_eq_true rfl) rfl ?_
  refine c267_1 (B := B)   (by omega) (hJ.up (by omega)) (by omega)  (fun v503 hv503 hFv503 hqv503_0 => ?_)
  show X (EE s) d 266 4 [(0, zr 4 44), (1, zi a1), (2, zi a2), (3, zi a3), (4, zi a4), (5, zi a5), (6, zi a6), (7, zi a7), (8, zi a8)] [zi v503] m _
  refine X.aload_n 5 i266_4 rfl rfl rfl ?_
  refine X.getI 8 8 i266_5 rfl rfl (by decide) rfl rfl rfl ?_
  have h504 := r44_8 hJ 4
  refine X.iload_n 9 i266_8 rfl rfl rfl ?_
  refine X.iadd 10 i266_9 rfl rfl (by omega) ?_
  refine X.icmpne 89 13 i266_10 rfl rfl rfl (fun h505 => ?_) (fun h505 => ?_)
  · refine X.cut [] i266_89 rfl ?_
    refine X.iconst 90 i266_89 rfl rfl (by decide) ?_
    refine X.retz i266_90 rfl t266 (by omega) ?_
    exact hQ 0 (by first | trivial | omega) (Eq.trans (zn_eq hFv503.symm) (Eq.trans (if_neg h505) rfl)) 
  · refine X.aload_n 14 i266_13 rfl rfl rfl ?_
    refine X.getF 17 i266_14 rfl rfl (by decide) rfl rfl ?_
    refine X.aload_n 18 i266_17 rfl rfl rfl ?_
    refine X.getI 21 8 i266_18 rfl rfl (by decide) rfl rfl rfl ?_
    refine X.bald 22 i266_21 rfl rfl (by decide) rfl (by omega) (fun h506 => ?_)
    refine X.iload_n 23 i266_22 rfl rfl rfl ?_
    refine X.icmpne 89 26 i266_23 rfl rfl rfl (fun h507 => ?_) (fun h507 => ?_)
    · refine X.cut [] i266_89 rfl ?_
      refine X.iconst 90 i266_89 rfl rfl (by decide) ?_
      refine X.retz i266_90 rfl t266 (by omega) ?_
      exact hQ 0 (by first | trivial | omega) (Eq.trans (zn_eq hFv503.symm) (Eq.trans (if_pos h505) (Eq.trans (if_neg h507) rfl))) 
    · refine X.aload_n 27 i266_26 rfl rfl rfl ?_
      refine X.getF 30 i266_27 rfl rfl (by decide) rfl rfl ?_
      refine X.aload_n 31 i266_30 rfl rfl rfl ?_
      refine X.getI 34 8 i266_31 rfl rfl (by decide) rfl rfl rfl ?_
      refine X.iconst 35 i266_34 rfl rfl (by decide) ?_
      refine X.iadd 36 i266_35 rfl rfl (by omega) ?_
      refine X.bald 37 i266_36 rfl rfl (by decide) rfl (by omega) (fun h508 => ?_)
      refine X.iload_n 38 i266_37 rfl rfl rfl ?_
      refine X.icmpne 89 41 i266_38 rfl rfl rfl (fun h509 => ?_) (fun h509 => ?_)
      · refine X.cut [] i266_89 rfl ?_
        refine X.iconst 90 i266_89 rfl rfl (by decide) ?_
        refine X.retz i266_90 rfl t266 (by omega) ?_
        exact hQ 0 (by first | trivial | omega) (Eq.trans (zn_eq hFv503.symm) (Eq.trans (if_pos h505) (Eq.trans (if_pos h507) (Eq.trans (if_neg h509) rfl)))) 
      · refine X.aload_n 42 i266_41 rfl rfl rfl ?_
        refine X.getF 45 i266_42 rfl rfl (by decide) rfl rfl ?_
        refine X.aload_n 46 i266_45 rfl rfl rfl ?_
        refine X.getI 49 8 i266_46 rfl rfl (by decide) rfl rfl rfl ?_
        refine X.iconst 50 i266_49 rfl rfl (by decide) ?_
        refine X.iadd 51 i266_50 rfl rfl (by omega) ?_
        refine X.bald 52 i266_51 rfl rfl (by decide) rfl (by omega) (fun h510 => ?_)
        refine X.iload 54 i266_52 rfl rfl rfl ?_
        refine X.icmpne 89 57 i266_54 rfl rfl rfl (fun h511 => ?_) (fun h511 => ?_)
        · refine X.cut [] i266_89 rfl ?_
          refine X.iconst 90 i266_89 rfl rfl (by decide) ?_
          refine X.retz i266_90 rfl t266 (by omega) ?_
          exact hQ 0 (by first | trivial | omega) (Eq.trans (zn_eq hFv503.symm) (Eq.trans (if_pos h505) (Eq.trans (if_pos h507) (Eq.trans (if_pos h509) (Eq.trans (if_neg h511) rfl))))) 
        · refine X.aload_n 58 i266_57 rfl rfl rfl ?_
          refine X.getF 61 i266_58 rfl rfl (by decide) rfl rfl ?_
          refine X.aload_n 62 i266_61 rfl rfl rfl ?_
          refine X.getI 65 8 i266_62 rfl rfl (by decide) rfl rfl rfl ?_
          refine X.iconst 66 i266_65 rfl rfl (by decide) ?_
          refine X.iadd 67 i266_66 rfl rfl (by omega) ?_
          refine X.bald 68 i266_67 rfl rfl (by decide) rfl (by omega) (fun h512 => ?_)
          refine X.iload 70 i266_68 rfl rfl rfl ?_
          refine X.icmpne 89 73 i266_70 rfl rfl rfl (fun h513 => ?_) (fun h513 => ?_)
          · refine X.cut [] i266_89 rfl ?_
            refine X.iconst 90 i266_89 rfl rfl (by decide) ?_
            refine X.retz i266_90 rfl t266 (by omega) ?_
            exact hQ 0 (by first | trivial | omega) (Eq.trans (zn_eq hFv503.symm) (Eq.trans (if_pos h505) (Eq.trans (if_pos h507) (Eq.trans (if_pos h509) (Eq.trans (if_pos h511) (Eq.trans (if_neg h513) rfl)))))) 
          · refine X.aload_n 74 i266_73 rfl rfl rfl ?_
            refine X.getF 77 i266_74 rfl rfl (by decide) rfl rfl ?_
            refine X.aload_n 78 i266_77 rfl rfl rfl ?_
            refine X.getI 81 8 i266_78 rfl rfl (by decide) rfl rfl rfl ?_
            refine X.iconst 82 i266_81 rfl rfl (by decide) ?_
            refine X.iadd 83 i266_82 rfl rfl (by omega) ?_
            refine X.bald 84 i266_83 rfl rfl (by decide) rfl (by omega) (fun h514 => ?_)
            refine X.iload 86 i266_84 rfl rfl rfl ?_
            refine X.icmpeq 91 89 i266_86 rfl rfl rfl (fun h515 => ?_) (fun h515 => ?_)
            · refine X.cut [(0, zr 4 44), (1, zi a1), (7, zi a7), (8, zi a8)] i266_91 rfl ?_
              refine X.iload_n 92 i266_91 rfl rfl rfl ?_
              refine X.bipush 94 i266_92 rfl rfl (by decide) ?_
              have hK526 : ∀ (v : Int) , (0 ≤ v ∧ v ≤ 1) → (if a1 < 6 then
                  (1)
                  else
                  (if (m 4 48 ((m 4 44 8) + 5)) = a7 then
                  (if a1 < 7 then
                  (1)
                  else
                  (if (m 4 48 ((m 4 44 8) + 6)) = a8 then
                  (1)
                  else
                  (0)))
                  else
                  (0))) = v → X (EE s) d 266 141 [] [zi v] m Q := by
                intro v523 hv523 hT527
                refine X.retz i266_141 rfl t266 (by omega) ?_
                exact hQ v523 (by first | trivial | omega) (Eq.trans (zn_eq hFv503.symm) (Eq.trans (if_pos h505) (Eq.trans (if_pos h507) (Eq.trans (if_pos h509) (Eq.trans (if_pos h511) (Eq.trans (if_pos h513) (Eq.trans (if_pos h515) (Eq.trans (zn_eq hT527.symm) rfl)))))))) 
              refine X.icmplt 113 97 i266_94 rfl rfl rfl (fun h516 => ?_) (fun h516 => ?_)
              · refine X.cut [(0, zr 4 44), (1, zi a1), (8, zi a8)] i266_113 rfl ?_
                refine X.iload_n 114 i266_113 rfl rfl rfl ?_
                refine X.bipush 116 i266_114 rfl rfl (by decide) ?_
                refine X.icmplt 136 119 i266_116 rfl rfl rfl (fun h517 => ?_) (fun h517 => (by exfalso; omega))
                refine X.cut [] i266_136 rfl ?_
                refine X.iconst 137 i266_136 rfl rfl (by decide) ?_
                refine X.goto 141 i266_137 rfl rfl ?_
                exact hK526 1 (by first | trivial | omega) (Eq.trans (if_pos h516) rfl)
              · refine X.aload_n 98 i266_97 rfl rfl rfl ?_
                refine X.getF 101 i266_98 rfl rfl (by decide) rfl rfl ?_
                refine X.aload_n 102 i266_101 rfl rfl rfl ?_
                refine X.getI 105 8 i266_102 rfl rfl (by decide) rfl rfl rfl ?_
                refine X.iconst 106 i266_105 rfl rfl (by decide) ?_
                refine X.iadd 107 i266_106 rfl rfl (by omega) ?_
                refine X.bald 108 i266_107 rfl rfl (by decide) rfl (by omega) (fun h518 => ?_)
                refine X.iload 110 i266_108 rfl rfl rfl ?_
                refine X.icmpne 140 113 i266_110 rfl rfl rfl (fun h519 => ?_) (fun h519 => ?_)
                · refine X.cut [] i266_140 rfl ?_
                  refine X.iconst 141 i266_140 rfl rfl (by decide) ?_
                  exact hK526 0 (by first | trivial | omega) (Eq.trans (if_neg h516) (Eq.trans (if_neg h519) rfl))
                · refine X.cut [(0, zr 4 44), (1, zi a1), (8, zi a8)] i266_113 rfl ?_
                  refine X.iload_n 114 i266_113 rfl rfl rfl ?_
                  refine X.bipush 116 i266_114 rfl rfl (by decide) ?_
                  refine X.icmplt 136 119 i266_116 rfl rfl rfl (fun h520 => ?_) (fun h520 => ?_)
                  · refine X.cut [] i266_136 rfl ?_
                    refine X.iconst 137 i266_136 rfl rfl (by decide) ?_
                    refine X.goto 141 i266_137 rfl rfl ?_
                    exact hK526 1 (by first | trivial | omega) (Eq.trans (if_neg h516) (Eq.trans (if_pos h519) (Eq.trans (if_pos h520) rfl)))
                  · refine X.aload_n 120 i266_119 rfl rfl rfl ?_
                    refine X.getF 123 i266_120 rfl rfl (by decide) rfl rfl ?_
                    refine X.aload_n 124 i266_123 rfl rfl rfl ?_
                    refine X.getI 127 8 i266_124 rfl rfl (by decide) rfl rfl rfl ?_
                    refine X.bipush 129 i266_127 rfl rfl (by decide) ?_
                    refine X.iadd 130 i266_129 rfl rfl (by omega) ?_
                    refine X.bald 131 i266_130 rfl rfl (by decide) rfl (by omega) (fun h521 => ?_)
                    refine X.iload 133 i266_131 rfl rfl rfl ?_
                    refine X.icmpne 140 136 i266_133 rfl rfl rfl (fun h522 => ?_) (fun h522 => ?_)
                    · refine X.cut [] i266_140 rfl ?_
                      refine X.iconst 141 i266_140 rfl rfl (by decide) ?_
                      exact hK526 0 (by first | trivial | omega) (Eq.trans (if_neg h516) (Eq.trans (if_pos h519) (Eq.trans (if_neg h520) (Eq.trans (if_neg h522) rfl))))
                    · refine X.cut [] i266_136 rfl ?_
                      refine X.iconst 137 i266_136 rfl rfl (by decide) ?_
                      refine X.goto 141 i266_137 rfl rfl ?_
                      exact hK526 1 (by first | trivial | omega) (Eq.trans (if_neg h516) (Eq.trans (if_pos h519) (Eq.trans (if_neg h520) (Eq.trans (if_pos h522) rfl))))
            · refine X.cut [] i266_89 rfl ?_
              refine X.iconst 90 i266_89 rfl rfl (by decide) ?_
              refine X.retz i266_90 rfl t266 (by omega) ?_
              exact hQ 0 (by first | trivial | omega) (Eq.trans (zn_eq hFv503.symm) (Eq.trans (if_pos h505) (Eq.trans (if_pos h507) (Eq.trans (if_pos h509) (Eq.trans (if_pos h511) (Eq.trans (if_pos h513) (Eq.trans (if_neg h515) rfl))))))) 
-- WorkMeterModel.spells
theorem c266_3 {s : Nat × (Nat → Int32)} {S : zS} {m0 m : zM} {B : Int} {d : Nat} {Q : Option zV → zM → Prop} (a1 a2 a3 a4 a5 a6 a7 a8 : Int) (hd : 14 ≤ d) (hJ : J S m0 B m) (hB : B + 0 ≤ 1000000000) (ha1 : 5 ≤ a1 ∧ a1 ≤ 7) (ha2 : 115 ≤ a2 ∧ a2 ≤ 115) (ha3 : 112 ≤ a3 ∧ a3 ≤ 112) (ha4 : 101 ≤ a4 ∧ a4 ≤ 101) (ha5 : 99 ≤ a5 ∧ a5 ≤ 99) (ha6 : 105 ≤ a6 ∧ a6 ≤ 105) (ha7 : 97 ≤ a7 ∧ a7 ≤ 97) (ha8 : 108 ≤ a8 ∧ a8 ≤ 108) (hQ : ∀ (v : Int), (0 ≤ v ∧ v ≤ 1) → f266_1 a1 a2 a3 a4 a5 a6 a7 a8 m = v → Q (some (zi v)) m) : X (EE s) d 266 0 [(0, zr 4 44), (1, zi a1), (2, zi a2), (3, zi a3), (4, zi a4), (5, zi a5), (6, zi a6), (7, zi a7), (8, zi a8)] [] m Q := by
  refine X.aload_n 1 i266_0 rfl rfl rfl ?_
  refine X.callv 4 [] [] [(0, zr 4 44)] i266_1 rfl (by decide) rfl rfl (by omega) rfl rfl (by decide) rfl t267 (Nat.le_of_ble_eq_true rfl) (Nat.le_of_ble_eq_true rfl) rfl ?_
  refine c267_1 (B := B)   (by omega) (hJ.up (by omega)) (by omega)  (fun v503 hv503 hFv503 hqv503_0 => ?_)
  show X (EE s) d 266 4 [(0, zr 4 44), (1, zi a1), (2, zi a2), (3, zi a3), (4, zi a4), (5, zi a5), (6, zi a6), (7, zi a7), (8, zi a8)] [zi v503] m _
  refine X.aload_n 5 i266_4 rfl rfl rfl ?_
  refine X.getI 8 8 i266_5 rfl rfl (by decide) rfl rfl rfl ?_
  have h504 := r44_8 hJ 4
  refine X.iload_n 9 i266_8 rfl rfl rfl ?_
  refine X.iadd 10 i266_9 rfl rfl (by omega) ?_
  refine X.icmpne 89 13 i266_10 rfl rfl rfl (fun h505 => ?_) (fun h505 => ?_)
  · refine X.cut [] i266_89 rfl ?_
    refine X.iconst 90 i266_89 rfl rfl (by decide) ?_
    refine X.retz i266_90 rfl t266 (by omega) ?_
    exact hQ 0 (by first | trivial | omega) (Eq.trans (zn_eq hFv503.symm) (Eq.trans (if_neg h505) rfl)) 
  · refine X.aload_n 14 i266_13 rfl rfl rfl ?_
    refine X.getF 17 i266_14 rfl rfl (by decide) rfl rfl ?_
    refine X.aload_n 18 i266_17 rfl rfl rfl ?_
    refine X.getI 21 8 i266_18 rfl rfl (by decide) rfl rfl rfl ?_
    refine X.bald 22 i266_21 rfl rfl (by decide) rfl (by omega) (fun h506 => ?_)
    refine X.iload_n 23 i266_22 rfl rfl rfl ?_
    refine X.icmpne 89 26 i266_23 rfl rfl rfl (fun h507 => ?_) (fun h507 => ?_)
    · refine X.cut [] i266_89 rfl ?_
      refine X.iconst 90 i266_89 rfl rfl (by decide) ?_
      refine X.retz i266_90 rfl t266 (by omega) ?_
      exact hQ 0 (by first | trivial | omega) (Eq.trans (zn_eq hFv503.symm) (Eq.trans (if_pos h505) (Eq.trans (if_neg h507) rfl))) 
    · refine X.aload_n 27 i266_26 rfl rfl rfl ?_
      refine X.getF 30 i266_27 rfl rfl (by decide) rfl rfl ?_
      refine X.aload_n 31 i266_30 rfl rfl rfl ?_
      refine X.getI 34 8 i266_31 rfl rfl (by decide) rfl rfl rfl ?_
      refine X.iconst 35 i266_34 rfl rfl (by decide) ?_
      refine X.iadd 36 i266_35 rfl rfl (by omega) ?_
      refine X.bald 37 i266_36 rfl rfl (by decide) rfl (by omega) (fun h508 => ?_)
      refine X.iload_n 38 i266_37 rfl rfl rfl ?_
      refine X.icmpne 89 41 i266_38 rfl rfl rfl (fun h509 => ?_) (fun h509 => ?_)
      · refine X.cut [] i266_89 rfl ?_
        refine X.iconst 90 i266_89 rfl rfl (by decide) ?_
        refine X.retz i266_90 rfl t266 (by omega) ?_
        exact hQ 0 (by first | trivial | omega) (Eq.trans (zn_eq hFv503.symm) (Eq.trans (if_pos h505) (Eq.trans (if_pos h507) (Eq.trans (if_neg h509) rfl)))) 
      · refine X.aload_n 42 i266_41 rfl rfl rfl ?_
        refine X.getF 45 i266_42 rfl rfl (by decide) rfl rfl ?_
        refine X.aload_n 46 i266_45 rfl rfl rfl ?_
        refine X.getI 49 8 i266_46 rfl rfl (by decide) rfl rfl rfl ?_
        refine X.iconst 50 i266_49 rfl rfl (by decide) ?_
        refine X.iadd 51 i266_50 rfl rfl (by omega) ?_
        refine X.bald 52 i266_51 rfl rfl (by decide) rfl (by omega) (fun h510 => ?_)
        refine X.iload 54 i266_52 rfl rfl rfl ?_
        refine X.icmpne 89 57 i266_54 rfl rfl rfl (fun h511 => ?_) (fun h511 => ?_)
        · refine X.cut [] i266_89 rfl ?_
          refine X.iconst 90 i266_89 rfl rfl (by decide) ?_
          refine X.retz i266_90 rfl t266 (by omega) ?_
          exact hQ 0 (by first | trivial | omega) (Eq.trans (zn_eq hFv503.symm) (Eq.trans (if_pos h505) (Eq.trans (if_pos h507) (Eq.trans (if_pos h509) (Eq.trans (if_neg h511) rfl))))) 
        · refine X.aload_n 58 i266_57 rfl rfl rfl ?_
          refine X.getF 61 i266_58 rfl rfl (by decide) rfl rfl ?_
          refine X.aload_n 62 i266_61 rfl rfl rfl ?_
          refine X.getI 65 8 i266_62 rfl rfl (by decide) rfl rfl rfl ?_
          refine X.iconst 66 i266_65 rfl rfl (by decide) ?_
          refine X.iadd 67 i266_66 rfl rfl (by omega) ?_
          refine X.bald 68 i266_67 rfl rfl (by decide) rfl (by omega) (fun h512 => ?_)
          refine X.iload 70 i266_68 rfl rfl rfl ?_
          refine X.icmpne 89 73 i266_70 rfl rfl rfl (fun h513 => ?_) (fun h513 => ?_)
          · refine X.cut [] i266_89 rfl ?_
            refine X.iconst 90 i266_89 rfl rfl (by decide) ?_
            refine X.retz i266_90 rfl t266 (by omega) ?_
            exact hQ 0 (by first | trivial | omega) (Eq.trans (zn_eq hFv503.symm) (Eq.trans (if_pos h505) (Eq.trans (if_pos h507) (Eq.trans (if_pos h509) (Eq.trans (if_pos h511) (Eq.trans (if_neg h513) rfl)))))) 
          · refine X.aload_n 74 i266_73 rfl rfl rfl ?_
            refine X.getF 77 i266_74 rfl rfl (by decide) rfl rfl ?_
            refine X.aload_n 78 i266_77 rfl rfl rfl ?_
            refine X.getI 81 8 i266_78 rfl rfl (by decide) rfl rfl rfl ?_
            refine X.iconst 82 i266_81 rfl rfl (by decide) ?_
            refine X.iadd 83 i266_82 rfl rfl (by omega) ?_
            refine X.bald 84 i266_83 rfl rfl (by decide) rfl (by omega) (fun h514 => ?_)
            refine X.iload 86 i266_84 rfl rfl rfl ?_
            refine X.icmpeq 91 89 i266_86 rfl rfl rfl (fun h515 => ?_) (fun h515 => ?_)
            · refine X.cut [(0, zr 4 44), (1, zi a1), (7, zi a7), (8, zi a8)] i266_91 rfl ?_
              refine X.iload_n 92 i266_91 rfl rfl rfl ?_
              refine X.bipush 94 i266_92 rfl rfl (by decide) ?_
              have hK526 : ∀ (v : Int) , (0 ≤ v ∧ v ≤ 1) → (if a1 < 6 then
                  (1)
                  else
                  (if (m 4 48 ((m 4 44 8) + 5)) = a7 then
                  (if a1 < 7 then
                  (1)
                  else
                  (if (m 4 48 ((m 4 44 8) + 6)) = a8 then
                  (1)
                  else
                  (0)))
                  else
                  (0))) = v → X (EE s) d 266 141 [] [zi v] m Q := by
                intro v523 hv523 hT527
                refine X.retz i266_141 rfl t266 (by omega) ?_
                exact hQ v523 (by first | trivial | omega) (Eq.trans (zn_eq hFv503.symm) (Eq.trans (if_pos h505) (Eq.trans (if_pos h507) (Eq.trans (if_pos h509) (Eq.trans (if_pos h511) (Eq.trans (if_pos h513) (Eq.trans (if_pos h515) (Eq.trans (zn_eq hT527.symm) rfl)))))))) 
              refine X.icmplt 113 97 i266_94 rfl rfl rfl (fun h516 => ?_) (fun h516 => ?_)
              · refine X.cut [(0, zr 4 44), (1, zi a1), (8, zi a8)] i266_113 rfl ?_
                refine X.iload_n 114 i266_113 rfl rfl rfl ?_
                refine X.bipush 116 i266_114 rfl rfl (by decide) ?_
                refine X.icmplt 136 119 i266_116 rfl rfl rfl (fun h517 => ?_) (fun h517 => (by exfalso; omega))
                refine X.cut [] i266_136 rfl ?_
                refine X.iconst 137 i266_136 rfl rfl (by decide) ?_
                refine X.goto 141 i266_137 rfl rfl ?_
                exact hK526 1 (by first | trivial | omega) (Eq.trans (if_pos h516) rfl)
              · refine X.aload_n 98 i266_97 rfl rfl rfl ?_
                refine X.getF 101 i266_98 rfl rfl (by decide) rfl rfl ?_
                refine X.aload_n 102 i266_101 rfl rfl rfl ?_
                refine X.getI 105 8 i266_102 rfl rfl (by decide) rfl rfl rfl ?_
                refine X.iconst 106 i266_105 rfl rfl (by decide) ?_
                refine X.iadd 107 i266_106 rfl rfl (by omega) ?_
                refine X.bald 108 i266_107 rfl rfl (by decide) rfl (by omega) (fun h518 => ?_)
                refine X.iload 110 i266_108 rfl rfl rfl ?_
                refine X.icmpne 140 113 i266_110 rfl rfl rfl (fun h519 => ?_) (fun h519 => ?_)
                · refine X.cut [] i266_140 rfl ?_
                  refine X.iconst 141 i266_140 rfl rfl (by decide) ?_
                  exact hK526 0 (by first | trivial | omega) (Eq.trans (if_neg h516) (Eq.trans (if_neg h519) rfl))
                · refine X.cut [(0, zr 4 44), (1, zi a1), (8, zi a8)] i266_113 rfl ?_
                  refine X.iload_n 114 i266_113 rfl rfl rfl ?_
                  refine X.bipush 116 i266_114 rfl rfl (by decide) ?_
                  refine X.icmplt 136 119 i266_116 rfl rfl rfl (fun h520 => ?_) (fun h520 => ?_)
                  · refine X.cut [] i266_136 rfl ?_
                    refine X.iconst 137 i266_136 rfl rfl (by decide) ?_
                    refine X.goto 141 i266_137 rfl rfl ?_
                    exact hK526 1 (by first | trivial | omega) (Eq.trans (if_neg h516) (Eq.trans (if_pos h519) (Eq.trans (if_pos h520) rfl)))
                  · refine X.aload_n 120 i266_119 rfl rfl rfl ?_
                    refine X.getF 123 i266_120 rfl rfl (by decide) rfl rfl ?_
                    refine X.aload_n 124 i266_123 rfl rfl rfl ?_
                    refine X.getI 127 8 i266_124 rfl rfl (by decide) rfl rfl rfl ?_
                    refine X.bipush 129 i266_127 rfl rfl (by decide) ?_
                    refine X.iadd 130 i266_129 rfl rfl (by omega) ?_
                    refine X.bald 131 i266_130 rfl rfl (by decide) rfl (by omega) (fun h521 => ?_)
                    refine X.iload 133 i266_131 rfl rfl rfl ?_
                    refine X.icmpne 140 136 i266_133 rfl rfl rfl (fun h522 => ?_) (fun h522 => ?_)
                    · refine X.cut [] i266_140 rfl ?_
                      refine X.iconst 141 i266_140 rfl rfl (by decide) ?_
                      exact hK526 0 (by first | trivial | omega) (Eq.trans (if_neg h516) (Eq.trans (if_pos h519) (Eq.trans (if_neg h520) (Eq.trans (if_neg h522) rfl))))
                    · refine X.cut [] i266_136 rfl ?_
                      refine X.iconst 137 i266_136 rfl rfl (by decide) ?_
                      refine X.goto 141 i266_137 rfl rfl ?_
                      exact hK526 1 (by first | trivial | omega) (Eq.trans (if_neg h516) (Eq.trans (if_pos h519) (Eq.trans (if_neg h520) (Eq.trans (if_pos h522) rfl))))
            · refine X.cut [] i266_89 rfl ?_
              refine X.iconst 90 i266_89 rfl rfl (by decide) ?_
              refine X.retz i266_90 rfl t266 (by omega) ?_
              exact hQ 0 (by first | trivial | omega) (Eq.trans (zn_eq hFv503.symm) (Eq.trans (if_pos h505) (Eq.trans (if_pos h507) (Eq.trans (if_pos h509) (Eq.trans (if_pos h511) (Eq.trans (if_pos h513) (Eq.trans (if_neg h515) rfl))))))) 
-- WorkMeterModel.spells
theorem c266_4 {s : Nat × (Nat → Int32)} {S : zS} {m0 m : zM} {B : Int} {d : Nat} {Q : Option zV → zM → Prop} (a1 a2 a3 a4 a5 a6 a7 a8 : Int) (hd : 14 ≤ d) (hJ : J S m0 B m) (hB : B + 0 ≤ 1000000000) (ha1 : 5 ≤ a1 ∧ a1 ≤ 7) (ha2 : 112 ≤ a2 ∧ a2 ≤ 112) (ha3 : 114 ≤ a3 ∧ a3 ≤ 114) (ha4 : 105 ≤ a4 ∧ a4 ≤ 105) (ha5 : 99 ≤ a5 ∧ a5 ≤ 99) (ha6 : 101 ≤ a6 ∧ a6 ≤ 101) (ha7 : 0 ≤ a7 ∧ a7 ≤ 0) (ha8 : 0 ≤ a8 ∧ a8 ≤ 0) (hQ : ∀ (v : Int), (0 ≤ v ∧ v ≤ 1) → f266_1 a1 a2 a3 a4 a5 a6 a7 a8 m = v → Q (some (zi v)) m) : X (EE s) d 266 0 [(0, zr 4 44), (1, zi a1), (2, zi a2), (3, zi a3), (4, zi a4), (5, zi a5), (6, zi a6), (7, zi a7), (8, zi a8)] [] m Q := by
  refine X.aload_n 1 i266_0 rfl rfl rfl ?_
  refine X.callv 4 [] [] [(0, zr 4 44)] i266_1 rfl (by decide) rfl rfl (by omega) rfl rfl (by decide) rfl t267 (Nat.le_of_ble_eq_true rfl) (Nat.le_of_ble_eq_true rfl) rfl ?_
  refine c267_1 (B := B)   (by omega) (hJ.up (by omega)) (by omega)  (fun v503 hv503 hFv503 hqv503_0 => ?_)
  show X (EE s) d 266 4 [(0, zr 4 44), (1, zi a1), (2, zi a2), (3, zi a3), (4, zi a4), (5, zi a5), (6, zi a6), (7, zi a7), (8, zi a8)] [zi v503] m _
  refine X.aload_n 5 i266_4 rfl rfl rfl ?_
  refine X.getI 8 8 i266_5 rfl rfl (by decide) rfl rfl rfl ?_
  have h504 := r44_8 hJ 4
  refine X.iload_n 9 i266_8 rfl rfl rfl ?_
  refine X.iadd 10 i266_9 rfl rfl (by omega) ?_
  refine X.icmpne 89 13 i266_10 rfl rfl rfl (fun h505 => ?_) (fun h505 => ?_)
  · refine X.cut [] i266_89 rfl ?_
    refine X.iconst 90 i266_89 rfl rfl (by decide) ?_
    refine X.retz i266_90 rfl t266 (by omega) ?_
    exact hQ 0 (by first | trivial | omega) (Eq.trans (zn_eq hFv503.symm) (Eq.trans (if_neg h505) rfl)) 
  · refine X.aload_n 14 i266_13 rfl rfl rfl ?_
    refine X.getF 17 i266_14 rfl rfl (by decide) rfl rfl ?_
    refine X.aload_n 18 i266_17 rfl rfl rfl ?_
    refine X.getI 21 8 i266_18 rfl rfl (by decide) rfl rfl rfl ?_
    refine X.bald 22 i266_21 rfl rfl (by decide) rfl (by omega) (fun h506 => ?_)
    refine X.iload_n 23 i266_22 rfl rfl rfl ?_
    refine X.icmpne 89 26 i266_23 rfl rfl rfl (fun h507 => ?_) (fun h507 => ?_)
    · refine X.cut [] i266_89 rfl ?_
      refine X.iconst 90 i266_89 rfl rfl (by decide) ?_
      refine X.retz i266_90 rfl t266 (by omega) ?_
      exact hQ 0 (by first | trivial | omega) (Eq.trans (zn_eq hFv503.symm) (Eq.trans (if_pos h505) (Eq.trans (if_neg h507) rfl))) 
    · refine X.aload_n 27 i266_26 rfl rfl rfl ?_
      refine X.getF 30 i266_27 rfl rfl (by decide) rfl rfl ?_
      refine X.aload_n 31 i266_30 rfl rfl rfl ?_
      refine X.getI 34 8 i266_31 rfl rfl (by decide) rfl rfl rfl ?_
      refine X.iconst 35 i266_34 rfl rfl (by decide) ?_
      refine X.iadd 36 i266_35 rfl rfl (by omega) ?_
      refine X.bald 37 i266_36 rfl rfl (by decide) rfl (by omega) (fun h508 => ?_)
      refine X.iload_n 38 i266_37 rfl rfl rfl ?_
      refine X.icmpne 89 41 i266_38 rfl rfl rfl (fun h509 => ?_) (fun h509 => ?_)
      · refine X.cut [] i266_89 rfl ?_
        refine X.iconst 90 i266_89 rfl rfl (by decide) ?_
        refine X.retz i266_90 rfl t266 (by omega) ?_
        exact hQ 0 (by first | trivial | omega) (Eq.trans (zn_eq hFv503.symm) (Eq.trans (if_pos h505) (Eq.trans (if_pos h507) (Eq.trans (if_neg h509) rfl)))) 
      · refine X.aload_n 42 i266_41 rfl rfl rfl ?_
        refine X.getF 45 i266_42 rfl rfl (by decide) rfl rfl ?_
        refine X.aload_n 46 i266_45 rfl rfl rfl ?_
        refine X.getI 49 8 i266_46 rfl rfl (by decide) rfl rfl rfl ?_
        refine X.iconst 50 i266_49 rfl rfl (by decide) ?_
        refine X.iadd 51 i266_50 rfl rfl (by omega) ?_
        refine X.bald 52 i266_51 rfl rfl (by decide) rfl (by omega) (fun h510 => ?_)
        refine X.iload 54 i266_52 rfl rfl rfl ?_
        refine X.icmpne 89 57 i266_54 rfl rfl rfl (fun h511 => ?_) (fun h511 => ?_)
        · refine X.cut [] i266_89 rfl ?_
          refine X.iconst 90 i266_89 rfl rfl (by decide) ?_
          refine X.retz i266_90 rfl t266 (by omega) ?_
          exact hQ 0 (by first | trivial | omega) (Eq.trans (zn_eq hFv503.symm) (Eq.trans (if_pos h505) (Eq.trans (if_pos h507) (Eq.trans (if_pos h509) (Eq.trans (if_neg h511) rfl))))) 
        · refine X.aload_n 58 i266_57 rfl rfl rfl ?_
          refine X.getF 61 i266_58 rfl rfl (by decide) rfl rfl ?_
          refine X.aload_n 62 i266_61 rfl rfl rfl ?_
          refine X.getI 65 8 i266_62 rfl rfl (by decide) rfl rfl rfl ?_
          refine X.iconst 66 i266_65 rfl rfl (by decide) ?_
          refine X.iadd 67 i266_66 rfl rfl (by omega) ?_
          refine X.bald 68 i266_67 rfl rfl (by decide) rfl (by omega) (fun h512 => ?_)
          refine X.iload 70 i266_68 rfl rfl rfl ?_
          refine X.icmpne 89 73 i266_70 rfl rfl rfl (fun h513 => ?_) (fun h513 => ?_)
          · refine X.cut [] i266_89 rfl ?_
            refine X.iconst 90 i266_89 rfl rfl (by decide) ?_
            refine X.retz i266_90 rfl t266 (by omega) ?_
            exact hQ 0 (by first | trivial | omega) (Eq.trans (zn_eq hFv503.symm) (Eq.trans (if_pos h505) (Eq.trans (if_pos h507) (Eq.trans (if_pos h509) (Eq.trans (if_pos h511) (Eq.trans (if_neg h513) rfl)))))) 
          · refine X.aload_n 74 i266_73 rfl rfl rfl ?_
            refine X.getF 77 i266_74 rfl rfl (by decide) rfl rfl ?_
            refine X.aload_n 78 i266_77 rfl rfl rfl ?_
            refine X.getI 81 8 i266_78 rfl rfl (by decide) rfl rfl rfl ?_
            refine X.iconst 82 i266_81 rfl rfl (by decide) ?_
            refine X.iadd 83 i266_82 rfl rfl (by omega) ?_
            refine X.bald 84 i266_83 rfl rfl (by decide) rfl (by omega) (fun h514 => ?_)
            refine X.iload 86 i266_84 rfl rfl rfl ?_
            refine X.icmpeq 91 89 i266_86 rfl rfl rfl (fun h515 => ?_) (fun h515 => ?_)
            · refine X.cut [(0, zr 4 44), (1, zi a1), (7, zi a7), (8, zi a8)] i266_91 rfl ?_
              refine X.iload_n 92 i266_91 rfl rfl rfl ?_
              refine X.bipush 94 i266_92 rfl rfl (by decide) ?_
              have hK526 : ∀ (v : Int) , (0 ≤ v ∧ v ≤ 1) → (if a1 < 6 then
                  (1)
                  else
                  (if (m 4 48 ((m 4 44 8) + 5)) = a7 then
                  (if a1 < 7 then
                  (1)
                  else
                  (if (m 4 48 ((m 4 44 8) + 6)) = a8 then
                  (1)
                  else
                  (0)))
                  else
                  (0))) = v → X (EE s) d 266 141 [] [zi v] m Q := by
                intro v523 hv523 hT527
                refine X.retz i266_141 rfl t266 (by omega) ?_
                exact hQ v523 (by first | trivial | omega) (Eq.trans (zn_eq hFv503.symm) (Eq.trans (if_pos h505) (Eq.trans (if_pos h507) (Eq.trans (if_pos h509) (Eq.trans (if_pos h511) (Eq.trans (if_pos h513) (Eq.trans (if_pos h515) (Eq.trans (zn_eq hT527.symm) rfl)))))))) 
              refine X.icmplt 113 97 i266_94 rfl rfl rfl (fun h516 => ?_) (fun h516 => ?_)
              · refine X.cut [(0, zr 4 44), (1, zi a1), (8, zi a8)] i266_113 rfl ?_
                refine X.iload_n 114 i266_113 rfl rfl rfl ?_
                refine X.bipush 116 i266_114 rfl rfl (by decide) ?_
                refine X.icmplt 136 119 i266_116 rfl rfl rfl (fun h517 => ?_) (fun h517 => (by exfalso; omega))
                refine X.cut [] i266_136 rfl ?_
                refine X.iconst 137 i266_136 rfl rfl (by decide) ?_
                refine X.goto 141 i266_137 rfl rfl ?_
                exact hK526 1 (by first | trivial | omega) (Eq.trans (if_pos h516) rfl)
              · refine X.aload_n 98 i266_97 rfl rfl rfl ?_
                refine X.getF 101 i266_98 rfl rfl (by decide) rfl rfl ?_
                refine X.aload_n 102 i266_101 rfl rfl rfl ?_
                refine X.getI 105 8 i266_102 rfl rfl (by decide) rfl rfl rfl ?_
                refine X.iconst 106 i266_105 rfl rfl (by decide) ?_
                refine X.iadd 107 i266_106 rfl rfl (by omega) ?_
                refine X.bald 108 i266_107 rfl rfl (by decide) rfl (by omega) (fun h518 => ?_)
                refine X.iload 110 i266_108 rfl rfl rfl ?_
                refine X.icmpne 140 113 i266_110 rfl rfl rfl (fun h519 => ?_) (fun h519 => ?_)
                · refine X.cut [] i266_140 rfl ?_
                  refine X.iconst 141 i266_140 rfl rfl (by decide) ?_
                  exact hK526 0 (by first | trivial | omega) (Eq.trans (if_neg h516) (Eq.trans (if_neg h519) rfl))
                · refine X.cut [(0, zr 4 44), (1, zi a1), (8, zi a8)] i266_113 rfl ?_
                  refine X.iload_n 114 i266_113 rfl rfl rfl ?_
                  refine X.bipush 116 i266_114 rfl rfl (by decide) ?_
                  refine X.icmplt 136 119 i266_116 rfl rfl rfl (fun h520 => ?_) (fun h520 => ?_)
                  · refine X.cut [] i266_136 rfl ?_
                    refine X.iconst 137 i266_136 rfl rfl (by decide) ?_
                    refine X.goto 141 i266_137 rfl rfl ?_
                    exact hK526 1 (by first | trivial | omega) (Eq.trans (if_neg h516) (Eq.trans (if_pos h519) (Eq.trans (if_pos h520) rfl)))
                  · refine X.aload_n 120 i266_119 rfl rfl rfl ?_
                    refine X.getF 123 i266_120 rfl rfl (by decide) rfl rfl ?_
                    refine X.aload_n 124 i266_123 rfl rfl rfl ?_
                    refine X.getI 127 8 i266_124 rfl rfl (by decide) rfl rfl rfl ?_
                    refine X.bipush 129 i266_127 rfl rfl (by decide) ?_
                    refine X.iadd 130 i266_129 rfl rfl (by omega) ?_
                    refine X.bald 131 i266_130 rfl rfl (by decide) rfl (by omega) (fun h521 => ?_)
                    refine X.iload 133 i266_131 rfl rfl rfl ?_
                    refine X.icmpne 140 136 i266_133 rfl rfl rfl (fun h522 => ?_) (fun h522 => ?_)
                    · refine X.cut [] i266_140 rfl ?_
                      refine X.iconst 141 i266_140 rfl rfl (by decide) ?_
                      exact hK526 0 (by first | trivial | omega) (Eq.trans (if_neg h516) (Eq.trans (if_pos h519) (Eq.trans (if_neg h520) (Eq.trans (if_neg h522) rfl))))
                    · refine X.cut [] i266_136 rfl ?_
                      refine X.iconst 137 i266_136 rfl rfl (by decide) ?_
                      refine X.goto 141 i266_137 rfl rfl ?_
                      exact hK526 1 (by first | trivial | omega) (Eq.trans (if_neg h516) (Eq.trans (if_pos h519) (Eq.trans (if_neg h520) (Eq.trans (if_pos h522) rfl))))
            · refine X.cut [] i266_89 rfl ?_
              refine X.iconst 90 i266_89 rfl rfl (by decide) ?_
              refine X.retz i266_90 rfl t266 (by omega) ?_
              exact hQ 0 (by first | trivial | omega) (Eq.trans (zn_eq hFv503.symm) (Eq.trans (if_pos h505) (Eq.trans (if_pos h507) (Eq.trans (if_pos h509) (Eq.trans (if_pos h511) (Eq.trans (if_pos h513) (Eq.trans (if_neg h515) rfl))))))) 
-- WorkMeterModel.word
noncomputable def f265_1 (m : zM) : Int :=
  zn (f266_1 5 116 97 98 108 101 0 0 m) fun v503 =>
  if v503 = 0 then
  (zn (f266_1 6 115 101 97 115 111 110 0 m) fun v507 =>
  if v507 = 0 then
  (zn (f266_1 7 115 112 101 99 105 97 108 m) fun v511 =>
  if v511 = 0 then
  (zn (f266_1 5 112 114 105 99 101 0 0 m) fun v515 =>
  zn (if v515 = 0 then
  (0)
  else
  (4)) fun v517 =>
  v517)
  else
  (3))
  else
  (2))
  else
  (1)
-- WorkMeterModel.word
theorem c265_1 {s : Nat × (Nat → Int32)} {S : zS} {m0 m : zM} {B : Int} {d : Nat} {Q : Option zV → zM → Prop} (hd : 15 ≤ d) (hJ : J S m0 B m) (hB : B + 0 ≤ 1000000000) (hQ : ∀ (v : Int), (0 ≤ v ∧ v ≤ 4) → f265_1 m = v → Q (some (zi v)) m) : X (EE s) d 265 0 [(0, zr 4 44)] [] m Q := by
  refine X.aload_n 1 i265_0 rfl rfl rfl ?_
  refine X.iconst 2 i265_1 rfl rfl (by decide) ?_
  refine X.bipush 4 i265_2 rfl rfl (by decide) ?_
  refine X.bipush 6 i265_4 rfl rfl (by decide) ?_
  refine X.bipush 8 i265_6 rfl rfl (by decide) ?_
  refine X.bipush 10 i265_8 rfl rfl (by decide) ?_
  refine X.bipush 12 i265_10 rfl rfl (by decide) ?_
  refine X.iconst 13 i265_12 rfl rfl (by decide) ?_
  refine X.iconst 14 i265_13 rfl rfl (by decide) ?_
  refine X.callv 17 [zi 5, zi 116, zi 97, zi 98, zi 108, zi 101, zi 0, zi 0] [] [(0, zr 4 44), (1, zi 5), (2, zi 116), (3, zi 97), (4, zi 98), (5, zi 108), (6, zi 101), (7, zi 0), (8, zi 0)] i265_14 rfl (by decide) rfl rfl (by omega) rfl rfl (by decide) rfl t266 (Nat.le_of_ble_eq_true rfl) (Nat.le_of_ble_eq_true rfl) rfl ?_
  refine c266_1 (B := B)  5 116 97 98 108 101 0 0 (by omega) (hJ.up (by omega)) (by omega) (by omega) (by omega) (by omega) (by omega) (by omega) (by omega) (by omega) (by omega) (fun v503 hv503 hFv503 => ?_)
  show X (EE s) d 265 17 [(0, zr 4 44)] [zi v503] m _
  refine X.ifeq 22 20 i265_17 rfl rfl rfl (fun h504 => ?_) (fun h504 => ?_)
  · refine X.aload_n 23 i265_22 rfl rfl rfl ?_
    refine X.bipush 25 i265_23 rfl rfl (by decide) ?_
    refine X.bipush 27 i265_25 rfl rfl (by decide) ?_
    refine X.bipush 29 i265_27 rfl rfl (by decide) ?_
    refine X.bipush 31 i265_29 rfl rfl (by decide) ?_
    refine X.bipush 33 i265_31 rfl rfl (by decide) ?_
    refine X.bipush 35 i265_33 rfl rfl (by decide) ?_
    refine X.bipush 37 i265_35 rfl rfl (by decide) ?_
    refine X.iconst 38 i265_37 rfl rfl (by decide) ?_
    refine X.callv 41 [zi 6, zi 115, zi 101, zi 97, zi 115, zi 111, zi 110, zi 0] [] [(0, zr 4 44), (1, zi 6), (2, zi 115), (3, zi 101), (4, zi 97), (5, zi 115), (6, zi 111), (7, zi 110), (8, zi 0)] i265_38 rfl (by decide) rfl rfl (by omega) rfl rfl (by decide) rfl t266 (Nat.le_of_ble_eq_true rfl) (Nat.le_of_ble_eq_true rfl) rfl ?_
    refine c266_2 (B := B)  6 115 101 97 115 111 110 0 (by omega) (hJ.up (by omega)) (by omega) (by omega) (by omega) (by omega) (by omega) (by omega) (by omega) (by omega) (by omega) (fun v507 hv507 hFv507 => ?_)
    show X (EE s) d 265 41 [(0, zr 4 44)] [zi v507] m _
    refine X.ifeq 46 44 i265_41 rfl rfl rfl (fun h508 => ?_) (fun h508 => ?_)
    · refine X.aload_n 47 i265_46 rfl rfl rfl ?_
      refine X.bipush 49 i265_47 rfl rfl (by decide) ?_
      refine X.bipush 51 i265_49 rfl rfl (by decide) ?_
      refine X.bipush 53 i265_51 rfl rfl (by decide) ?_
      refine X.bipush 55 i265_53 rfl rfl (by decide) ?_
      refine X.bipush 57 i265_55 rfl rfl (by decide) ?_
      refine X.bipush 59 i265_57 rfl rfl (by decide) ?_
      refine X.bipush 61 i265_59 rfl rfl (by decide) ?_
      refine X.bipush 63 i265_61 rfl rfl (by decide) ?_
      refine X.callv 66 [zi 7, zi 115, zi 112, zi 101, zi 99, zi 105, zi 97, zi 108] [] [(0, zr 4 44), (1, zi 7), (2, zi 115), (3, zi 112), (4, zi 101), (5, zi 99), (6, zi 105), (7, zi 97), (8, zi 108)] i265_63 rfl (by decide) rfl rfl (by omega) rfl rfl (by decide) rfl t266 (Nat.le_of_ble_eq_true rfl) (Nat.le_of_ble_eq_true rfl) rfl ?_
      refine c266_3 (B := B)  7 115 112 101 99 105 97 108 (by omega) (hJ.up (by omega)) (by omega) (by omega) (by omega) (by omega) (by omega) (by omega) (by omega) (by omega) (by omega) (fun v511 hv511 hFv511 => ?_)
      show X (EE s) d 265 66 [(0, zr 4 44)] [zi v511] m _
      refine X.ifeq 71 69 i265_66 rfl rfl rfl (fun h512 => ?_) (fun h512 => ?_)
      · refine X.aload_n 72 i265_71 rfl rfl rfl ?_
        refine X.iconst 73 i265_72 rfl rfl (by decide) ?_
        refine X.bipush 75 i265_73 rfl rfl (by decide) ?_
        refine X.bipush 77 i265_75 rfl rfl (by decide) ?_
        refine X.bipush 79 i265_77 rfl rfl (by decide) ?_
        refine X.bipush 81 i265_79 rfl rfl (by decide) ?_
        refine X.bipush 83 i265_81 rfl rfl (by decide) ?_
        refine X.iconst 84 i265_83 rfl rfl (by decide) ?_
        refine X.iconst 85 i265_84 rfl rfl (by decide) ?_
        refine X.callv 88 [zi 5, zi 112, zi 114, zi 105, zi 99, zi 101, zi 0, zi 0] [] [(0, zr 4 44), (1, zi 5), (2, zi 112), (3, zi 114), (4, zi 105), (5, zi 99), (6, zi 101), (7, zi 0), (8, zi 0)] i265_85 rfl (by decide) rfl rfl (by omega) rfl rfl (by decide) rfl t266 (Nat.le_of_ble_eq_true rfl) (Nat.le_of_ble_eq_true rfl) rfl ?_
        refine c266_4 (B := B)  5 112 114 105 99 101 0 0 (by omega) (hJ.up (by omega)) (by omega) (by omega) (by omega) (by omega) (by omega) (by omega) (by omega) (by omega) (by omega) (fun v515 hv515 hFv515 => ?_)
        show X (EE s) d 265 88 [(0, zr 4 44)] [zi v515] m _
        have hK520 : ∀ (v : Int) , (0 ≤ v ∧ v ≤ 4) → (if v515 = 0 then
            (0)
            else
            (4)) = v → X (EE s) d 265 96 [] [zi v] m Q := by
          intro v517 hv517 hT521
          refine X.reti i265_96 rfl t265 ?_
          exact hQ v517 (by first | trivial | omega) (Eq.trans (zn_eq hFv503.symm) (Eq.trans (if_pos h504) (Eq.trans (zn_eq hFv507.symm) (Eq.trans (if_pos h508) (Eq.trans (zn_eq hFv511.symm) (Eq.trans (if_pos h512) (Eq.trans (zn_eq hFv515.symm) (Eq.trans (zn_eq hT521.symm) rfl)))))))) 
        refine X.ifeq 95 91 i265_88 rfl rfl rfl (fun h516 => ?_) (fun h516 => ?_)
        · refine X.cut [] i265_95 rfl ?_
          refine X.iconst 96 i265_95 rfl rfl (by decide) ?_
          exact hK520 0 (by first | trivial | omega) (Eq.trans (if_pos h516) rfl)
        · refine X.iconst 92 i265_91 rfl rfl (by decide) ?_
          refine X.goto 96 i265_92 rfl rfl ?_
          refine X.cut [] i265_96 rfl ?_
          exact hK520 4 (by first | trivial | omega) (Eq.trans (if_neg h516) rfl)
      · refine X.iconst 70 i265_69 rfl rfl (by decide) ?_
        refine X.reti i265_70 rfl t265 ?_
        exact hQ 3 (by first | trivial | omega) (Eq.trans (zn_eq hFv503.symm) (Eq.trans (if_pos h504) (Eq.trans (zn_eq hFv507.symm) (Eq.trans (if_pos h508) (Eq.trans (zn_eq hFv511.symm) (Eq.trans (if_neg h512) rfl)))))) 
    · refine X.iconst 45 i265_44 rfl rfl (by decide) ?_
      refine X.reti i265_45 rfl t265 ?_
      exact hQ 2 (by first | trivial | omega) (Eq.trans (zn_eq hFv503.symm) (Eq.trans (if_pos h504) (Eq.trans (zn_eq hFv507.symm) (Eq.trans (if_neg h508) rfl)))) 
  · refine X.iconst 21 i265_20 rfl rfl (by decide) ?_
    refine X.reti i265_21 rfl t265 ?_
    exact hQ 1 (by first | trivial | omega) (Eq.trans (zn_eq hFv503.symm) (Eq.trans (if_neg h504) rfl)) 
noncomputable def fl270_23_1_b (self : Int → zM → Int × zM) (k97 : Int → zM → Int × zM) (y1 y2 : Int) (y3 : Int) (m : zM) : Int × zM :=
  if (m 4 44 5) ≤ (m 4 44 8) then
  (k97 y3 m)
  else
  (if (m 4 48 (m 4 44 8)) < 48 then
  (k97 y3 m)
  else
  (if (m 4 48 (m 4 44 8)) ≤ 57 then
  (if y3 ≤ 100000 then
  (zs (z_upd m 4 44 8 ((m 4 44 8) + 1)) fun m531 =>
  self (((10 * y3) + (m 4 48 (m 4 44 8))) - 48) m531)
  else
  (zs (z_upd m 4 44 8 ((m 4 44 8) + 1)) fun m533 =>
  self y3 m533))
  else
  (k97 y3 m)))
noncomputable def fl270_23_1 (k97 : Int → zM → Int × zM) (y1 y2 : Int) : Nat → Int → zM → Int × zM
  | 0 => fun y3 m => (0, m)
  | n + 1 => fl270_23_1_b (fl270_23_1 k97 y1 y2 n) k97 y1 y2
theorem l270_23_1 {s : Nat × (Nat → Int32)} {S : zS} {m0 : zM} {d : Nat} {Q : Option zV → zM → Prop} {R0 : Int × zM} {k97 : Int → zM → Int × zM} (y1 y2 : Int) (c8 c9 : Int) (BE : Int) (hE : BE ≤ 1000000000) (hd : 13 ≤ d) (hy1 : 0 ≤ y1 ∧ y1 ≤ 0) (hy2 : 0 ≤ y2 ∧ y2 ≤ 1000) (hf39 : ¬ S.1 39) (hg4 : ¬ S.2.1 4)
    (K97 : ∀ (x3 : Int) (m' : zM) (B' : Int), J S m0 B' m' → B' ≤ BE → (0 ≤ x3 ∧ x3 ≤ 1000009) → (m' 4 44 10 ≤ m' 4 44 8) → (c8 ≤ m' 4 44 10) → (c8 ≤ m' 4 44 8) → (c9 ≤ m' 4 44 9) → R0 = k97 x3 m' → X (EE s) d 270 97 [(0, zr 4 44), (1, zi y1), (2, zi y2), (3, zi x3)] [] m' Q) :
    ∀ (n : Nat) (y3 : Int) (m : zM) (B : Int), J S m0 B m → B + 0 * (n : Int) ≤ BE → (0 ≤ y3 ∧ y3 ≤ 1000009) → (m 4 44 10 ≤ m 4 44 8) → (c8 ≤ m 4 44 10) → (c8 ≤ m 4 44 8) → (c9 ≤ m 4 44 9) → 300 - m 4 44 8 < (n : Int) → R0 = fl270_23_1 k97 y1 y2 n y3 m → X (EE s) d 270 23 [(0, zr 4 44), (1, zi y1), (2, zi y2), (3, zi y3)] [] m Q := by
  intro n
  induction n with
  | zero =>
    intro y3 m B hJ hB hy3 hr0 hr1 hr2 hr3 hn hR
    have zf0 := r44_8 hJ 4
    exfalso
    omega
  | succ n ih =>
    intro y3 m B hJ hB hy3 hr0 hr1 hr2 hr3 hn hR
    replace hR : R0 = fl270_23_1_b (fl270_23_1 k97 y1 y2 n) k97 y1 y2 y3 m := hR
    refine X.aload_n 24 i270_23 rfl rfl rfl ?_
    refine X.getI 27 8 i270_24 rfl rfl (by decide) rfl rfl rfl ?_
    have h518 := r44_8 hJ 4
    refine X.aload_n 28 i270_27 rfl rfl rfl ?_
    refine X.getI 31 5 i270_28 rfl rfl (by decide) rfl rfl rfl ?_
    have h519 := r44_5 hJ 4
    refine X.icmpge 97 34 i270_31 rfl rfl rfl (fun h520 => ?_) (fun h520 => ?_)
    · exact K97 y3 m (B) (hJ.up (by omega)) (by omega) (by first | trivial | omega) (by omega) (by omega) (by omega) (by omega) (Eq.trans hR (Eq.trans (if_pos h520) rfl))
    · refine X.aload_n 35 i270_34 rfl rfl rfl ?_
      refine X.getF 38 i270_35 rfl rfl (by decide) rfl rfl ?_
      refine X.aload_n 39 i270_38 rfl rfl rfl ?_
      refine X.getI 42 8 i270_39 rfl rfl (by decide) rfl rfl rfl ?_
      refine X.bald 43 i270_42 rfl rfl (by decide) rfl (by omega) (fun h521 => ?_)
      refine X.i2l 44 i270_43 rfl rfl ?_
      refine X.ldc2 47 i270_44 rfl rfl (by decide) ?_
      refine X.ldc2 50 i270_47 rfl rfl (by decide) ?_
      refine X.calls 53 [zl (m 4 48 (m 4 44 8)), zl 48, zl 57] [] [(0, zl (m 4 48 (m 4 44 8))), (2, zl 48), (4, zl 57)] i270_50 (by decide) rfl rfl (by omega) rfl rfl t204 (Nat.le_of_ble_eq_true rfl) (Nat.le_of_ble_eq_true rfl) rfl ?_
      refine X.lload_n 1 i204_0 rfl rfl rfl ?_
      refine X.lload_n 2 i204_1 rfl rfl rfl ?_
      refine X.lcmp 3 i204_2 rfl rfl (fun z522 hz522 => ?_)
      refine X.iflt 17 6 i204_3 rfl rfl rfl (fun h523 => ?_) (fun h523 => ?_)
      · have h523c : (m 4 48 (m 4 44 8)) < 48 := by omega
        clear h523 hz522
        refine X.cut [] i204_17 rfl ?_
        refine X.iconst 18 i204_17 rfl rfl (by decide) ?_
        refine X.retz i204_18 rfl t204 (by omega) ?_
        show X (EE s) d 270 53 [(0, zr 4 44), (1, zi y1), (2, zi y2), (3, zi y3)] [zi 0] m _
        refine X.ifeq 97 56 i270_53 rfl rfl rfl (fun h524 => ?_) (fun h524 => (by exfalso; omega))
        exact K97 y3 m (B) (hJ.up (by omega)) (by omega) (by first | trivial | omega) (by omega) (by omega) (by omega) (by omega) (Eq.trans hR (Eq.trans (if_neg h520) (Eq.trans (if_pos h523c) rfl)))
      · have h523c : ¬ (m 4 48 (m 4 44 8)) < 48 := by omega
        clear h523 hz522
        refine X.lload_n 7 i204_6 rfl rfl rfl ?_
        refine X.lload 9 i204_7 rfl rfl rfl ?_
        refine X.lcmp 10 i204_9 rfl rfl (fun z525 hz525 => ?_)
        refine X.ifgt 17 13 i204_10 rfl rfl rfl (fun h526 => ?_) (fun h526 => ?_)
        · have h526c : ¬ (m 4 48 (m 4 44 8)) ≤ 57 := by omega
          clear h526 hz525
          refine X.cut [] i204_17 rfl ?_
          refine X.iconst 18 i204_17 rfl rfl (by decide) ?_
          refine X.retz i204_18 rfl t204 (by omega) ?_
          show X (EE s) d 270 53 [(0, zr 4 44), (1, zi y1), (2, zi y2), (3, zi y3)] [zi 0] m _
          refine X.ifeq 97 56 i270_53 rfl rfl rfl (fun h527 => ?_) (fun h527 => (by exfalso; omega))
          exact K97 y3 m (B) (hJ.up (by omega)) (by omega) (by first | trivial | omega) (by omega) (by omega) (by omega) (by omega) (Eq.trans hR (Eq.trans (if_neg h520) (Eq.trans (if_neg h523c) (Eq.trans (if_neg h526c) rfl))))
        · have h526c : (m 4 48 (m 4 44 8)) ≤ 57 := by omega
          clear h526 hz525
          refine X.iconst 14 i204_13 rfl rfl (by decide) ?_
          refine X.goto 18 i204_14 rfl rfl ?_
          refine X.cut [] i204_18 rfl ?_
          refine X.retz i204_18 rfl t204 (by omega) ?_
          show X (EE s) d 270 53 [(0, zr 4 44), (1, zi y1), (2, zi y2), (3, zi y3)] [zi 1] m _
          refine X.ifeq 97 56 i270_53 rfl rfl rfl (fun h528 => (by exfalso; omega)) (fun h528 => ?_)
          refine X.iload_n 57 i270_56 rfl rfl rfl ?_
          refine X.ldc 59 i270_57 rfl rfl (by decide) ?_
          refine X.icmple 66 62 i270_59 rfl rfl rfl (fun h529 => ?_) (fun h529 => ?_)
          · refine X.bipush 68 i270_66 rfl rfl (by decide) ?_
            refine X.iload_n 69 i270_68 rfl rfl rfl ?_
            refine X.imul 70 i270_69 rfl rfl (by omega) ?_
            refine X.aload_n 71 i270_70 rfl rfl rfl ?_
            refine X.getF 74 i270_71 rfl rfl (by decide) rfl rfl ?_
            refine X.aload_n 75 i270_74 rfl rfl rfl ?_
            refine X.getI 78 8 i270_75 rfl rfl (by decide) rfl rfl rfl ?_
            refine X.bald 79 i270_78 rfl rfl (by decide) rfl (by omega) (fun h530 => ?_)
            refine X.iadd 80 i270_79 rfl rfl (by omega) ?_
            refine X.bipush 82 i270_80 rfl rfl (by decide) ?_
            refine X.isub 83 i270_82 rfl rfl (by omega) ?_
            refine X.cut [(0, zr 4 44), (1, zi y1), (2, zi y2)] i270_83 rfl ?_
            refine X.istore_n 84 [(0, zr 4 44), (1, zi y1), (2, zi y2), (3, zi (((10 * y3) + (m 4 48 (m 4 44 8))) - 48))] i270_83 rfl rfl rfl ?_
            refine X.aload_n 85 i270_84 rfl rfl rfl ?_
            refine X.dup 86 i270_85 rfl rfl rfl ?_
            refine X.getI 89 8 i270_86 rfl rfl (by decide) rfl rfl rfl ?_
            refine X.iconst 90 i270_89 rfl rfl (by decide) ?_
            refine X.iadd 91 i270_90 rfl rfl (by omega) ?_
            refine X.putI' 94 8 i270_91 rfl rfl (by decide) rfl rfl rfl (fun hrm531 m531 hm531 => ?_)
            have hJ532 := w44_8 hJ hm531 (by omega) hf39 hg4
            have em531 : m531 4 44 8 = ((m 4 44 8) + 1) := by rw [hm531]; exact z_upd_same _ _ _ _ _
            have wmm531_9 : m531 4 44 9 = m 4 44 9 := by rw [hm531]; exact z_upd_o _ _ rfl
            have wmm531_10 : m531 4 44 10 = m 4 44 10 := by rw [hm531]; exact z_upd_o _ _ rfl
            refine X.goto 23 i270_94 rfl rfl ?_
            exact ih (((10 * y3) + (m 4 48 (m 4 44 8))) - 48) m531 (B) (hJ532.up (by omega)) (by omega) (by omega) (by omega) (by omega) (by omega) (by omega) (by omega) (Eq.trans hR (Eq.trans (if_neg h520) (Eq.trans (if_neg h523c) (Eq.trans (if_pos h526c) (Eq.trans (if_pos h529) (Eq.trans (zs_eq hm531) rfl))))))
          · refine X.iload_n 63 i270_62 rfl rfl rfl ?_
            refine X.goto 83 i270_63 rfl rfl ?_
            refine X.cut [(0, zr 4 44), (1, zi y1), (2, zi y2)] i270_83 rfl ?_
            refine X.istore_n 84 [(0, zr 4 44), (1, zi y1), (2, zi y2), (3, zi y3)] i270_83 rfl rfl rfl ?_
            refine X.aload_n 85 i270_84 rfl rfl rfl ?_
            refine X.dup 86 i270_85 rfl rfl rfl ?_
            refine X.getI 89 8 i270_86 rfl rfl (by decide) rfl rfl rfl ?_
            refine X.iconst 90 i270_89 rfl rfl (by decide) ?_
            refine X.iadd 91 i270_90 rfl rfl (by omega) ?_
            refine X.putI' 94 8 i270_91 rfl rfl (by decide) rfl rfl rfl (fun hrm533 m533 hm533 => ?_)
            have hJ534 := w44_8 hJ hm533 (by omega) hf39 hg4
            have em533 : m533 4 44 8 = ((m 4 44 8) + 1) := by rw [hm533]; exact z_upd_same _ _ _ _ _
            have wmm533_9 : m533 4 44 9 = m 4 44 9 := by rw [hm533]; exact z_upd_o _ _ rfl
            have wmm533_10 : m533 4 44 10 = m 4 44 10 := by rw [hm533]; exact z_upd_o _ _ rfl
            refine X.goto 23 i270_94 rfl rfl ?_
            exact ih y3 m533 (B) (hJ534.up (by omega)) (by omega) (by omega) (by omega) (by omega) (by omega) (by omega) (by omega) (Eq.trans hR (Eq.trans (if_neg h520) (Eq.trans (if_neg h523c) (Eq.trans (if_pos h526c) (Eq.trans (if_neg h529) (Eq.trans (zs_eq hm533) rfl))))))
-- WorkMeterModel.wrong
noncomputable def f268_1 (a1 a2 : Int) (m : zM) : zM :=
  if (m 4 44 9) = 0 then
  (zs (z_upd m 4 44 9 1) fun m503 =>
  zs (z_upd m503 4 44 6 a1) fun m505 =>
  zs (z_upd m505 4 44 7 a2) fun m507 =>
  m507)
  else
  (m)
-- WorkMeterModel.wrong
theorem c268_1 {s : Nat × (Nat → Int32)} {S : zS} {m0 m : zM} {B : Int} {d : Nat} {Q : Option zV → zM → Prop} (a1 a2 : Int) (hd : 13 ≤ d) (hJ : J S m0 B m) (hB : B + 0 ≤ 1000000000) (ha1 : 2 ≤ a1 ∧ a1 ≤ 2) (ha2 : (-2147483648) ≤ a2 ∧ a2 ≤ 2147483647) (hf36 : ¬ S.1 36) (hf39 : ¬ S.1 39) (hg4 : ¬ S.2.1 4) (hQ : ∀ m', f268_1 a1 a2 m = m' → J S m0 (B) m' → (m' 4 44 9 = 1) → (m 4 44 8 ≤ m' 4 44 8) → (m 4 44 9 ≤ m' 4 44 9) → Q none m') : X (EE s) d 268 0 [(0, zr 4 44), (1, zi a1), (2, zi a2)] [] m Q := by
  refine X.aload_n 1 i268_0 rfl rfl rfl ?_
  refine X.getZ 4 9 i268_1 rfl rfl (by decide) rfl rfl rfl (fun h501 => ?_)
  refine X.ifeq 8 7 i268_4 rfl rfl rfl (fun h502 => ?_) (fun h502 => ?_)
  · refine X.aload_n 9 i268_8 rfl rfl rfl ?_
    refine X.iconst 10 i268_9 rfl rfl (by decide) ?_
    refine X.putZ' 13 9 i268_10 rfl rfl (by decide) rfl rfl rfl (by omega) (fun hrm503 m503 hm503 => ?_)
    have hJ504 := w44_9 hJ hm503 (by omega) hf39 hg4
    have em503 : m503 4 44 9 = 1 := by rw [hm503]; exact z_upd_same _ _ _ _ _
    have wmm503_8 : m503 4 44 8 = m 4 44 8 := by rw [hm503]; exact z_upd_o _ _ rfl
    have wmm503_10 : m503 4 44 10 = m 4 44 10 := by rw [hm503]; exact z_upd_o _ _ rfl
    refine X.aload_n 14 i268_13 rfl rfl rfl ?_
    refine X.iload_n 15 i268_14 rfl rfl rfl ?_
    refine X.putI' 18 6 i268_15 rfl rfl (by decide) rfl rfl rfl (fun hrm505 m505 hm505 => ?_)
    have hJ506 := w44_6 hJ504 hm505 (by omega) hrm505 hf36 hg4
    have wmm505_8 : m505 4 44 8 = m503 4 44 8 := by rw [hm505]; exact z_upd_o _ _ rfl
    have wmm505_9 : m505 4 44 9 = m503 4 44 9 := by rw [hm505]; exact z_upd_o _ _ rfl
    have wmm505_10 : m505 4 44 10 = m503 4 44 10 := by rw [hm505]; exact z_upd_o _ _ rfl
    refine X.aload_n 19 i268_18 rfl rfl rfl ?_
    refine X.iload_n 20 i268_19 rfl rfl rfl ?_
    refine X.putI' 23 7 i268_20 rfl rfl (by decide) rfl rfl rfl (fun hrm507 m507 hm507 => ?_)
    have hJ508 := w44_6 hJ506 hm507 (by omega) hrm507 hf36 hg4
    have wmm507_8 : m507 4 44 8 = m505 4 44 8 := by rw [hm507]; exact z_upd_o _ _ rfl
    have wmm507_9 : m507 4 44 9 = m505 4 44 9 := by rw [hm507]; exact z_upd_o _ _ rfl
    have wmm507_10 : m507 4 44 10 = m505 4 44 10 := by rw [hm507]; exact z_upd_o _ _ rfl
    refine X.retv i268_23 rfl t268 ?_
    exact hQ  m507  (Eq.trans (if_pos h502) (Eq.trans (zs_eq hm503) (Eq.trans (zs_eq hm505) (Eq.trans (zs_eq hm507) rfl)))) (hJ508.up (by omega)) (by omega) (by omega) (by omega)
  · refine X.retv i268_7 rfl t268 ?_
    exact hQ  m  (Eq.trans (if_neg h502) rfl) (hJ.up (by omega)) (by omega) (by omega) (by omega)
-- WorkMeterModel.wrong
theorem c268_2 {s : Nat × (Nat → Int32)} {S : zS} {m0 m : zM} {B : Int} {d : Nat} {Q : Option zV → zM → Prop} (a1 a2 : Int) (hd : 13 ≤ d) (hJ : J S m0 B m) (hB : B + 0 ≤ 1000000000) (ha1 : 1 ≤ a1 ∧ a1 ≤ 1) (ha2 : 0 ≤ a2 ∧ a2 ≤ 300) (hf36 : ¬ S.1 36) (hf39 : ¬ S.1 39) (hg4 : ¬ S.2.1 4) (hQ : ∀ m', f268_1 a1 a2 m = m' → J S m0 (B) m' → (m' 4 44 9 = 1) → (m 4 44 8 ≤ m' 4 44 8) → (m 4 44 9 ≤ m' 4 44 9) → Q none m') : X (EE s) d 268 0 [(0, zr 4 44), (1, zi a1), (2, zi a2)] [] m Q := by
  refine X.aload_n 1 i268_0 rfl rfl rfl ?_
  refine X.getZ 4 9 i268_1 rfl rfl (by decide) rfl rfl rfl (fun h501 => ?_)
  refine X.ifeq 8 7 i268_4 rfl rfl rfl (fun h502 => ?_) (fun h502 => ?_)
  · refine X.aload_n 9 i268_8 rfl rfl rfl ?_
    refine X.iconst 10 i268_9 rfl rfl (by decide) ?_
    refine X.putZ' 13 9 i268_10 rfl rfl (by decide) rfl rfl rfl (by omega) (fun hrm503 m503 hm503 => ?_)
    have hJ504 := w44_9 hJ hm503 (by omega) hf39 hg4
    have em503 : m503 4 44 9 = 1 := by rw [hm503]; exact z_upd_same _ _ _ _ _
    have wmm503_8 : m503 4 44 8 = m 4 44 8 := by rw [hm503]; exact z_upd_o _ _ rfl
    have wmm503_10 : m503 4 44 10 = m 4 44 10 := by rw [hm503]; exact z_upd_o _ _ rfl
    refine X.aload_n 14 i268_13 rfl rfl rfl ?_
    refine X.iload_n 15 i268_14 rfl rfl rfl ?_
    refine X.putI' 18 6 i268_15 rfl rfl (by decide) rfl rfl rfl (fun hrm505 m505 hm505 => ?_)
    have hJ506 := w44_6 hJ504 hm505 (by omega) hrm505 hf36 hg4
    have wmm505_8 : m505 4 44 8 = m503 4 44 8 := by rw [hm505]; exact z_upd_o _ _ rfl
    have wmm505_9 : m505 4 44 9 = m503 4 44 9 := by rw [hm505]; exact z_upd_o _ _ rfl
    have wmm505_10 : m505 4 44 10 = m503 4 44 10 := by rw [hm505]; exact z_upd_o _ _ rfl
    refine X.aload_n 19 i268_18 rfl rfl rfl ?_
    refine X.iload_n 20 i268_19 rfl rfl rfl ?_
    refine X.putI' 23 7 i268_20 rfl rfl (by decide) rfl rfl rfl (fun hrm507 m507 hm507 => ?_)
    have hJ508 := w44_6 hJ506 hm507 (by omega) hrm507 hf36 hg4
    have wmm507_8 : m507 4 44 8 = m505 4 44 8 := by rw [hm507]; exact z_upd_o _ _ rfl
    have wmm507_9 : m507 4 44 9 = m505 4 44 9 := by rw [hm507]; exact z_upd_o _ _ rfl
    have wmm507_10 : m507 4 44 10 = m505 4 44 10 := by rw [hm507]; exact z_upd_o _ _ rfl
    refine X.retv i268_23 rfl t268 ?_
    exact hQ  m507  (Eq.trans (if_pos h502) (Eq.trans (zs_eq hm503) (Eq.trans (zs_eq hm505) (Eq.trans (zs_eq hm507) rfl)))) (hJ508.up (by omega)) (by omega) (by omega) (by omega)
  · refine X.retv i268_7 rfl t268 ?_
    exact hQ  m  (Eq.trans (if_neg h502) rfl) (hJ.up (by omega)) (by omega) (by omega) (by omega)
-- WorkMeterModel.number
noncomputable def f270_1 (a1 a2 : Int) (m : zM) : Int × zM :=
  if (m 4 44 9) = 0 then
  (zs (f263_1 m) fun m503 =>
  zs (z_upd m503 4 44 10 (m503 4 44 8)) fun m507 =>
  fl270_23_1 (fun y509 m510 =>
  if (m510 4 44 8) = (m510 4 44 10) then
  (zs (f268_1 1 (m510 4 44 8) m510) fun m531 =>
  if (m531 4 44 9) = 0 then
  ((y509, m531))
  else
  ((0, m531)))
  else
  (if y509 ≤ a2 then
  (if (m510 4 44 9) = 0 then
  ((y509, m510))
  else
  ((0, m510)))
  else
  (zs (f268_1 2 (m510 4 44 10) m510) fun m523 =>
  if (m523 4 44 9) = 0 then
  ((y509, m523))
  else
  ((0, m523))))) a1 a2 (zfu 301) 0 m507)
  else
  ((0, m))
-- WorkMeterModel.number
theorem c270_1 {s : Nat × (Nat → Int32)} {S : zS} {m0 m : zM} {B : Int} {d : Nat} {Q : Option zV → zM → Prop} (a1 a2 : Int) (hd : 14 ≤ d) (hJ : J S m0 B m) (hB : B + 0 ≤ 1000000000) (ha1 : 0 ≤ a1 ∧ a1 ≤ 0) (ha2 : 0 ≤ a2 ∧ a2 ≤ 1000) (hf36 : ¬ S.1 36) (hf39 : ¬ S.1 39) (hg4 : ¬ S.2.1 4) (hQ : ∀ (v : Int) m', (0 ≤ v ∧ v ≤ 1000009) → f270_1 a1 a2 m = (v, m') → J S m0 (B) m' → (v ≤ a2) → (m' 4 44 9 = 1 ∨ m 4 44 8 < m' 4 44 8) → (m 4 44 8 ≤ m' 4 44 8) → (m 4 44 9 ≤ m' 4 44 9) → Q (some (zi v)) m') : X (EE s) d 270 0 [(0, zr 4 44), (1, zi a1), (2, zi a2)] [] m Q := by
  refine X.aload_n 1 i270_0 rfl rfl rfl ?_
  refine X.getZ 4 9 i270_1 rfl rfl (by decide) rfl rfl rfl (fun h501 => ?_)
  refine X.ifeq 9 7 i270_4 rfl rfl rfl (fun h502 => ?_) (fun h502 => ?_)
  · refine X.aload_n 10 i270_9 rfl rfl rfl ?_
    refine X.callv 13 [] [] [(0, zr 4 44)] i270_10 rfl (by decide) rfl rfl (by omega) rfl rfl (by decide) rfl t263 (Nat.le_of_ble_eq_true rfl) (Nat.le_of_ble_eq_true rfl) rfl ?_
    refine c263_1 (B := B)   (by omega) (hJ.up (by omega)) (by omega)  hf39 hg4 (fun m503 hFv505 hJ504 hqv505_0 hqv505_1 => ?_)
    show X (EE s) d 270 13 [(0, zr 4 44), (1, zi a1), (2, zi a2)] [] m503 _
    refine X.aload_n 14 i270_13 rfl rfl rfl ?_
    refine X.aload_n 15 i270_14 rfl rfl rfl ?_
    refine X.getI 18 8 i270_15 rfl rfl (by decide) rfl rfl rfl ?_
    have h506 := r44_8 hJ504 4
    refine X.putI' 21 10 i270_18 rfl rfl (by decide) rfl rfl rfl (fun hrm507 m507 hm507 => ?_)
    have hJ508 := w44_10 hJ504 hm507 (by omega) hrm507 hf39 hg4
    have em507 : m507 4 44 10 = (m503 4 44 8) := by rw [hm507]; exact z_upd_same _ _ _ _ _
    have wmm507_8 : m507 4 44 8 = m503 4 44 8 := by rw [hm507]; exact z_upd_o _ _ rfl
    have wmm507_9 : m507 4 44 9 = m503 4 44 9 := by rw [hm507]; exact z_upd_o _ _ rfl
    refine X.iconst 22 i270_21 rfl rfl (by decide) ?_
    refine X.istore_n 23 [(0, zr 4 44), (1, zi a1), (2, zi a2), (3, zi 0)] i270_22 rfl rfl rfl ?_
    have hz301 := zfu_eq 301
    have zf514 := r44_8 hJ508 4
    refine l270_23_1 (s := s) (d := d) (R0 := (f270_1 a1 a2 m))  a1 a2 (m507 4 44 8) (m507 4 44 9) (BE := B + 0) (by omega) (by omega) (by omega) (by omega) hf39 hg4 (fun y509 m510 B511 hJ512 hBB511 hby509 hrlm510_0 hrlm510_1 hrlm510_2 hrlm510_3 hR513 => ?_) (zfu 301) 0 m507 (B) (hJ508.up (by omega)) (by omega) (by omega) (by omega) (by omega) (by omega) (by omega) (by omega) (Eq.trans (if_pos h502) (Eq.trans (zs_eq hFv505.symm) (Eq.trans (zs_eq hm507) rfl)))
    refine X.aload_n 98 i270_97 rfl rfl rfl ?_
    refine X.getI 101 8 i270_98 rfl rfl (by decide) rfl rfl rfl ?_
    have h515 := r44_8 hJ512 4
    refine X.aload_n 102 i270_101 rfl rfl rfl ?_
    refine X.getIr 105 10 i270_102 rfl rfl (by decide) rfl rfl rfl (fun h516 => ?_)
    refine X.icmpne 120 108 i270_105 rfl rfl rfl (fun h517 => ?_) (fun h517 => ?_)
    · refine X.iload_n 121 i270_120 rfl rfl rfl ?_
      refine X.i2l 122 i270_121 rfl rfl ?_
      refine X.iload_n 123 i270_122 rfl rfl rfl ?_
      refine X.i2l 124 i270_123 rfl rfl ?_
      refine X.iload_n 125 i270_124 rfl rfl rfl ?_
      refine X.i2l 126 i270_125 rfl rfl ?_
      refine X.calls 129 [zl y509, zl a1, zl a2] [] [(0, zl y509), (2, zl a1), (4, zl a2)] i270_126 (by decide) rfl rfl (by omega) rfl rfl t204 (Nat.le_of_ble_eq_true rfl) (Nat.le_of_ble_eq_true rfl) rfl ?_
      refine X.lload_n 1 i204_0 rfl rfl rfl ?_
      refine X.lload_n 2 i204_1 rfl rfl rfl ?_
      refine X.lcmp 3 i204_2 rfl rfl (fun z518 hz518 => ?_)
      refine X.iflt 17 6 i204_3 rfl rfl rfl (fun h519 => (by exfalso; omega)) (fun h519 => ?_)
      have h519c : ¬ y509 < a1 := by omega
      clear h519 hz518
      refine X.lload_n 7 i204_6 rfl rfl rfl ?_
      refine X.lload 9 i204_7 rfl rfl rfl ?_
      refine X.lcmp 10 i204_9 rfl rfl (fun z520 hz520 => ?_)
      refine X.ifgt 17 13 i204_10 rfl rfl rfl (fun h521 => ?_) (fun h521 => ?_)
      · have h521c : ¬ y509 ≤ a2 := by omega
        clear h521 hz520
        refine X.cut [] i204_17 rfl ?_
        refine X.iconst 18 i204_17 rfl rfl (by decide) ?_
        refine X.retz i204_18 rfl t204 (by omega) ?_
        show X (EE s) d 270 129 [(0, zr 4 44), (1, zi a1), (2, zi a2), (3, zi y509)] [zi 0] m510 _
        refine X.ifne 141 132 i270_129 rfl rfl rfl (fun h522 => (by exfalso; omega)) (fun h522 => ?_)
        refine X.aload_n 133 i270_132 rfl rfl rfl ?_
        refine X.iconst 134 i270_133 rfl rfl (by decide) ?_
        refine X.aload_n 135 i270_134 rfl rfl rfl ?_
        refine X.getI 138 10 i270_135 rfl rfl (by decide) rfl rfl rfl ?_
        refine X.callv 141 [zi 2, zi (m510 4 44 10)] [] [(0, zr 4 44), (1, zi 2), (2, zi (m510 4 44 10))] i270_138 rfl (by decide) rfl rfl (by omega) rfl rfl (by decide) rfl t268 (Nat.le_of_ble_eq_true rfl) (Nat.le_of_ble_eq_true rfl) rfl ?_
        refine c268_1 (B := B511)  2 (m510 4 44 10) (by omega) (hJ512.up (by omega)) (by omega) (by omega) (by omega) hf36 hf39 hg4 (fun m523 hFv525 hJ524 hqv525_0 hqv525_1 hqv525_2 => ?_)
        show X (EE s) d 270 141 [(0, zr 4 44), (1, zi a1), (2, zi a2), (3, zi y509)] [] m523 _
        refine X.cut [(0, zr 4 44), (3, zi y509)] i270_141 rfl ?_
        refine X.aload_n 142 i270_141 rfl rfl rfl ?_
        refine X.getZ 145 9 i270_142 rfl rfl (by decide) rfl rfl rfl (fun h526 => ?_)
        refine X.ifeq 152 148 i270_145 rfl rfl rfl (fun h527 => ?_) (fun h527 => ?_)
        · refine X.cut [(3, zi y509)] i270_152 rfl ?_
          refine X.iload_n 153 i270_152 rfl rfl rfl ?_
          refine X.cut [] i270_153 rfl ?_
          refine X.reti i270_153 rfl t270 ?_
          exact hQ y509 m523 (by first | trivial | omega) (Eq.trans hR513 (Eq.trans (if_neg h517) (Eq.trans (if_neg h521c) (Eq.trans (zs_eq hFv525.symm) (Eq.trans (if_pos h527) rfl))))) (hJ524.up (by omega)) (by omega) (by omega) (by omega) (by omega)
        · refine X.iconst 149 i270_148 rfl rfl (by decide) ?_
          refine X.goto 153 i270_149 rfl rfl ?_
          refine X.cut [] i270_153 rfl ?_
          refine X.reti i270_153 rfl t270 ?_
          exact hQ 0 m523 (by first | trivial | omega) (Eq.trans hR513 (Eq.trans (if_neg h517) (Eq.trans (if_neg h521c) (Eq.trans (zs_eq hFv525.symm) (Eq.trans (if_neg h527) rfl))))) (hJ524.up (by omega)) (by omega) (by omega) (by omega) (by omega)
      · have h521c : y509 ≤ a2 := by omega
        clear h521 hz520
        refine X.iconst 14 i204_13 rfl rfl (by decide) ?_
        refine X.goto 18 i204_14 rfl rfl ?_
        refine X.cut [] i204_18 rfl ?_
        refine X.retz i204_18 rfl t204 (by omega) ?_
        show X (EE s) d 270 129 [(0, zr 4 44), (1, zi a1), (2, zi a2), (3, zi y509)] [zi 1] m510 _
        refine X.ifne 141 132 i270_129 rfl rfl rfl (fun h528 => ?_) (fun h528 => (by exfalso; omega))
        refine X.cut [(0, zr 4 44), (3, zi y509)] i270_141 rfl ?_
        refine X.aload_n 142 i270_141 rfl rfl rfl ?_
        refine X.getZ 145 9 i270_142 rfl rfl (by decide) rfl rfl rfl (fun h529 => ?_)
        refine X.ifeq 152 148 i270_145 rfl rfl rfl (fun h530 => ?_) (fun h530 => ?_)
        · refine X.cut [(3, zi y509)] i270_152 rfl ?_
          refine X.iload_n 153 i270_152 rfl rfl rfl ?_
          refine X.cut [] i270_153 rfl ?_
          refine X.reti i270_153 rfl t270 ?_
          exact hQ y509 m510 (by first | trivial | omega) (Eq.trans hR513 (Eq.trans (if_neg h517) (Eq.trans (if_pos h521c) (Eq.trans (if_pos h530) rfl)))) (hJ512.up (by omega)) (by omega) (by omega) (by omega) (by omega)
        · refine X.iconst 149 i270_148 rfl rfl (by decide) ?_
          refine X.goto 153 i270_149 rfl rfl ?_
          refine X.cut [] i270_153 rfl ?_
          refine X.reti i270_153 rfl t270 ?_
          exact hQ 0 m510 (by first | trivial | omega) (Eq.trans hR513 (Eq.trans (if_neg h517) (Eq.trans (if_pos h521c) (Eq.trans (if_neg h530) rfl)))) (hJ512.up (by omega)) (by omega) (by omega) (by omega) (by omega)
    · refine X.aload_n 109 i270_108 rfl rfl rfl ?_
      refine X.iconst 110 i270_109 rfl rfl (by decide) ?_
      refine X.aload_n 111 i270_110 rfl rfl rfl ?_
      refine X.getI 114 8 i270_111 rfl rfl (by decide) rfl rfl rfl ?_
      refine X.callv 117 [zi 1, zi (m510 4 44 8)] [] [(0, zr 4 44), (1, zi 1), (2, zi (m510 4 44 8))] i270_114 rfl (by decide) rfl rfl (by omega) rfl rfl (by decide) rfl t268 (Nat.le_of_ble_eq_true rfl) (Nat.le_of_ble_eq_true rfl) rfl ?_
      refine c268_2 (B := B511)  1 (m510 4 44 8) (by omega) (hJ512.up (by omega)) (by omega) (by omega) (by omega) hf36 hf39 hg4 (fun m531 hFv533 hJ532 hqv533_0 hqv533_1 hqv533_2 => ?_)
      show X (EE s) d 270 117 [(0, zr 4 44), (1, zi a1), (2, zi a2), (3, zi y509)] [] m531 _
      refine X.goto 141 i270_117 rfl rfl ?_
      refine X.cut [(0, zr 4 44), (3, zi y509)] i270_141 rfl ?_
      refine X.aload_n 142 i270_141 rfl rfl rfl ?_
      refine X.getZ 145 9 i270_142 rfl rfl (by decide) rfl rfl rfl (fun h534 => ?_)
      refine X.ifeq 152 148 i270_145 rfl rfl rfl (fun h535 => ?_) (fun h535 => ?_)
      · refine X.cut [(3, zi y509)] i270_152 rfl ?_
        refine X.iload_n 153 i270_152 rfl rfl rfl ?_
        refine X.cut [] i270_153 rfl ?_
        refine X.reti i270_153 rfl t270 ?_
        exact hQ y509 m531 (by first | trivial | omega) (Eq.trans hR513 (Eq.trans (if_pos h517) (Eq.trans (zs_eq hFv533.symm) (Eq.trans (if_pos h535) rfl)))) (hJ532.up (by omega)) (by omega) (by omega) (by omega) (by omega)
      · refine X.iconst 149 i270_148 rfl rfl (by decide) ?_
        refine X.goto 153 i270_149 rfl rfl ?_
        refine X.cut [] i270_153 rfl ?_
        refine X.reti i270_153 rfl t270 ?_
        exact hQ 0 m531 (by first | trivial | omega) (Eq.trans hR513 (Eq.trans (if_pos h517) (Eq.trans (zs_eq hFv533.symm) (Eq.trans (if_neg h535) rfl)))) (hJ532.up (by omega)) (by omega) (by omega) (by omega) (by omega)
  · refine X.iconst 8 i270_7 rfl rfl (by decide) ?_
    refine X.reti i270_8 rfl t270 ?_
    exact hQ 0 m (by first | trivial | omega) (Eq.trans (if_neg h502) rfl) (hJ.up (by omega)) (by omega) (by omega) (by omega) (by omega)
-- WorkMeterModel.wrong
theorem c268_3 {s : Nat × (Nat → Int32)} {S : zS} {m0 m : zM} {B : Int} {d : Nat} {Q : Option zV → zM → Prop} (a1 a2 : Int) (hd : 13 ≤ d) (hJ : J S m0 B m) (hB : B + 0 ≤ 1000000000) (ha1 : 3 ≤ a1 ∧ a1 ≤ 3) (ha2 : (-2147483648) ≤ a2 ∧ a2 ≤ 2147483647) (hf36 : ¬ S.1 36) (hf39 : ¬ S.1 39) (hg4 : ¬ S.2.1 4) (hQ : ∀ m', f268_1 a1 a2 m = m' → J S m0 (B) m' → (m' 4 44 9 = 1) → (m 4 44 8 ≤ m' 4 44 8) → (m 4 44 9 ≤ m' 4 44 9) → Q none m') : X (EE s) d 268 0 [(0, zr 4 44), (1, zi a1), (2, zi a2)] [] m Q := by
  refine X.aload_n 1 i268_0 rfl rfl rfl ?_
  refine X.getZ 4 9 i268_1 rfl rfl (by decide) rfl rfl rfl (fun h501 => ?_)
  refine X.ifeq 8 7 i268_4 rfl rfl rfl (fun h502 => ?_) (fun h502 => ?_)
  · refine X.aload_n 9 i268_8 rfl rfl rfl ?_
    refine X.iconst 10 i268_9 rfl rfl (by decide) ?_
    refine X.putZ' 13 9 i268_10 rfl rfl (by decide) rfl rfl rfl (by omega) (fun hrm503 m503 hm503 => ?_)
    have hJ504 := w44_9 hJ hm503 (by omega) hf39 hg4
    have em503 : m503 4 44 9 = 1 := by rw [hm503]; exact z_upd_same _ _ _ _ _
    have wmm503_8 : m503 4 44 8 = m 4 44 8 := by rw [hm503]; exact z_upd_o _ _ rfl
    have wmm503_10 : m503 4 44 10 = m 4 44 10 := by rw [hm503]; exact z_upd_o _ _ rfl
    refine X.aload_n 14 i268_13 rfl rfl rfl ?_
    refine X.iload_n 15 i268_14 rfl rfl rfl ?_
    refine X.putI' 18 6 i268_15 rfl rfl (by decide) rfl rfl rfl (fun hrm505 m505 hm505 => ?_)
    have hJ506 := w44_6 hJ504 hm505 (by omega) hrm505 hf36 hg4
    have wmm505_8 : m505 4 44 8 = m503 4 44 8 := by rw [hm505]; exact z_upd_o _ _ rfl
    have wmm505_9 : m505 4 44 9 = m503 4 44 9 := by rw [hm505]; exact z_upd_o _ _ rfl
    have wmm505_10 : m505 4 44 10 = m503 4 44 10 := by rw [hm505]; exact z_upd_o _ _ rfl
    refine X.aload_n 19 i268_18 rfl rfl rfl ?_
    refine X.iload_n 20 i268_19 rfl rfl rfl ?_
    refine X.putI' 23 7 i268_20 rfl rfl (by decide) rfl rfl rfl (fun hrm507 m507 hm507 => ?_)
    have hJ508 := w44_6 hJ506 hm507 (by omega) hrm507 hf36 hg4
    have wmm507_8 : m507 4 44 8 = m505 4 44 8 := by rw [hm507]; exact z_upd_o _ _ rfl
    have wmm507_9 : m507 4 44 9 = m505 4 44 9 := by rw [hm507]; exact z_upd_o _ _ rfl
    have wmm507_10 : m507 4 44 10 = m505 4 44 10 := by rw [hm507]; exact z_upd_o _ _ rfl
    refine X.retv i268_23 rfl t268 ?_
    exact hQ  m507  (Eq.trans (if_pos h502) (Eq.trans (zs_eq hm503) (Eq.trans (zs_eq hm505) (Eq.trans (zs_eq hm507) rfl)))) (hJ508.up (by omega)) (by omega) (by omega) (by omega)
  · refine X.retv i268_7 rfl t268 ?_
    exact hQ  m  (Eq.trans (if_neg h502) rfl) (hJ.up (by omega)) (by omega) (by omega) (by omega)
-- WorkMeterModel.specialLine
noncomputable def f275_1 (m : zM) : zM :=
  zb (f270_1 0 364 m) fun v503 m501 =>
  if (m501 4 44 9) = 0 then
  (if (m501 4 45 (423 + v503)) = (-1) then
  (zb (f270_1 0 7 m501) fun v516 m514 =>
  zs (z_upd m514 4 45 (423 + v503) v516) fun m517 =>
  m517)
  else
  (zs (f268_1 3 (m501 4 44 10) m501) fun m520 =>
  zb (f270_1 0 7 m520) fun v525 m523 =>
  zs (z_upd m523 4 45 (423 + v503) v525) fun m526 =>
  m526))
  else
  (zb (f270_1 0 7 m501) fun v508 m506 =>
  zs (z_upd m506 4 45 (423 + v503) v508) fun m509 =>
  m509)
-- WorkMeterModel.specialLine
theorem c275_1 {s : Nat × (Nat → Int32)} {S : zS} {m0 m : zM} {B : Int} {d : Nat} {Q : Option zV → zM → Prop} (hd : 15 ≤ d) (hJ : J S m0 B m) (hB : B + 0 ≤ 1000000000) (hf21 : ¬ S.1 21) (hf36 : ¬ S.1 36) (hf39 : ¬ S.1 39) (hg4 : ¬ S.2.1 4) (hQ : ∀ m', f275_1 m = m' → J S m0 (B) m' → (m 4 44 8 ≤ m' 4 44 8) → (m 4 44 9 ≤ m' 4 44 9) → Q none m') : X (EE s) d 275 0 [(0, zr 4 44)] [] m Q := by
  refine X.aload_n 1 i275_0 rfl rfl rfl ?_
  refine X.iconst 2 i275_1 rfl rfl (by decide) ?_
  refine X.sipush 5 i275_2 rfl rfl (by decide) ?_
  refine X.callv 8 [zi 0, zi 364] [] [(0, zr 4 44), (1, zi 0), (2, zi 364)] i275_5 rfl (by decide) rfl rfl (by omega) rfl rfl (by decide) rfl t270 (Nat.le_of_ble_eq_true rfl) (Nat.le_of_ble_eq_true rfl) rfl ?_
  refine c270_1 (B := B)  0 364 (by omega) (hJ.up (by omega)) (by omega) (by omega) (by omega) hf36 hf39 hg4 (fun v503 m501 hv503 hFv503 hJ502 hqv503_0 hqv503_1 hqv503_2 hqv503_3 => ?_)
  show X (EE s) d 275 8 [(0, zr 4 44)] [zi v503] m501 _
  refine X.istore_n 9 [(0, zr 4 44), (1, zi v503)] i275_8 rfl rfl rfl ?_
  refine X.aload_n 10 i275_9 rfl rfl rfl ?_
  refine X.getZ 13 9 i275_10 rfl rfl (by decide) rfl rfl rfl (fun h504 => ?_)
  refine X.ifne 42 16 i275_13 rfl rfl rfl (fun h505 => ?_) (fun h505 => ?_)
  · refine X.aload_n 43 i275_42 rfl rfl rfl ?_
    refine X.getF 46 i275_43 rfl rfl (by decide) rfl rfl ?_
    refine X.sipush 49 i275_46 rfl rfl (by decide) ?_
    refine X.iload_n 50 i275_49 rfl rfl rfl ?_
    refine X.iadd 51 i275_50 rfl rfl (by omega) ?_
    refine X.aload_n 52 i275_51 rfl rfl rfl ?_
    refine X.iconst 53 i275_52 rfl rfl (by decide) ?_
    refine X.bipush 55 i275_53 rfl rfl (by decide) ?_
    refine X.callv 58 [zi 0, zi 7] [zi (423 + v503), zr 4 45] [(0, zr 4 44), (1, zi 0), (2, zi 7)] i275_55 rfl (by decide) rfl rfl (by omega) rfl rfl (by decide) rfl t270 (Nat.le_of_ble_eq_true rfl) (Nat.le_of_ble_eq_true rfl) rfl ?_
    refine c270_1 (B := B)  0 7 (by omega) (hJ502.up (by omega)) (by omega) (by omega) (by omega) hf36 hf39 hg4 (fun v508 m506 hv508 hFv508 hJ507 hqv508_0 hqv508_1 hqv508_2 hqv508_3 => ?_)
    show X (EE s) d 275 58 [(0, zr 4 44), (1, zi v503)] [zi v508, zi (423 + v503), zr 4 45] m506 _
    refine X.i2l 59 i275_58 rfl rfl ?_
    refine X.last' 60 i275_59 rfl rfl (by decide) rfl (by omega) (fun hrm509 m509 hm509 => ?_)
    have hJ510 := w45_423 hJ507 hm509 (by omega) (by omega) hf21 hg4
    have wmm509_8 : m509 4 44 8 = m506 4 44 8 := by rw [hm509]; exact z_upd_o _ _ rfl
    have wmm509_9 : m509 4 44 9 = m506 4 44 9 := by rw [hm509]; exact z_upd_o _ _ rfl
    have wmm509_10 : m509 4 44 10 = m506 4 44 10 := by rw [hm509]; exact z_upd_o _ _ rfl
    refine X.retv i275_60 rfl t275 ?_
    exact hQ  m509  (Eq.trans (zb_eq hFv503) (Eq.trans (if_neg h505) (Eq.trans (zb_eq hFv508) (Eq.trans (zs_eq hm509) rfl)))) (hJ510.up (by omega)) (by omega) (by omega)
  · refine X.aload_n 17 i275_16 rfl rfl rfl ?_
    refine X.getF 20 i275_17 rfl rfl (by decide) rfl rfl ?_
    refine X.sipush 23 i275_20 rfl rfl (by decide) ?_
    refine X.iload_n 24 i275_23 rfl rfl rfl ?_
    refine X.iadd 25 i275_24 rfl rfl (by omega) ?_
    refine X.lald 26 i275_25 rfl rfl (by decide) rfl (by omega) ?_
    have h511 := r45_423 hJ502 4 (i := (423 + v503)) (by omega)
    refine X.ldc2 29 i275_26 rfl rfl (by decide) ?_
    refine X.lcmp 30 i275_29 rfl rfl (fun z512 hz512 => ?_)
    refine X.ifeq 42 33 i275_30 rfl rfl rfl (fun h513 => ?_) (fun h513 => ?_)
    · have h513c : (m501 4 45 (423 + v503)) = (-1) := by omega
      clear h513 hz512
      refine X.aload_n 43 i275_42 rfl rfl rfl ?_
      refine X.getF 46 i275_43 rfl rfl (by decide) rfl rfl ?_
      refine X.sipush 49 i275_46 rfl rfl (by decide) ?_
      refine X.iload_n 50 i275_49 rfl rfl rfl ?_
      refine X.iadd 51 i275_50 rfl rfl (by omega) ?_
      refine X.aload_n 52 i275_51 rfl rfl rfl ?_
      refine X.iconst 53 i275_52 rfl rfl (by decide) ?_
      refine X.bipush 55 i275_53 rfl rfl (by decide) ?_
      refine X.callv 58 [zi 0, zi 7] [zi (423 + v503), zr 4 45] [(0, zr 4 44), (1, zi 0), (2, zi 7)] i275_55 rfl (by decide) rfl rfl (by omega) rfl rfl (by decide) rfl t270 (Nat.le_of_ble_eq_true rfl) (Nat.le_of_ble_eq_true rfl) rfl ?_
      refine c270_1 (B := B)  0 7 (by omega) (hJ502.up (by omega)) (by omega) (by omega) (by omega) hf36 hf39 hg4 (fun v516 m514 hv516 hFv516 hJ515 hqv516_0 hqv516_1 hqv516_2 hqv516_3 => ?_)
      show X (EE s) d 275 58 [(0, zr 4 44), (1, zi v503)] [zi v516, zi (423 + v503), zr 4 45] m514 _
      refine X.i2l 59 i275_58 rfl rfl ?_
      refine X.last' 60 i275_59 rfl rfl (by decide) rfl (by omega) (fun hrm517 m517 hm517 => ?_)
      have hJ518 := w45_423 hJ515 hm517 (by omega) (by omega) hf21 hg4
      have wmm517_8 : m517 4 44 8 = m514 4 44 8 := by rw [hm517]; exact z_upd_o _ _ rfl
      have wmm517_9 : m517 4 44 9 = m514 4 44 9 := by rw [hm517]; exact z_upd_o _ _ rfl
      have wmm517_10 : m517 4 44 10 = m514 4 44 10 := by rw [hm517]; exact z_upd_o _ _ rfl
      refine X.retv i275_60 rfl t275 ?_
      exact hQ  m517  (Eq.trans (zb_eq hFv503) (Eq.trans (if_pos h505) (Eq.trans (if_pos h513c) (Eq.trans (zb_eq hFv516) (Eq.trans (zs_eq hm517) rfl))))) (hJ518.up (by omega)) (by omega) (by omega)
    · have h513c : ¬ (m501 4 45 (423 + v503)) = (-1) := by omega
      clear h513 hz512
      refine X.aload_n 34 i275_33 rfl rfl rfl ?_
      refine X.iconst 35 i275_34 rfl rfl (by decide) ?_
      refine X.aload_n 36 i275_35 rfl rfl rfl ?_
      refine X.getIr 39 10 i275_36 rfl rfl (by decide) rfl rfl rfl (fun h519 => ?_)
      refine X.callv 42 [zi 3, zi (m501 4 44 10)] [] [(0, zr 4 44), (1, zi 3), (2, zi (m501 4 44 10))] i275_39 rfl (by decide) rfl rfl (by omega) rfl rfl (by decide) rfl t268 (Nat.le_of_ble_eq_true rfl) (Nat.le_of_ble_eq_true rfl) rfl ?_
      refine c268_3 (B := B)  3 (m501 4 44 10) (by omega) (hJ502.up (by omega)) (by omega) (by omega) (by omega) hf36 hf39 hg4 (fun m520 hFv522 hJ521 hqv522_0 hqv522_1 hqv522_2 => ?_)
      show X (EE s) d 275 42 [(0, zr 4 44), (1, zi v503)] [] m520 _
      refine X.aload_n 43 i275_42 rfl rfl rfl ?_
      refine X.getF 46 i275_43 rfl rfl (by decide) rfl rfl ?_
      refine X.sipush 49 i275_46 rfl rfl (by decide) ?_
      refine X.iload_n 50 i275_49 rfl rfl rfl ?_
      refine X.iadd 51 i275_50 rfl rfl (by omega) ?_
      refine X.aload_n 52 i275_51 rfl rfl rfl ?_
      refine X.iconst 53 i275_52 rfl rfl (by decide) ?_
      refine X.bipush 55 i275_53 rfl rfl (by decide) ?_
      refine X.callv 58 [zi 0, zi 7] [zi (423 + v503), zr 4 45] [(0, zr 4 44), (1, zi 0), (2, zi 7)] i275_55 rfl (by decide) rfl rfl (by omega) rfl rfl (by decide) rfl t270 (Nat.le_of_ble_eq_true rfl) (Nat.le_of_ble_eq_true rfl) rfl ?_
      refine c270_1 (B := B)  0 7 (by omega) (hJ521.up (by omega)) (by omega) (by omega) (by omega) hf36 hf39 hg4 (fun v525 m523 hv525 hFv525 hJ524 hqv525_0 hqv525_1 hqv525_2 hqv525_3 => ?_)
      show X (EE s) d 275 58 [(0, zr 4 44), (1, zi v503)] [zi v525, zi (423 + v503), zr 4 45] m523 _
      refine X.i2l 59 i275_58 rfl rfl ?_
      refine X.last' 60 i275_59 rfl rfl (by decide) rfl (by omega) (fun hrm526 m526 hm526 => ?_)
      have hJ527 := w45_423 hJ524 hm526 (by omega) (by omega) hf21 hg4
      have wmm526_8 : m526 4 44 8 = m523 4 44 8 := by rw [hm526]; exact z_upd_o _ _ rfl
      have wmm526_9 : m526 4 44 9 = m523 4 44 9 := by rw [hm526]; exact z_upd_o _ _ rfl
      have wmm526_10 : m526 4 44 10 = m523 4 44 10 := by rw [hm526]; exact z_upd_o _ _ rfl
      refine X.retv i275_60 rfl t275 ?_
      exact hQ  m526  (Eq.trans (zb_eq hFv503) (Eq.trans (if_pos h505) (Eq.trans (if_neg h513c) (Eq.trans (zs_eq hFv522.symm) (Eq.trans (zb_eq hFv525) (Eq.trans (zs_eq hm526) rfl)))))) (hJ527.up (by omega)) (by omega) (by omega)
-- WorkMeterModel.must
noncomputable def f272_1 (a1 : Int) (m : zM) : zM :=
  zs (f263_1 m) fun m501 =>
  if (m501 4 44 5) ≤ (m501 4 44 8) then
  (zs (f268_1 1 (m501 4 44 8) m501) fun m507 =>
  m507)
  else
  (if (m501 4 48 (m501 4 44 8)) = a1 then
  (zs (z_upd m501 4 44 8 ((m501 4 44 8) + 1)) fun m515 =>
  m515)
  else
  (zs (f268_1 1 (m501 4 44 8) m501) fun m512 =>
  m512))
-- WorkMeterModel.must
theorem c272_1 {s : Nat × (Nat → Int32)} {S : zS} {m0 m : zM} {B : Int} {d : Nat} {Q : Option zV → zM → Prop} (a1 : Int) (hd : 14 ≤ d) (hJ : J S m0 B m) (hB : B + 0 ≤ 1000000000) (ha1 : 59 ≤ a1 ∧ a1 ≤ 59) (hf36 : ¬ S.1 36) (hf39 : ¬ S.1 39) (hg4 : ¬ S.2.1 4) (hQ : ∀ m', f272_1 a1 m = m' → J S m0 (B) m' → (m' 4 44 9 = 1 ∨ m 4 44 8 < m' 4 44 8) → (m 4 44 8 ≤ m' 4 44 8) → (m 4 44 9 ≤ m' 4 44 9) → Q none m') : X (EE s) d 272 0 [(0, zr 4 44), (1, zi a1)] [] m Q := by
  refine X.aload_n 1 i272_0 rfl rfl rfl ?_
  refine X.callv 4 [] [] [(0, zr 4 44)] i272_1 rfl (by decide) rfl rfl (by omega) rfl rfl (by decide) rfl t263 (Nat.le_of_ble_eq_true rfl) (Nat.le_of_ble_eq_true rfl) rfl ?_
  refine c263_1 (B := B)   (by omega) (hJ.up (by omega)) (by omega)  hf39 hg4 (fun m501 hFv503 hJ502 hqv503_0 hqv503_1 => ?_)
  show X (EE s) d 272 4 [(0, zr 4 44), (1, zi a1)] [] m501 _
  refine X.aload_n 5 i272_4 rfl rfl rfl ?_
  refine X.getI 8 8 i272_5 rfl rfl (by decide) rfl rfl rfl ?_
  have h504 := r44_8 hJ502 4
  refine X.aload_n 9 i272_8 rfl rfl rfl ?_
  refine X.getI 12 5 i272_9 rfl rfl (by decide) rfl rfl rfl ?_
  have h505 := r44_5 hJ502 4
  refine X.icmpge 41 15 i272_12 rfl rfl rfl (fun h506 => ?_) (fun h506 => ?_)
  · refine X.cut [(0, zr 4 44)] i272_41 rfl ?_
    refine X.aload_n 42 i272_41 rfl rfl rfl ?_
    refine X.iconst 43 i272_42 rfl rfl (by decide) ?_
    refine X.aload_n 44 i272_43 rfl rfl rfl ?_
    refine X.getI 47 8 i272_44 rfl rfl (by decide) rfl rfl rfl ?_
    refine X.callv 50 [zi 1, zi (m501 4 44 8)] [] [(0, zr 4 44), (1, zi 1), (2, zi (m501 4 44 8))] i272_47 rfl (by decide) rfl rfl (by omega) rfl rfl (by decide) rfl t268 (Nat.le_of_ble_eq_true rfl) (Nat.le_of_ble_eq_true rfl) rfl ?_
    refine c268_2 (B := B)  1 (m501 4 44 8) (by omega) (hJ502.up (by omega)) (by omega) (by omega) (by omega) hf36 hf39 hg4 (fun m507 hFv509 hJ508 hqv509_0 hqv509_1 hqv509_2 => ?_)
    show X (EE s) d 272 50 [(0, zr 4 44)] [] m507 _
    refine X.cut [] i272_50 rfl ?_
    refine X.retv i272_50 rfl t272 ?_
    exact hQ  m507  (Eq.trans (zs_eq hFv503.symm) (Eq.trans (if_pos h506) (Eq.trans (zs_eq hFv509.symm) rfl))) (hJ508.up (by omega)) (by omega) (by omega) (by omega)
  · refine X.aload_n 16 i272_15 rfl rfl rfl ?_
    refine X.getF 19 i272_16 rfl rfl (by decide) rfl rfl ?_
    refine X.aload_n 20 i272_19 rfl rfl rfl ?_
    refine X.getI 23 8 i272_20 rfl rfl (by decide) rfl rfl rfl ?_
    refine X.bald 24 i272_23 rfl rfl (by decide) rfl (by omega) (fun h510 => ?_)
    refine X.iload_n 25 i272_24 rfl rfl rfl ?_
    refine X.icmpne 41 28 i272_25 rfl rfl rfl (fun h511 => ?_) (fun h511 => ?_)
    · refine X.cut [(0, zr 4 44)] i272_41 rfl ?_
      refine X.aload_n 42 i272_41 rfl rfl rfl ?_
      refine X.iconst 43 i272_42 rfl rfl (by decide) ?_
      refine X.aload_n 44 i272_43 rfl rfl rfl ?_
      refine X.getI 47 8 i272_44 rfl rfl (by decide) rfl rfl rfl ?_
      refine X.callv 50 [zi 1, zi (m501 4 44 8)] [] [(0, zr 4 44), (1, zi 1), (2, zi (m501 4 44 8))] i272_47 rfl (by decide) rfl rfl (by omega) rfl rfl (by decide) rfl t268 (Nat.le_of_ble_eq_true rfl) (Nat.le_of_ble_eq_true rfl) rfl ?_
      refine c268_2 (B := B)  1 (m501 4 44 8) (by omega) (hJ502.up (by omega)) (by omega) (by omega) (by omega) hf36 hf39 hg4 (fun m512 hFv514 hJ513 hqv514_0 hqv514_1 hqv514_2 => ?_)
      show X (EE s) d 272 50 [(0, zr 4 44)] [] m512 _
      refine X.cut [] i272_50 rfl ?_
      refine X.retv i272_50 rfl t272 ?_
      exact hQ  m512  (Eq.trans (zs_eq hFv503.symm) (Eq.trans (if_neg h506) (Eq.trans (if_neg h511) (Eq.trans (zs_eq hFv514.symm) rfl)))) (hJ513.up (by omega)) (by omega) (by omega) (by omega)
    · refine X.aload_n 29 i272_28 rfl rfl rfl ?_
      refine X.dup 30 i272_29 rfl rfl rfl ?_
      refine X.getI 33 8 i272_30 rfl rfl (by decide) rfl rfl rfl ?_
      refine X.iconst 34 i272_33 rfl rfl (by decide) ?_
      refine X.iadd 35 i272_34 rfl rfl (by omega) ?_
      refine X.putI' 38 8 i272_35 rfl rfl (by decide) rfl rfl rfl (fun hrm515 m515 hm515 => ?_)
      have hJ516 := w44_8 hJ502 hm515 (by omega) hf39 hg4
      have em515 : m515 4 44 8 = ((m501 4 44 8) + 1) := by rw [hm515]; exact z_upd_same _ _ _ _ _
      have wmm515_9 : m515 4 44 9 = m501 4 44 9 := by rw [hm515]; exact z_upd_o _ _ rfl
      have wmm515_10 : m515 4 44 10 = m501 4 44 10 := by rw [hm515]; exact z_upd_o _ _ rfl
      refine X.goto 50 i272_38 rfl rfl ?_
      refine X.cut [] i272_50 rfl ?_
      refine X.retv i272_50 rfl t272 ?_
      exact hQ  m515  (Eq.trans (zs_eq hFv503.symm) (Eq.trans (if_neg h506) (Eq.trans (if_pos h511) (Eq.trans (zs_eq hm515) rfl)))) (hJ516.up (by omega)) (by omega) (by omega) (by omega)
noncomputable def fl274_60_1_b (self : Int → zM → zM) (k95 : zM → zM) (y1 : Int) (y2 : Int) (m : zM) : zM :=
  if 7 ≤ y2 then
  (k95 m)
  else
  (zb (f270_1 0 7 m) fun v510 m508 =>
  zs (z_upd m508 4 45 ((395 + (7 * y1)) + y2) v510) fun m511 =>
  self (y2 + 1) m511)
noncomputable def fl274_60_1 (k95 : zM → zM) (y1 : Int) : Nat → Int → zM → zM
  | 0 => fun y2 m => m
  | n + 1 => fl274_60_1_b (fl274_60_1 k95 y1 n) k95 y1
theorem l274_60_1 {s : Nat × (Nat → Int32)} {S : zS} {m0 : zM} {d : Nat} {Q : Option zV → zM → Prop} {R0 : zM} {k95 : zM → zM} (y1 : Int) (c8 c9 : Int) (BE : Int) (hE : BE ≤ 1000000000) (hd : 15 ≤ d) (hy1 : 0 ≤ y1 ∧ y1 ≤ 3) (hf21 : ¬ S.1 21) (hf36 : ¬ S.1 36) (hf39 : ¬ S.1 39) (hg4 : ¬ S.2.1 4)
    (K95 : ∀ (m' : zM) (B' : Int), J S m0 B' m' → B' ≤ BE → (c8 ≤ m' 4 44 8) → (c9 ≤ m' 4 44 9) → R0 = k95 m' → X (EE s) d 274 95 [] [] m' Q) :
    ∀ (n : Nat) (y2 : Int) (m : zM) (B : Int), J S m0 B m → B + 0 * (n : Int) ≤ BE → (0 ≤ y2 ∧ y2 ≤ 7) → (c8 ≤ m 4 44 8) → (c9 ≤ m 4 44 9) → 7 - y2 < (n : Int) → R0 = fl274_60_1 k95 y1 n y2 m → X (EE s) d 274 60 [(0, zr 4 44), (1, zi y1), (2, zi y2)] [] m Q := by
  intro n
  induction n with
  | zero =>
    intro y2 m B hJ hB hy2 hr0 hr1 hn hR
    exfalso
    omega
  | succ n ih =>
    intro y2 m B hJ hB hy2 hr0 hr1 hn hR
    replace hR : R0 = fl274_60_1_b (fl274_60_1 k95 y1 n) k95 y1 y2 m := hR
    refine X.iload_n 61 i274_60 rfl rfl rfl ?_
    refine X.bipush 63 i274_61 rfl rfl (by decide) ?_
    refine X.icmpge 95 66 i274_63 rfl rfl rfl (fun h507 => ?_) (fun h507 => ?_)
    · refine X.cut [] i274_95 rfl ?_
      exact K95  m (B) (hJ.up (by omega)) (by omega) (by omega) (by omega) (Eq.trans hR (Eq.trans (if_pos h507) rfl))
    · refine X.aload_n 67 i274_66 rfl rfl rfl ?_
      refine X.getF 70 i274_67 rfl rfl (by decide) rfl rfl ?_
      refine X.sipush 73 i274_70 rfl rfl (by decide) ?_
      refine X.bipush 75 i274_73 rfl rfl (by decide) ?_
      refine X.iload_n 76 i274_75 rfl rfl rfl ?_
      refine X.imul 77 i274_76 rfl rfl (by omega) ?_
      refine X.iadd 78 i274_77 rfl rfl (by omega) ?_
      refine X.iload_n 79 i274_78 rfl rfl rfl ?_
      refine X.iadd 80 i274_79 rfl rfl (by omega) ?_
      refine X.aload_n 81 i274_80 rfl rfl rfl ?_
      refine X.iconst 82 i274_81 rfl rfl (by decide) ?_
      refine X.bipush 84 i274_82 rfl rfl (by decide) ?_
      refine X.callv 87 [zi 0, zi 7] [zi ((395 + (7 * y1)) + y2), zr 4 45] [(0, zr 4 44), (1, zi 0), (2, zi 7)] i274_84 rfl (by decide) rfl rfl (by omega) rfl rfl (by decide) rfl t270 (Nat.le_of_ble_eq_true rfl) (Nat.le_of_ble_eq_true rfl) rfl ?_
      refine c270_1 (B := B)  0 7 (by omega) (hJ.up (by omega)) (by omega) (by omega) (by omega) hf36 hf39 hg4 (fun v510 m508 hv510 hFv510 hJ509 hqv510_0 hqv510_1 hqv510_2 hqv510_3 => ?_)
      show X (EE s) d 274 87 [(0, zr 4 44), (1, zi y1), (2, zi y2)] [zi v510, zi ((395 + (7 * y1)) + y2), zr 4 45] m508 _
      refine X.i2l 88 i274_87 rfl rfl ?_
      refine X.last' 89 i274_88 rfl rfl (by decide) rfl (by omega) (fun hrm511 m511 hm511 => ?_)
      have hJ512 := w45_395 hJ509 hm511 (by omega) (by omega) hf21 hg4
      have wmm511_8 : m511 4 44 8 = m508 4 44 8 := by rw [hm511]; exact z_upd_o _ _ rfl
      have wmm511_9 : m511 4 44 9 = m508 4 44 9 := by rw [hm511]; exact z_upd_o _ _ rfl
      have wmm511_10 : m511 4 44 10 = m508 4 44 10 := by rw [hm511]; exact z_upd_o _ _ rfl
      refine X.iinc 92 [(0, zr 4 44), (1, zi y1), (2, zi (y2 + 1))] i274_89 rfl rfl rfl (by omega) rfl ?_
      refine X.goto 60 i274_92 rfl rfl ?_
      exact ih (y2 + 1) m511 (B) (hJ512.up (by omega)) (by omega) (by omega) (by omega) (by omega) (by omega) (Eq.trans hR (Eq.trans (if_neg h507) (Eq.trans (zb_eq hFv510) (Eq.trans (zs_eq hm511) rfl))))
-- WorkMeterModel.seasonLine
noncomputable def f274_1 (m : zM) : zM :=
  zb (f270_1 0 3 m) fun v503 m501 =>
  if (m501 4 44 9) = 0 then
  (if (m501 4 50 v503) = 0 then
  (zs (z_upd m501 4 50 v503 1) fun m519 =>
  zb (f270_1 0 364 m519) fun v523 m521 =>
  zs (z_upd m521 4 45 (391 + v503) v523) fun m524 =>
  fl274_60_1 (fun m526 =>
  m526) v503 (zfu 8) 0 m524)
  else
  (zs (f268_1 3 (m501 4 44 10) m501) fun m531 =>
  zs (z_upd m531 4 50 v503 1) fun m534 =>
  zb (f270_1 0 364 m534) fun v538 m536 =>
  zs (z_upd m536 4 45 (391 + v503) v538) fun m539 =>
  fl274_60_1 (fun m541 =>
  m541) v503 (zfu 8) 0 m539))
  else
  (zs (z_upd m501 4 50 v503 1) fun m506 =>
  zb (f270_1 0 364 m506) fun v510 m508 =>
  zs (z_upd m508 4 45 (391 + v503) v510) fun m511 =>
  fl274_60_1 (fun m513 =>
  m513) v503 (zfu 8) 0 m511)
-- WorkMeterModel.seasonLine
theorem c274_1 {s : Nat × (Nat → Int32)} {S : zS} {m0 m : zM} {B : Int} {d : Nat} {Q : Option zV → zM → Prop} (hd : 15 ≤ d) (hJ : J S m0 B m) (hB : B + 0 ≤ 1000000000) (hf21 : ¬ S.1 21) (hf36 : ¬ S.1 36) (hf39 : ¬ S.1 39) (hg4 : ¬ S.2.1 4) (hQ : ∀ m', f274_1 m = m' → J S m0 (B) m' → (m 4 44 8 ≤ m' 4 44 8) → (m 4 44 9 ≤ m' 4 44 9) → Q none m') : X (EE s) d 274 0 [(0, zr 4 44)] [] m Q := by
  refine X.aload_n 1 i274_0 rfl rfl rfl ?_
  refine X.iconst 2 i274_1 rfl rfl (by decide) ?_
  refine X.iconst 3 i274_2 rfl rfl (by decide) ?_
  refine X.callv 6 [zi 0, zi 3] [] [(0, zr 4 44), (1, zi 0), (2, zi 3)] i274_3 rfl (by decide) rfl rfl (by omega) rfl rfl (by decide) rfl t270 (Nat.le_of_ble_eq_true rfl) (Nat.le_of_ble_eq_true rfl) rfl ?_
  refine c270_1 (B := B)  0 3 (by omega) (hJ.up (by omega)) (by omega) (by omega) (by omega) hf36 hf39 hg4 (fun v503 m501 hv503 hFv503 hJ502 hqv503_0 hqv503_1 hqv503_2 hqv503_3 => ?_)
  show X (EE s) d 274 6 [(0, zr 4 44)] [zi v503] m501 _
  refine X.istore_n 7 [(0, zr 4 44), (1, zi v503)] i274_6 rfl rfl rfl ?_
  refine X.aload_n 8 i274_7 rfl rfl rfl ?_
  refine X.getZ 11 9 i274_8 rfl rfl (by decide) rfl rfl rfl (fun h504 => ?_)
  refine X.ifne 32 14 i274_11 rfl rfl rfl (fun h505 => ?_) (fun h505 => ?_)
  · refine X.aload_n 33 i274_32 rfl rfl rfl ?_
    refine X.getF 36 i274_33 rfl rfl (by decide) rfl rfl ?_
    refine X.iload_n 37 i274_36 rfl rfl rfl ?_
    refine X.iconst 38 i274_37 rfl rfl (by decide) ?_
    refine X.zast' 39 i274_38 rfl rfl (by decide) rfl (by omega) (by omega) (fun hrm506 m506 hm506 => ?_)
    have hJ507 := w50_0 hJ502 hm506 (by omega) hrm506 hf39 hg4
    have wmm506_8 : m506 4 44 8 = m501 4 44 8 := by rw [hm506]; exact z_upd_o _ _ rfl
    have wmm506_9 : m506 4 44 9 = m501 4 44 9 := by rw [hm506]; exact z_upd_o _ _ rfl
    have wmm506_10 : m506 4 44 10 = m501 4 44 10 := by rw [hm506]; exact z_upd_o _ _ rfl
    refine X.aload_n 40 i274_39 rfl rfl rfl ?_
    refine X.getF 43 i274_40 rfl rfl (by decide) rfl rfl ?_
    refine X.sipush 46 i274_43 rfl rfl (by decide) ?_
    refine X.iload_n 47 i274_46 rfl rfl rfl ?_
    refine X.iadd 48 i274_47 rfl rfl (by omega) ?_
    refine X.aload_n 49 i274_48 rfl rfl rfl ?_
    refine X.iconst 50 i274_49 rfl rfl (by decide) ?_
    refine X.sipush 53 i274_50 rfl rfl (by decide) ?_
    refine X.callv 56 [zi 0, zi 364] [zi (391 + v503), zr 4 45] [(0, zr 4 44), (1, zi 0), (2, zi 364)] i274_53 rfl (by decide) rfl rfl (by omega) rfl rfl (by decide) rfl t270 (Nat.le_of_ble_eq_true rfl) (Nat.le_of_ble_eq_true rfl) rfl ?_
    refine c270_1 (B := B)  0 364 (by omega) (hJ507.up (by omega)) (by omega) (by omega) (by omega) hf36 hf39 hg4 (fun v510 m508 hv510 hFv510 hJ509 hqv510_0 hqv510_1 hqv510_2 hqv510_3 => ?_)
    show X (EE s) d 274 56 [(0, zr 4 44), (1, zi v503)] [zi v510, zi (391 + v503), zr 4 45] m508 _
    refine X.i2l 57 i274_56 rfl rfl ?_
    refine X.last' 58 i274_57 rfl rfl (by decide) rfl (by omega) (fun hrm511 m511 hm511 => ?_)
    have hJ512 := w45_391 hJ509 hm511 (by omega) (by omega) hf21 hg4
    have wmm511_8 : m511 4 44 8 = m508 4 44 8 := by rw [hm511]; exact z_upd_o _ _ rfl
    have wmm511_9 : m511 4 44 9 = m508 4 44 9 := by rw [hm511]; exact z_upd_o _ _ rfl
    have wmm511_10 : m511 4 44 10 = m508 4 44 10 := by rw [hm511]; exact z_upd_o _ _ rfl
    refine X.iconst 59 i274_58 rfl rfl (by decide) ?_
    refine X.istore_n 60 [(0, zr 4 44), (1, zi v503), (2, zi 0)] i274_59 rfl rfl rfl ?_
    have hz8 := zfu_eq 8
    refine l274_60_1 (s := s) (d := d) (R0 := (f274_1 m))  v503 (m511 4 44 8) (m511 4 44 9) (BE := B + 0) (by omega) (by omega) (by omega) hf21 hf36 hf39 hg4 (fun  m513 B514 hJ515 hBB514 hrlm513_0 hrlm513_1 hR516 => ?_) (zfu 8) 0 m511 (B) (hJ512.up (by omega)) (by omega) (by omega) (by omega) (by omega) (by omega) (Eq.trans (zb_eq hFv503) (Eq.trans (if_neg h505) (Eq.trans (zs_eq hm506) (Eq.trans (zb_eq hFv510) (Eq.trans (zs_eq hm511) rfl)))))
    refine X.retv i274_95 rfl t274 ?_
    exact hQ  m513  (Eq.trans hR516 rfl) (hJ515.up (by omega)) (by omega) (by omega)
  · refine X.aload_n 15 i274_14 rfl rfl rfl ?_
    refine X.getF 18 i274_15 rfl rfl (by decide) rfl rfl ?_
    refine X.iload_n 19 i274_18 rfl rfl rfl ?_
    refine X.zald 20 i274_19 rfl rfl (by decide) rfl (by omega) (fun h517 => ?_)
    refine X.ifeq 32 23 i274_20 rfl rfl rfl (fun h518 => ?_) (fun h518 => ?_)
    · refine X.aload_n 33 i274_32 rfl rfl rfl ?_
      refine X.getF 36 i274_33 rfl rfl (by decide) rfl rfl ?_
      refine X.iload_n 37 i274_36 rfl rfl rfl ?_
      refine X.iconst 38 i274_37 rfl rfl (by decide) ?_
      refine X.zast' 39 i274_38 rfl rfl (by decide) rfl (by omega) (by omega) (fun hrm519 m519 hm519 => ?_)
      have hJ520 := w50_0 hJ502 hm519 (by omega) hrm519 hf39 hg4
      have wmm519_8 : m519 4 44 8 = m501 4 44 8 := by rw [hm519]; exact z_upd_o _ _ rfl
      have wmm519_9 : m519 4 44 9 = m501 4 44 9 := by rw [hm519]; exact z_upd_o _ _ rfl
      have wmm519_10 : m519 4 44 10 = m501 4 44 10 := by rw [hm519]; exact z_upd_o _ _ rfl
      refine X.aload_n 40 i274_39 rfl rfl rfl ?_
      refine X.getF 43 i274_40 rfl rfl (by decide) rfl rfl ?_
      refine X.sipush 46 i274_43 rfl rfl (by decide) ?_
      refine X.iload_n 47 i274_46 rfl rfl rfl ?_
      refine X.iadd 48 i274_47 rfl rfl (by omega) ?_
      refine X.aload_n 49 i274_48 rfl rfl rfl ?_
      refine X.iconst 50 i274_49 rfl rfl (by decide) ?_
      refine X.sipush 53 i274_50 rfl rfl (by decide) ?_
      refine X.callv 56 [zi 0, zi 364] [zi (391 + v503), zr 4 45] [(0, zr 4 44), (1, zi 0), (2, zi 364)] i274_53 rfl (by decide) rfl rfl (by omega) rfl rfl (by decide) rfl t270 (Nat.le_of_ble_eq_true rfl) (Nat.le_of_ble_eq_true rfl) rfl ?_
      refine c270_1 (B := B)  0 364 (by omega) (hJ520.up (by omega)) (by omega) (by omega) (by omega) hf36 hf39 hg4 (fun v523 m521 hv523 hFv523 hJ522 hqv523_0 hqv523_1 hqv523_2 hqv523_3 => ?_)
      show X (EE s) d 274 56 [(0, zr 4 44), (1, zi v503)] [zi v523, zi (391 + v503), zr 4 45] m521 _
      refine X.i2l 57 i274_56 rfl rfl ?_
      refine X.last' 58 i274_57 rfl rfl (by decide) rfl (by omega) (fun hrm524 m524 hm524 => ?_)
      have hJ525 := w45_391 hJ522 hm524 (by omega) (by omega) hf21 hg4
      have wmm524_8 : m524 4 44 8 = m521 4 44 8 := by rw [hm524]; exact z_upd_o _ _ rfl
      have wmm524_9 : m524 4 44 9 = m521 4 44 9 := by rw [hm524]; exact z_upd_o _ _ rfl
      have wmm524_10 : m524 4 44 10 = m521 4 44 10 := by rw [hm524]; exact z_upd_o _ _ rfl
      refine X.iconst 59 i274_58 rfl rfl (by decide) ?_
      refine X.istore_n 60 [(0, zr 4 44), (1, zi v503), (2, zi 0)] i274_59 rfl rfl rfl ?_
      have hz8 := zfu_eq 8
      refine l274_60_1 (s := s) (d := d) (R0 := (f274_1 m))  v503 (m524 4 44 8) (m524 4 44 9) (BE := B + 0) (by omega) (by omega) (by omega) hf21 hf36 hf39 hg4 (fun  m526 B527 hJ528 hBB527 hrlm526_0 hrlm526_1 hR529 => ?_) (zfu 8) 0 m524 (B) (hJ525.up (by omega)) (by omega) (by omega) (by omega) (by omega) (by omega) (Eq.trans (zb_eq hFv503) (Eq.trans (if_pos h505) (Eq.trans (if_pos h518) (Eq.trans (zs_eq hm519) (Eq.trans (zb_eq hFv523) (Eq.trans (zs_eq hm524) rfl))))))
      refine X.retv i274_95 rfl t274 ?_
      exact hQ  m526  (Eq.trans hR529 rfl) (hJ528.up (by omega)) (by omega) (by omega)
    · refine X.aload_n 24 i274_23 rfl rfl rfl ?_
      refine X.iconst 25 i274_24 rfl rfl (by decide) ?_
      refine X.aload_n 26 i274_25 rfl rfl rfl ?_
      refine X.getIr 29 10 i274_26 rfl rfl (by decide) rfl rfl rfl (fun h530 => ?_)
      refine X.callv 32 [zi 3, zi (m501 4 44 10)] [] [(0, zr 4 44), (1, zi 3), (2, zi (m501 4 44 10))] i274_29 rfl (by decide) rfl rfl (by omega) rfl rfl (by decide) rfl t268 (Nat.le_of_ble_eq_true rfl) (Nat.le_of_ble_eq_true rfl) rfl ?_
      refine c268_3 (B := B)  3 (m501 4 44 10) (by omega) (hJ502.up (by omega)) (by omega) (by omega) (by omega) hf36 hf39 hg4 (fun m531 hFv533 hJ532 hqv533_0 hqv533_1 hqv533_2 => ?_)
      show X (EE s) d 274 32 [(0, zr 4 44), (1, zi v503)] [] m531 _
      refine X.aload_n 33 i274_32 rfl rfl rfl ?_
      refine X.getF 36 i274_33 rfl rfl (by decide) rfl rfl ?_
      refine X.iload_n 37 i274_36 rfl rfl rfl ?_
      refine X.iconst 38 i274_37 rfl rfl (by decide) ?_
      refine X.zast' 39 i274_38 rfl rfl (by decide) rfl (by omega) (by omega) (fun hrm534 m534 hm534 => ?_)
      have hJ535 := w50_0 hJ532 hm534 (by omega) hrm534 hf39 hg4
      have wmm534_8 : m534 4 44 8 = m531 4 44 8 := by rw [hm534]; exact z_upd_o _ _ rfl
      have wmm534_9 : m534 4 44 9 = m531 4 44 9 := by rw [hm534]; exact z_upd_o _ _ rfl
      have wmm534_10 : m534 4 44 10 = m531 4 44 10 := by rw [hm534]; exact z_upd_o _ _ rfl
      refine X.aload_n 40 i274_39 rfl rfl rfl ?_
      refine X.getF 43 i274_40 rfl rfl (by decide) rfl rfl ?_
      refine X.sipush 46 i274_43 rfl rfl (by decide) ?_
      refine X.iload_n 47 i274_46 rfl rfl rfl ?_
      refine X.iadd 48 i274_47 rfl rfl (by omega) ?_
      refine X.aload_n 49 i274_48 rfl rfl rfl ?_
      refine X.iconst 50 i274_49 rfl rfl (by decide) ?_
      refine X.sipush 53 i274_50 rfl rfl (by decide) ?_
      refine X.callv 56 [zi 0, zi 364] [zi (391 + v503), zr 4 45] [(0, zr 4 44), (1, zi 0), (2, zi 364)] i274_53 rfl (by decide) rfl rfl (by omega) rfl rfl (by decide) rfl t270 (Nat.le_of_ble_eq_true rfl) (Nat.le_of_ble_eq_true rfl) rfl ?_
      refine c270_1 (B := B)  0 364 (by omega) (hJ535.up (by omega)) (by omega) (by omega) (by omega) hf36 hf39 hg4 (fun v538 m536 hv538 hFv538 hJ537 hqv538_0 hqv538_1 hqv538_2 hqv538_3 => ?_)
      show X (EE s) d 274 56 [(0, zr 4 44), (1, zi v503)] [zi v538, zi (391 + v503), zr 4 45] m536 _
      refine X.i2l 57 i274_56 rfl rfl ?_
      refine X.last' 58 i274_57 rfl rfl (by decide) rfl (by omega) (fun hrm539 m539 hm539 => ?_)
      have hJ540 := w45_391 hJ537 hm539 (by omega) (by omega) hf21 hg4
      have wmm539_8 : m539 4 44 8 = m536 4 44 8 := by rw [hm539]; exact z_upd_o _ _ rfl
      have wmm539_9 : m539 4 44 9 = m536 4 44 9 := by rw [hm539]; exact z_upd_o _ _ rfl
      have wmm539_10 : m539 4 44 10 = m536 4 44 10 := by rw [hm539]; exact z_upd_o _ _ rfl
      refine X.iconst 59 i274_58 rfl rfl (by decide) ?_
      refine X.istore_n 60 [(0, zr 4 44), (1, zi v503), (2, zi 0)] i274_59 rfl rfl rfl ?_
      have hz8 := zfu_eq 8
      refine l274_60_1 (s := s) (d := d) (R0 := (f274_1 m))  v503 (m539 4 44 8) (m539 4 44 9) (BE := B + 0) (by omega) (by omega) (by omega) hf21 hf36 hf39 hg4 (fun  m541 B542 hJ543 hBB542 hrlm541_0 hrlm541_1 hR544 => ?_) (zfu 8) 0 m539 (B) (hJ540.up (by omega)) (by omega) (by omega) (by omega) (by omega) (by omega) (Eq.trans (zb_eq hFv503) (Eq.trans (if_pos h505) (Eq.trans (if_neg h518) (Eq.trans (zs_eq hFv533.symm) (Eq.trans (zs_eq hm534) (Eq.trans (zb_eq hFv538) (Eq.trans (zs_eq hm539) rfl)))))))
      refine X.retv i274_95 rfl t274 ?_
      exact hQ  m541  (Eq.trans hR544 rfl) (hJ543.up (by omega)) (by omega) (by omega)
-- WorkMeterModel.isDigitNext
noncomputable def f271_1 (m : zM) : Int × zM :=
  zs (f263_1 m) fun m501 =>
  if (m501 4 44 5) ≤ (m501 4 44 8) then
  ((0, m501))
  else
  (if (m501 4 48 (m501 4 44 8)) < 48 then
  ((0, m501))
  else
  (if (m501 4 48 (m501 4 44 8)) ≤ 57 then
  ((1, m501))
  else
  ((0, m501))))
-- WorkMeterModel.isDigitNext
theorem c271_1 {s : Nat × (Nat → Int32)} {S : zS} {m0 m : zM} {B : Int} {d : Nat} {Q : Option zV → zM → Prop} (hd : 14 ≤ d) (hJ : J S m0 B m) (hB : B + 0 ≤ 1000000000) (hf39 : ¬ S.1 39) (hg4 : ¬ S.2.1 4) (hQ : ∀ (v : Int) m', (0 ≤ v ∧ v ≤ 1) → f271_1 m = (v, m') → J S m0 (B) m' → (m 4 44 8 ≤ m' 4 44 8) → (m 4 44 9 ≤ m' 4 44 9) → Q (some (zi v)) m') : X (EE s) d 271 0 [(0, zr 4 44)] [] m Q := by
  refine X.aload_n 1 i271_0 rfl rfl rfl ?_
  refine X.callv 4 [] [] [(0, zr 4 44)] i271_1 rfl (by decide) rfl rfl (by omega) rfl rfl (by decide) rfl t263 (Nat.le_of_ble_eq_true rfl) (Nat.le_of_ble_eq_true rfl) rfl ?_
  refine c263_1 (B := B)   (by omega) (hJ.up (by omega)) (by omega)  hf39 hg4 (fun m501 hFv503 hJ502 hqv503_0 hqv503_1 => ?_)
  show X (EE s) d 271 4 [(0, zr 4 44)] [] m501 _
  refine X.aload_n 5 i271_4 rfl rfl rfl ?_
  refine X.getI 8 8 i271_5 rfl rfl (by decide) rfl rfl rfl ?_
  have h504 := r44_8 hJ502 4
  refine X.aload_n 9 i271_8 rfl rfl rfl ?_
  refine X.getI 12 5 i271_9 rfl rfl (by decide) rfl rfl rfl ?_
  have h505 := r44_5 hJ502 4
  refine X.icmpge 41 15 i271_12 rfl rfl rfl (fun h506 => ?_) (fun h506 => ?_)
  · refine X.cut [] i271_41 rfl ?_
    refine X.iconst 42 i271_41 rfl rfl (by decide) ?_
    refine X.retz i271_42 rfl t271 (by omega) ?_
    exact hQ 0 m501 (by first | trivial | omega) (Eq.trans (zs_eq hFv503.symm) (Eq.trans (if_pos h506) rfl)) (hJ502.up (by omega)) (by omega) (by omega)
  · refine X.aload_n 16 i271_15 rfl rfl rfl ?_
    refine X.getF 19 i271_16 rfl rfl (by decide) rfl rfl ?_
    refine X.aload_n 20 i271_19 rfl rfl rfl ?_
    refine X.getI 23 8 i271_20 rfl rfl (by decide) rfl rfl rfl ?_
    refine X.bald 24 i271_23 rfl rfl (by decide) rfl (by omega) (fun h507 => ?_)
    refine X.i2l 25 i271_24 rfl rfl ?_
    refine X.ldc2 28 i271_25 rfl rfl (by decide) ?_
    refine X.ldc2 31 i271_28 rfl rfl (by decide) ?_
    refine X.calls 34 [zl (m501 4 48 (m501 4 44 8)), zl 48, zl 57] [] [(0, zl (m501 4 48 (m501 4 44 8))), (2, zl 48), (4, zl 57)] i271_31 (by decide) rfl rfl (by omega) rfl rfl t204 (Nat.le_of_ble_eq_true rfl) (Nat.le_of_ble_eq_true rfl) rfl ?_
    refine X.lload_n 1 i204_0 rfl rfl rfl ?_
    refine X.lload_n 2 i204_1 rfl rfl rfl ?_
    refine X.lcmp 3 i204_2 rfl rfl (fun z508 hz508 => ?_)
    refine X.iflt 17 6 i204_3 rfl rfl rfl (fun h509 => ?_) (fun h509 => ?_)
    · have h509c : (m501 4 48 (m501 4 44 8)) < 48 := by omega
      clear h509 hz508
      refine X.cut [] i204_17 rfl ?_
      refine X.iconst 18 i204_17 rfl rfl (by decide) ?_
      refine X.retz i204_18 rfl t204 (by omega) ?_
      show X (EE s) d 271 34 [(0, zr 4 44)] [zi 0] m501 _
      refine X.ifeq 41 37 i271_34 rfl rfl rfl (fun h510 => ?_) (fun h510 => (by exfalso; omega))
      refine X.cut [] i271_41 rfl ?_
      refine X.iconst 42 i271_41 rfl rfl (by decide) ?_
      refine X.retz i271_42 rfl t271 (by omega) ?_
      exact hQ 0 m501 (by first | trivial | omega) (Eq.trans (zs_eq hFv503.symm) (Eq.trans (if_neg h506) (Eq.trans (if_pos h509c) rfl))) (hJ502.up (by omega)) (by omega) (by omega)
    · have h509c : ¬ (m501 4 48 (m501 4 44 8)) < 48 := by omega
      clear h509 hz508
      refine X.lload_n 7 i204_6 rfl rfl rfl ?_
      refine X.lload 9 i204_7 rfl rfl rfl ?_
      refine X.lcmp 10 i204_9 rfl rfl (fun z511 hz511 => ?_)
      refine X.ifgt 17 13 i204_10 rfl rfl rfl (fun h512 => ?_) (fun h512 => ?_)
      · have h512c : ¬ (m501 4 48 (m501 4 44 8)) ≤ 57 := by omega
        clear h512 hz511
        refine X.cut [] i204_17 rfl ?_
        refine X.iconst 18 i204_17 rfl rfl (by decide) ?_
        refine X.retz i204_18 rfl t204 (by omega) ?_
        show X (EE s) d 271 34 [(0, zr 4 44)] [zi 0] m501 _
        refine X.ifeq 41 37 i271_34 rfl rfl rfl (fun h513 => ?_) (fun h513 => (by exfalso; omega))
        refine X.cut [] i271_41 rfl ?_
        refine X.iconst 42 i271_41 rfl rfl (by decide) ?_
        refine X.retz i271_42 rfl t271 (by omega) ?_
        exact hQ 0 m501 (by first | trivial | omega) (Eq.trans (zs_eq hFv503.symm) (Eq.trans (if_neg h506) (Eq.trans (if_neg h509c) (Eq.trans (if_neg h512c) rfl)))) (hJ502.up (by omega)) (by omega) (by omega)
      · have h512c : (m501 4 48 (m501 4 44 8)) ≤ 57 := by omega
        clear h512 hz511
        refine X.iconst 14 i204_13 rfl rfl (by decide) ?_
        refine X.goto 18 i204_14 rfl rfl ?_
        refine X.cut [] i204_18 rfl ?_
        refine X.retz i204_18 rfl t204 (by omega) ?_
        show X (EE s) d 271 34 [(0, zr 4 44)] [zi 1] m501 _
        refine X.ifeq 41 37 i271_34 rfl rfl rfl (fun h514 => (by exfalso; omega)) (fun h514 => ?_)
        refine X.iconst 38 i271_37 rfl rfl (by decide) ?_
        refine X.goto 42 i271_38 rfl rfl ?_
        refine X.cut [] i271_42 rfl ?_
        refine X.retz i271_42 rfl t271 (by omega) ?_
        exact hQ 1 m501 (by first | trivial | omega) (Eq.trans (zs_eq hFv503.symm) (Eq.trans (if_neg h506) (Eq.trans (if_neg h509c) (Eq.trans (if_pos h512c) rfl)))) (hJ502.up (by omega)) (by omega) (by omega)
