-- WorkMeterModel.spells
theorem c266_1 {s : Nat × (Nat → Int32)} {S : zS} {m0 m : zM} {B : Int} {d : Nat} {Q : Option zV → zM → Prop} (a1 a2 a3 a4 a5 a6 a7 a8 : Int) (hd : 14 ≤ d) (hJ : J S m0 B m) (hB : B + 0 ≤ 1000000000) (ha1 : 5 ≤ a1 ∧ a1 ≤ 7) (ha2 : 116 ≤ a2 ∧ a2 ≤ 116) (ha3 : 97 ≤ a3 ∧ a3 ≤ 97) (ha4 : 98 ≤ a4 ∧ a4 ≤ 98) (ha5 : 108 ≤ a5 ∧ a5 ≤ 108) (ha6 : 101 ≤ a6 ∧ a6 ≤ 101) (ha7 : 0 ≤ a7 ∧ a7 ≤ 0) (ha8 : 0 ≤ a8 ∧ a8 ≤ 0) (hQ : ∀ (v : Int), (0 ≤ v ∧ v ≤ 1) → f266_1 a1 a2 a3 a4 a5 a6 a7 a8 m = v → Q (some (zi v)) m) : X (EE s) d 266 0 [(0, zr 4 44), (1, zi a1), (2, zi a2), (3, zi a3), (4, zi a4), (5, zi a5), (6, zi a6), (7, zi a7), (8, zi a8)] [] m Q := by
  refine X.aload_n 1 i266_0 rfl rfl rfl ?_
  refine X.callv 4 [] [] [(0, zr 4 44)] i266_1 rfl (by decide) rfl rfl (by omega) rfl rfl (by decide) rfl t267 (Nat.le_of_ble_eq_true rfl) (Nat.le_of_ble_eq_true rfl) rfl ?_
  refine c267_1 (B := B)   (by omega) (hJ.up (by omega)) (by omega)  (fun v503 hv503 hFv503 hqv503_0 => ?_)
  show X (EE s) d 266 4 [(0, zr 4 44), (1, zi a1), (2, zi a2), (3, zi a3), (4, zi a4), (5, zi a5), (6, zi a6), (7, zi a7), (8, zi a8)] [zi v503] m _
  refine X.aload_n 5 i266_4 rfl rfl rfl ?_
  refine X.getI 8 8 i266_5 rfl rfl (by decide) rfl rfl rfl ?_
  have h504 := r44_8 hJ 4
  refine X.iload_n 9 i266_8 rfl rfl rfl ?_
  refine X.iadd 10 i266_9 rfl rfl (by omega) ?_
  refine X.icmpne 89 13 i266_10 rfl rfl rfl (fun h505 => ?_) (fun h505 => ?_)
  · refine X.cut [] i266_89 rfl ?_
    refine X.iconst 90 i266_89 rfl rfl (by decide) ?_
    refine X.retz i266_90 rfl t266 (by omega) ?_
    exact hQ 0 (by first | trivial | omega) (Eq.trans (zn_eq hFv503.symm) (Eq.trans (if_neg h505) rfl)) 
  · refine X.aload_n 14 i266_13 rfl rfl rfl ?_
    refine X.getF 17 i266_14 rfl rfl (by decide) rfl rfl ?_
    refine X.aload_n 18 i266_17 rfl rfl rfl ?_
    refine X.getI 21 8 i266_18 rfl rfl (by decide) rfl rfl rfl ?_
    refine X.bald 22 i266_21 rfl rfl (by decide) rfl (by omega) (fun h506 => ?_)
    refine X.iload_n 23 i266_22 rfl rfl rfl ?_
    refine X.icmpne 89 26 i266_23 rfl rfl rfl (fun h507 => ?_) (fun h507 => ?_)
    · refine X.cut [] i266_89 rfl ?_
      refine X.iconst 90 i266_89 rfl rfl (by decide) ?_
      refine X.retz i266_90 rfl t266 (by omega) ?_
      exact hQ 0 (by first | trivial | omega) (Eq.trans (zn_eq hFv503.symm) (Eq.trans (if_pos h505) (Eq.trans (if_neg h507) rfl))) 
    · refine X.aload_n 27 i266_26 rfl rfl rfl ?_
      refine X.getF 30 i266_27 rfl rfl (by decide) rfl rfl ?_
      refine X.aload_n 31 i266_30 rfl rfl rfl ?_
      refine X.getI 34 8 i266_31 rfl rfl (by decide) rfl rfl rfl ?_
      refine X.iconst 35 i266_34 rfl rfl (by decide) ?_
      refine X.iadd 36 i266_35 rfl rfl (by omega) ?_
      refine X.bald 37 i266_36 rfl rfl (by decide) rfl (by omega) (fun h508 => ?_)
      refine X.iload_n 38 i266_37 rfl rfl rfl ?_
      refine X.icmpne 89 41 i266_38 rfl rfl rfl (fun h509 => ?_) (fun h509 => ?_)
      · refine X.cut [] i266_89 rfl ?_
        refine X.iconst 90 i266_89 rfl rfl (by decide) ?_
        refine X.retz i266_90 rfl t266 (by omega) ?_
        exact hQ 0 (by first | trivial | omega) (Eq.trans (zn_eq hFv503.symm) (Eq.trans (if_pos h505) (Eq.trans (if_pos h507) (Eq.trans (if_neg h509) rfl)))) 
      · refine X.aload_n 42 i266_41 rfl rfl rfl ?_
        refine X.getF 45 i266_42 rfl rfl (by decide) rfl rfl ?_
        refine X.aload_n 46 i266_45 rfl rfl rfl ?_
        refine X.getI 49 8 i266_46 rfl rfl (by decide) rfl rfl rfl ?_
        refine X.iconst 50 i266_49 rfl rfl (by decide) ?_
        refine X.iadd 51 i266_50 rfl rfl (by omega) ?_
        refine X.bald 52 i266_51 rfl rfl (by decide) rfl (by omega) (fun h510 => ?_)
        refine X.iload 54 i266_52 rfl rfl rfl ?_
        refine X.icmpne 89 57 i266_54 rfl rfl rfl (fun h511 => ?_) (fun h511 => ?_)
        · refine X.cut [] i266_89 rfl ?_
          refine X.iconst 90 i266_89 rfl rfl (by decide) ?_
          refine X.retz i266_90 rfl t266 (by omega) ?_
          exact hQ 0 (by first | trivial | omega) (Eq.trans (zn_eq hFv503.symm) (Eq.trans (if_pos h505) (Eq.trans (if_pos h507) (Eq.trans (if_pos h509) (Eq.trans (if_neg h511) rfl))))) 
        · refine X.aload_n 58 i266_57 rfl rfl rfl ?_
          refine X.getF 61 i266_58 rfl rfl (by decide) rfl rfl ?_
          refine X.aload_n 62 i266_61 rfl rfl rfl ?_
          refine X.getI 65 8 i266_62 rfl rfl (by decide) rfl rfl rfl ?_
          refine X.iconst 66 i266_65 rfl rfl (by decide) ?_
          refine X.iadd 67 i266_66 rfl rfl (by omega) ?_
          refine X.bald 68 i266_67 rfl rfl (by decide) rfl (by omega) (fun h512 => ?_)
          refine X.iload 70 i266_68 rfl rfl rfl ?_
          refine X.icmpne 89 73 i266_70 rfl rfl rfl (fun h513 => ?_) (fun h513 => ?_)
          · refine X.cut [] i266_89 rfl ?_
            refine X.iconst 90 i266_89 rfl rfl (by decide) ?_
            refine X.retz i266_90 rfl t266 (by omega) ?_
            exact hQ 0 (by first | trivial | omega) (Eq.trans (zn_eq hFv503.symm) (Eq.trans (if_pos h505) (Eq.trans (if_pos h507) (Eq.trans (if_pos h509) (Eq.trans (if_pos h511) (Eq.trans (if_neg h513) rfl)))))) 
          · refine X.aload_n 74 i266_73 rfl rfl rfl ?_
            refine X.getF 77 i266_74 rfl rfl (by decide) rfl rfl ?_
            refine X.aload_n 78 i266_77 rfl rfl rfl ?_
            refine X.getI 81 8 i266_78 rfl rfl (by decide) rfl rfl rfl ?_
            refine X.iconst 82 i266_81 rfl rfl (by decide) ?_
            refine X.iadd 83 i266_82 rfl rfl (by omega) ?_
            refine X.bald 84 i266_83 rfl rfl (by decide) rfl (by omega) (fun h514 => ?_)
            refine X.iload 86 i266_84 rfl rfl rfl ?_
            refine X.icmpeq 91 89 i266_86 rfl rfl rfl (fun h515 => ?_) (fun h515 => ?_)
            · refine X.cut [(0, zr 4 44), (1, zi a1), (7, zi a7), (8, zi a8)] i266_91 rfl ?_
              refine X.iload_n 92 i266_91 rfl rfl rfl ?_
              refine X.bipush 94 i266_92 rfl rfl (by decide) ?_
              have hK526 : ∀ (v : Int) , (0 ≤ v ∧ v ≤ 1) → (if a1 < 6 then
                  (1)
                  else
                  (if (m 4 48 ((m 4 44 8) + 5)) = a7 then
                  (if a1 < 7 then
                  (1)
                  else
                  (if (m 4 48 ((m 4 44 8) + 6)) = a8 then
                  (1)
                  else
                  (0)))
                  else
                  (0))) = v → X (EE s) d 266 141 [] [zi v] m Q := by
                intro v523 hv523 hT527
                refine X.retz i266_141 rfl t266 (by omega) ?_
                exact hQ v523 (by first | trivial | omega) (Eq.trans (zn_eq hFv503.symm) (Eq.trans (if_pos h505) (Eq.trans (if_pos h507) (Eq.trans (if_pos h509) (Eq.trans (if_pos h511) (Eq.trans (if_pos h513) (Eq.trans (if_pos h515) (Eq.trans (zn_eq hT527.symm) rfl)))))))) 
              refine X.icmplt 113 97 i266_94 rfl rfl rfl (fun h516 => ?_) (fun h516 => ?_)
              · refine X.cut [(0, zr 4 44), (1, zi a1), (8, zi a8)] i266_113 rfl ?_
                refine X.iload_n 114 i266_113 rfl rfl rfl ?_
                refine X.bipush 116 i266_114 rfl rfl (by decide) ?_
                refine X.icmplt 136 119 i266_116 rfl rfl rfl (fun h517 => ?_) (fun h517 => (by exfalso; omega))
                refine X.cut [] i266_136 rfl ?_
                refine X.iconst 137 i266_136 rfl rfl (by decide) ?_
                refine X.goto 141 i266_137 rfl rfl ?_
                exact hK526 1 (by first | trivial | omega) (Eq.trans (if_pos h516) rfl)
              · refine X.aload_n 98 i266_97 rfl rfl rfl ?_
                refine X.getF 101 i266_98 rfl rfl (by decide) rfl rfl ?_
                refine X.aload_n 102 i266_101 rfl rfl rfl ?_
                refine X.getI 105 8 i266_102 rfl rfl (by decide) rfl rfl rfl ?_
                refine X.iconst 106 i266_105 rfl rfl (by decide) ?_
                refine X.iadd 107 i266_106 rfl rfl (by omega) ?_
                refine X.bald 108 i266_107 rfl rfl (by decide) rfl (by omega) (fun h518 => ?_)
                refine X.iload 110 i266_108 rfl rfl rfl ?_
                refine X.icmpne 140 113 i266_110 rfl rfl rfl (fun h519 => ?_) (fun h519 => ?_)
                · refine X.cut [] i266_140 rfl ?_
                  refine X.iconst 141 i266_140 rfl rfl (by decide) ?_
                  exact hK526 0 (by first | trivial | omega) (Eq.trans (if_neg h516) (Eq.trans (if_neg h519) rfl))
                · refine X.cut [(0, zr 4 44), (1, zi a1), (8, zi a8)] i266_113 rfl ?_
                  refine X.iload_n 114 i266_113 rfl rfl rfl ?_
                  refine X.bipush 116 i266_114 rfl rfl (by decide) ?_
                  refine X.icmplt 136 119 i266_116 rfl rfl rfl (fun h520 => ?_) (fun h520 => ?_)
                  · refine X.cut [] i266_136 rfl ?_
                    refine X.iconst 137 i266_136 rfl rfl (by decide) ?_
                    refine X.goto 141 i266_137 rfl rfl ?_
                    exact hK526 1 (by first | trivial | omega) (Eq.trans (if_neg h516) (Eq.trans (if_pos h519) (Eq.trans (if_pos h520) rfl)))
                  · refine X.aload_n 120 i266_119 rfl rfl rfl ?_
                    refine X.getF 123 i266_120 rfl rfl (by decide) rfl rfl ?_
                    refine X.aload_n 124 i266_123 rfl rfl rfl ?_
                    refine X.getI 127 8 i266_124 rfl rfl (by decide) rfl rfl rfl ?_
                    refine X.bipush 129 i266_127 rfl rfl (by decide) ?_
                    refine X.iadd 130 i266_129 rfl rfl (by omega) ?_
                    refine X.bald 131 i266_130 rfl rfl (by decide) rfl (by omega) (fun h521 => ?_)
                    refine X.iload 133 i266_131 rfl rfl rfl ?_
                    refine X.icmpne 140 136 i266_133 rfl rfl rfl (fun h522 => ?_) (fun h522 => ?_)
                    · refine X.cut [] i266_140 rfl ?_
                      refine X.iconst 141 i266_140 rfl rfl (by decide) ?_
                      exact hK526 0 (by first | trivial | omega) (Eq.trans (if_neg h516) (Eq.trans (if_pos h519) (Eq.trans (if_neg h520) (Eq.trans (if_neg h522) rfl))))
                    · refine X.cut [] i266_136 rfl ?_
                      refine X.iconst 137 i266_136 rfl rfl (by decide) ?_
                      refine X.goto 141 i266_137 rfl rfl ?_
                      exact hK526 1 (by first | trivial | omega) (Eq.trans (if_neg h516) (Eq.trans (if_pos h519) (Eq.trans (if_neg h520) (Eq.trans (if_pos h522) rfl))))
            · refine X.cut [] i266_89 rfl ?_
              refine X.iconst 90 i266_89 rfl rfl (by decide) ?_
              refine X.retz i266_90 rfl t266 (by omega) ?_
              exact hQ 0 (by first | trivial | omega) (Eq.trans (zn_eq hFv503.symm) (Eq.trans (if_pos h505) (Eq.trans (if_pos h507) (Eq.trans (if_pos h509) (Eq.trans (if_pos h511) (Eq.trans (if_pos h513) (Eq.trans (if_neg h515) rfl))))))) 
-- WorkMeterModel.spells
theorem c266_2 {s : Nat × (Nat → Int32)} {S : zS} {m0 m : zM} {B : Int} {d : Nat} {Q : Option zV → zM → Prop} (a1 a2 a3 a4 a5 a6 a7 a8 : Int) (hd : 14 ≤ d) (hJ : J S m0 B m) (hB : B + 0 ≤ 1000000000) (ha1 : 5 ≤ a1 ∧ a1 ≤ 7) (ha2 : 115 ≤ a2 ∧ a2 ≤ 115) (ha3 : 101 ≤ a3 ∧ a3 ≤ 101) (ha4 : 97 ≤ a4 ∧ a4 ≤ 97) (ha5 : 115 ≤ a5 ∧ a5 ≤ 115) (ha6 : 111 ≤ a6 ∧ a6 ≤ 111) (ha7 : 110 ≤ a7 ∧ a7 ≤ 110) (ha8 : 0 ≤ a8 ∧ a8 ≤ 0) (hQ : ∀ (v : Int), (0 ≤ v ∧ v ≤ 1) → f266_1 a1 a2 a3 a4 a5 a6 a7 a8 m = v → Q (some (zi v)) m) : X (EE s) d 266 0 [(0, zr 4 44), (1, zi a1), (2, zi a2), (3, zi a3), (4, zi a4), (5, zi a5), (6, zi a6), (7, zi a7), (8, zi a8)] [] m Q := by
  refine X.aload_n 1 i266_0 rfl rfl rfl ?_
  refine X.callv 4 [] [] [(0, zr 4 44)] i266_1 rfl (by decide) rfl rfl (by omega) rfl rfl (by decide) rfl t267 (Nat.le_of_ble_eq_true rfl) (Nat.le_of_ble_eq_true rfl) rfl ?_
  refine c267_1 (B := B)   (by omega) (hJ.up (by omega)) (by omega)  (fun v503 hv503 hFv503 hqv503_0 => ?_)
  show X (EE s) d 266 4 [(0, zr 4 44), (1, zi a1), (2, zi a2), (3, zi a3), (4, zi a4), (5, zi a5), (6, zi a6), (7, zi a7), (8, zi a8)] [zi v503] m _
  refine X.aload_n 5 i266_4 rfl rfl rfl ?_
  refine X.getI 8 8 i266_5 rfl rfl (by decide) rfl rfl rfl ?_
  have h504 := r44_8 hJ 4
  refine X.iload_n 9 i266_8 rfl rfl rfl ?_
  refine X.iadd 10 i266_9 rfl rfl (by omega) ?_
  refine X.icmpne 89 13 i266_10 rfl rfl rfl (fun h505 => ?_) (fun h505 => ?_)
  · refine X.cut [] i266_89 rfl ?_
    refine X.iconst 90 i266_89 rfl rfl (by decide) ?_
    refine X.retz i266_90 rfl t266 (by omega) ?_
    exact hQ 0 (by first | trivial | omega) (Eq.trans (zn_eq hFv503.symm) (Eq.trans (if_neg h505) rfl)) 
  · refine X.aload_n 14 i266_13 rfl rfl rfl ?_
    refine X.getF 17 i266_14 rfl rfl (by decide) rfl rfl ?_
    refine X.aload_n 18 i266_17 rfl rfl rfl ?_
    refine X.getI 21 8 i266_18 rfl rfl (by decide) rfl rfl rfl ?_
    refine X.bald 22 i266_21 rfl rfl (by decide) rfl (by omega) (fun h506 => ?_)
    refine X.iload_n 23 i266_22 rfl rfl rfl ?_
    refine X.icmpne 89 26 i266_23 rfl rfl rfl (fun h507 => ?_) (fun h507 => ?_)
    · refine X.cut [] i266_89 rfl ?_
      refine X.iconst 90 i266_89 rfl rfl (by decide) ?_
      refine X.retz i266_90 rfl t266 (by omega) ?_
      exact hQ 0 (by first | trivial | omega) (Eq.trans (zn_eq hFv503.symm) (Eq.trans (if_pos h505) (Eq.trans (if_neg h507) rfl))) 
    · refine X.aload_n 27 i266_26 rfl rfl rfl ?_
      refine X.getF 30 i266_27 rfl rfl (by decide) rfl rfl ?_
      refine X.aload_n 31 i266_30 rfl rfl rfl ?_
      refine X.getI 34 8 i266_31 rfl rfl (by decide) rfl rfl rfl ?_
      refine X.iconst 35 i266_34 rfl rfl (by decide) ?_
      refine X.iadd 36 i266_35 rfl rfl (by omega) ?_
      refine X.bald 37 i266_36 rfl rfl (by decide) rfl (by omega) (fun h508 => ?_)
      refine X.iload_n 38 i266_37 rfl rfl rfl ?_
      refine X.icmpne 89 41 i266_38 rfl rfl rfl (fun h509 => ?_) (fun h509 => ?_)
      · refine X.cut [] i266_89 rfl ?_
        refine X.iconst 90 i266_89 rfl rfl (by decide) ?_
        refine X.retz i266_90 rfl t266 (by omega) ?_
        exact hQ 0 (by first | trivial | omega) (Eq.trans (zn_eq hFv503.symm) (Eq.trans (if_pos h505) (Eq.trans (if_pos h507) (Eq.trans (if_neg h509) rfl)))) 
      · refine X.aload_n 42 i266_41 rfl rfl rfl ?_
        refine X.getF 45 i266_42 rfl rfl (by decide) rfl rfl ?_
        refine X.aload_n 46 i266_45 rfl rfl rfl ?_
        refine X.getI 49 8 i266_46 rfl rfl (by decide) rfl rfl rfl ?_
        refine X.iconst 50 i266_49 rfl rfl (by decide) ?_
        refine X.iadd 51 i266_50 rfl rfl (by omega) ?_
        refine X.bald 52 i266_51 rfl rfl (by decide) rfl (by omega) (fun h510 => ?_)
        refine X.iload 54 i266_52 rfl rfl rfl ?_
        refine X.icmpne 89 57 i266_54 rfl rfl rfl (fun h511 => ?_) (fun h511 => ?_)
        · refine X.cut [] i266_89 rfl ?_
          refine X.iconst 90 i266_89 rfl rfl (by decide) ?_
          refine X.retz i266_90 rfl t266 (by omega) ?_
          exact hQ 0 (by first | trivial | omega) (Eq.trans (zn_eq hFv503.symm) (Eq.trans (if_pos h505) (Eq.trans (if_pos h507) (Eq.trans (if_pos h509) (Eq.trans (if_neg h511) rfl))))) 
        · refine X.aload_n 58 i266_57 rfl rfl rfl ?_
          refine X.getF 61 i266_58 rfl rfl (by decide) rfl rfl ?_
          refine X.aload_n 62 i266_61 rfl rfl rfl ?_
          refine X.getI 65 8 i266_62 rfl rfl (by decide) rfl rfl rfl ?_
          refine X.iconst 66 i266_65 rfl rfl (by decide) ?_
          refine X.iadd 67 i266_66 rfl rfl (by omega) ?_
          refine X.bald 68 i266_67 rfl rfl (by decide) rfl (by omega) (fun h512 => ?_)
          refine X.iload 70 i266_68 rfl rfl rfl ?_
          refine X.icmpne 89 73 i266_70 rfl rfl rfl (fun h513 => ?_) (fun h513 => ?_)
          · refine X.cut [] i266_89 rfl ?_
            refine X.iconst 90 i266_89 rfl rfl (by decide) ?_
            refine X.retz i266_90 rfl t266 (by omega) ?_
            exact hQ 0 (by first | trivial | omega) (Eq.trans (zn_eq hFv503.symm) (Eq.trans (if_pos h505) (Eq.trans (if_pos h507) (Eq.trans (if_pos h509) (Eq.trans (if_pos h511) (Eq.trans (if_neg h513) rfl)))))) 
          · refine X.aload_n 74 i266_73 rfl rfl rfl ?_
            refine X.getF 77 i266_74 rfl rfl (by decide) rfl rfl ?_
            refine X.aload_n 78 i266_77 rfl rfl rfl ?_
            refine X.getI 81 8 i266_78 rfl rfl (by decide) rfl rfl rfl ?_
            refine X.iconst 82 i266_81 rfl rfl (by decide) ?_
            refine X.iadd 83 i266_82 rfl rfl (by omega) ?_
            refine X.bald 84 i266_83 rfl rfl (by decide) rfl (by omega) (fun h514 => ?_)
            refine X.iload 86 i266_84 rfl rfl rfl ?_
            refine X.icmpeq 91 89 i266_86 rfl rfl rfl (fun h515 => ?_) (fun h515 => ?_)
            · refine X.cut [(0, zr 4 44), (1, zi a1), (7, zi a7), (8, zi a8)] i266_91 rfl ?_
              refine X.iload_n 92 i266_91 rfl rfl rfl ?_
              refine X.bipush 94 i266_92 rfl rfl (by decide) ?_
              have hK526 : ∀ (v : Int) , (0 ≤ v ∧ v ≤ 1) → (if a1 < 6 then
                  (1)
                  else
                  (if (m 4 48 ((m 4 44 8) + 5)) = a7 then
                  (if a1 < 7 then
                  (1)
                  else
                  (if (m 4 48 ((m 4 44 8) + 6)) = a8 then
                  (1)
                  else
                  (0)))
                  else
                  (0))) = v → X (EE s) d 266 141 [] [zi v] m Q := by
                intro v523 hv523 hT527
                refine X.retz i266_141 rfl t266 (by omega) ?_
                exact hQ v523 (by first | trivial | omega) (Eq.trans (zn_eq hFv503.symm) (Eq.trans (if_pos h505) (Eq.trans (if_pos h507) (Eq.trans (if_pos h509) (Eq.trans (if_pos h511) (Eq.trans (if_pos h513) (Eq.trans (if_pos h515) (Eq.trans (zn_eq hT527.symm) rfl)))))))) 
              refine X.icmplt 113 97 i266_94 rfl rfl rfl (fun h516 => ?_) (fun h516 => ?_)
              · refine X.cut [(0, zr 4 44), (1, zi a1), (8, zi a8)] i266_113 rfl ?_
                refine X.iload_n 114 i266_113 rfl rfl rfl ?_
                refine X.bipush 116 i266_114 rfl rfl (by decide) ?_
                refine X.icmplt 136 119 i266_116 rfl rfl rfl (fun h517 => ?_) (fun h517 => (by exfalso; omega))
                refine X.cut [] i266_136 rfl ?_
                refine X.iconst 137 i266_136 rfl rfl (by decide) ?_
                refine X.goto 141 i266_137 rfl rfl ?_
                exact hK526 1 (by first | trivial | omega) (Eq.trans (if_pos h516) rfl)
              · refine X.aload_n 98 i266_97 rfl rfl rfl ?_
                refine X.getF 101 i266_98 rfl rfl (by decide) rfl rfl ?_
                refine X.aload_n 102 i266_101 rfl rfl rfl ?_
                refine X.getI 105 8 i266_102 rfl rfl (by decide) rfl rfl rfl ?_
                refine X.iconst 106 i266_105 rfl rfl (by decide) ?_
                refine X.iadd 107 i266_106 rfl rfl (by omega) ?_
                refine X.bald 108 i266_107 rfl rfl (by decide) rfl (by omega) (fun h518 => ?_)
                refine X.iload 110 i266_108 rfl rfl rfl ?_
                refine X.icmpne 140 113 i266_110 rfl rfl rfl (fun h519 => ?_) (fun h519 => ?_)
                · refine X.cut [] i266_140 rfl ?_
                  refine X.iconst 141 i266_140 rfl rfl (by decide) ?_
                  exact hK526 0 (by first | trivial | omega) (Eq.trans (if_neg h516) (Eq.trans (if_neg h519) rfl))
                · refine X.cut [(0, zr 4 44), (1, zi a1), (8, zi a8)] i266_113 rfl ?_
                  refine X.iload_n 114 i266_113 rfl rfl rfl ?_
                  refine X.bipush 116 i266_114 rfl rfl (by decide) ?_
                  refine X.icmplt 136 119 i266_116 rfl rfl rfl (fun h520 => ?_) (fun h520 => ?_)
                  · refine X.cut [] i266_136 rfl ?_
                    refine X.iconst 137 i266_136 rfl rfl (by decide) ?_
                    refine X.goto 141 i266_137 rfl rfl ?_
                    exact hK526 1 (by first | trivial | omega) (Eq.trans (if_neg h516) (Eq.trans (if_pos h519) (Eq.trans (if_pos h520) rfl)))
                  · refine X.aload_n 120 i266_119 rfl rfl rfl ?_
                    refine X.getF 123 i266_120 rfl rfl (by decide) rfl rfl ?_
                    refine X.aload_n 124 i266_123 rfl rfl rfl ?_
                    refine X.getI 127 8 i266_124 rfl rfl (by decide) rfl rfl rfl ?_
                    refine X.bipush 129 i266_127 rfl rfl (by decide) ?_
                    refine X.iadd 130 i266_129 rfl rfl (by omega) ?_
                    refine X.bald 131 i266_130 rfl rfl (by decide) rfl (by omega) (fun h521 => ?_)
                    refine X.iload 133 i266_131 rfl rfl rfl ?_
                    refine X.icmpne 140 136 i266_133 rfl rfl rfl (fun h522 => ?_) (fun h522 => ?_)
                    · refine X.cut [] i266_140 rfl ?_
                      refine X.iconst 141 i266_140 rfl rfl (by decide) ?_
                      exact hK526 0 (by first | trivial | omega) (Eq.trans (if_neg h516) (Eq.trans (if_pos h519) (Eq.trans (if_neg h520) (Eq.trans (if_neg h522) rfl))))
                    · refine X.cut [] i266_136 rfl ?_
                      refine X.iconst 137 i266_136 rfl rfl (by decide) ?_
                      refine X.goto 141 i266_137 rfl rfl ?_
                      exact hK526 1 (by first | trivial | omega) (Eq.trans (if_neg h516) (Eq.trans (if_pos h519) (Eq.trans (if_neg h520) (Eq.trans (if_pos h522) rfl))))
            · refine X.cut [] i266_89 rfl ?_
              refine X.iconst 90 i266_89 rfl rfl (by decide) ?_
              refine X.retz i266_90 rfl t266 (by omega) ?_
              exact hQ 0 (by first | trivial | omega) (Eq.trans (zn_eq hFv503.symm) (Eq.trans (if_pos h505) (Eq.trans (if_pos h507) (Eq.trans (if_pos h509) (Eq.trans (if_pos h511) (Eq.trans (if_pos h513) (Eq.trans (if_neg h515) rfl))))))) 
-- WorkMeterModel.spells
theorem c266_3 {s : Nat × (Nat → Int32)} {S : zS} {m0 m : zM} {B : Int} {d : Nat} {Q : Option zV → zM → Prop} (a1 a2 a3 a4 a5 a6 a7 a8 : Int) (hd : 14 ≤ d) (hJ : J S m0 B m) (hB : B + 0 ≤ 1000000000) (ha1 : 5 ≤ a1 ∧ a1 ≤ 7) (ha2 : 115 ≤ a2 ∧ a2 ≤ 115) (ha3 : 112 ≤ a3 ∧ a3 ≤ 112) (ha4 : 101 ≤ a4 ∧ a4 ≤ 101) (ha5 : 99 ≤ a5 ∧ a5 ≤ 99) (ha6 : 105 ≤ a6 ∧ a6 ≤ 105) (ha7 : 97 ≤ a7 ∧ a7 ≤ 97) (ha8 : 108 ≤ a8 ∧ a8 ≤ 108) (hQ : ∀ (v : Int), (0 ≤ v ∧ v ≤ 1) → f266_1 a1 a2 a3 a4 a5 a6 a7 a8 m = v → Q (some (zi v)) m) : X (EE s) d 266 0 [(0, zr 4 44), (1, zi a1), (2, zi a2), (3, zi a3), (4, zi a4), (5, zi a5), (6, zi a6), (7, zi a7), (8, zi a8)] [] m Q := by
  refine X.aload_n 1 i266_0 rfl rfl rfl ?_
  refine X.callv 4 [] [] [(0, zr 4 44)] i266_1 rfl (by decide) rfl rfl (by omega) rfl rfl (by decide) rfl t267 (Nat.le_of_ble_eq_true rfl) (Nat.le_of_ble_eq_true rfl) rfl ?_
  refine c267_1 (B := B)   (by omega) (hJ.up (by omega)) (by omega)  (fun v503 hv503 hFv503 hqv503_0 => ?_)
  show X (EE s) d 266 4 [(0, zr 4 44), (1, zi a1), (2, zi a2), (3, zi a3), (4, zi a4), (5, zi a5), (6, zi a6), (7, zi a7), (8, zi a8)] [zi v503] m _
  refine X.aload_n 5 i266_4 rfl rfl rfl ?_
  refine X.getI 8 8 i266_5 rfl rfl (by decide) rfl rfl rfl ?_
  have h504 := r44_8 hJ 4
  refine X.iload_n 9 i266_8 rfl rfl rfl ?_
  refine X.iadd 10 i266_9 rfl rfl (by omega) ?_
  refine X.icmpne 89 13 i266_10 rfl rfl rfl (fun h505 => ?_) (fun h505 => ?_)
  · refine X.cut [] i266_89 rfl ?_
    refine X.iconst 90 i266_89 rfl rfl (by decide) ?_
    refine X.retz i266_90 rfl t266 (by omega) ?_
    exact hQ 0 (by first | trivial | omega) (Eq.trans (zn_eq hFv503.symm) (Eq.trans (if_neg h505) rfl)) 
  · refine X.aload_n 14 i266_13 rfl rfl rfl ?_
    refine X.getF 17 i266_14 rfl rfl (by decide) rfl rfl ?_
    refine X.aload_n 18 i266_17 rfl rfl rfl ?_
    refine X.getI 21 8 i266_18 rfl rfl (by decide) rfl rfl rfl ?_
    refine X.bald 22 i266_21 rfl rfl (by decide) rfl (by omega) (fun h506 => ?_)
    refine X.iload_n 23 i266_22 rfl rfl rfl ?_
    refine X.icmpne 89 26 i266_23 rfl rfl rfl (fun h507 => ?_) (fun h507 => ?_)
    · refine X.cut [] i266_89 rfl ?_
      refine X.iconst 90 i266_89 rfl rfl (by decide) ?_
      refine X.retz i266_90 rfl t266 (by omega) ?_
      exact hQ 0 (by first | trivial | omega) (Eq.trans (zn_eq hFv503.symm) (Eq.trans (if_pos h505) (Eq.trans (if_neg h507) rfl))) 
    · refine X.aload_n 27 i266_26 rfl rfl rfl ?_
      refine X.getF 30 i266_27 rfl rfl (by decide) rfl rfl ?_
      refine X.aload_n 31 i266_30 rfl rfl rfl ?_
      refine X.getI 34 8 i266_31 rfl rfl (by decide) rfl rfl rfl ?_
      refine X.iconst 35 i266_34 rfl rfl (by decide) ?_
      refine X.iadd 36 i266_35 rfl rfl (by omega) ?_
      refine X.bald 37 i266_36 rfl rfl (by decide) rfl (by omega) (fun h508 => ?_)
      refine X.iload_n 38 i266_37 rfl rfl rfl ?_
      refine X.icmpne 89 41 i266_38 rfl rfl rfl (fun h509 => ?_) (fun h509 => ?_)
      · refine X.cut [] i266_89 rfl ?_
        refine X.iconst 90 i266_89 rfl rfl (by decide) ?_
        refine X.retz i266_90 rfl t266 (by omega) ?_
        exact hQ 0 (by first | trivial | omega) (Eq.trans (zn_eq hFv503.symm) (Eq.trans (if_pos h505) (Eq.trans (if_pos h507) (Eq.trans (if_neg h509) rfl)))) 
      · refine X.aload_n 42 i266_41 rfl rfl rfl ?_
        refine X.getF 45 i266_42 rfl rfl (by decide) rfl rfl ?_
        refine X.aload_n 46 i266_45 rfl rfl rfl ?_
        refine X.getI 49 8 i266_46 rfl rfl (by decide) rfl rfl rfl ?_
        refine X.iconst 50 i266_49 rfl rfl (by decide) ?_
        refine X.iadd 51 i266_50 rfl rfl (by omega) ?_
        refine X.bald 52 i266_51 rfl rfl (by decide) rfl (by omega) (fun h510 => ?_)
        refine X.iload 54 i266_52 rfl rfl rfl ?_
        refine X.icmpne 89 57 i266_54 rfl rfl rfl (fun h511 => ?_) (fun h511 => ?_)
        · refine X.cut [] i266_89 rfl ?_
          refine X.iconst 90 i266_89 rfl rfl (by decide) ?_
          refine X.retz i266_90 rfl t266 (by omega) ?_
          exact hQ 0 (by first | trivial | omega) (Eq.trans (zn_eq hFv503.symm) (Eq.trans (if_pos h505) (Eq.trans (if_pos h507) (Eq.trans (if_pos h509) (Eq.trans (if_neg h511) rfl))))) 
        · refine X.aload_n 58 i266_57 rfl rfl rfl ?_
          refine X.getF 61 i266_58 rfl rfl (by decide) rfl rfl ?_
          refine X.aload_n 62 i266_61 rfl rfl rfl ?_
          refine X.getI 65 8 i266_62 rfl rfl (by decide) rfl rfl rfl ?_
          refine X.iconst 66 i266_65 rfl rfl (by decide) ?_
          refine X.iadd 67 i266_66 rfl rfl (by omega) ?_
          refine X.bald 68 i266_67 rfl rfl (by decide) rfl (by omega) (fun h512 => ?_)
          refine X.iload 70 i266_68 rfl rfl rfl ?_
          refine X.icmpne 89 73 i266_70 rfl rfl rfl (fun h513 => ?_) (fun h513 => ?_)
          · refine X.cut [] i266_89 rfl ?_
            refine X.iconst 90 i266_89 rfl rfl (by decide) ?_
            refine X.retz i266_90 rfl t266 (by omega) ?_
            exact hQ 0 (by first | trivial | omega) (Eq.trans (zn_eq hFv503.symm) (Eq.trans (if_pos h505) (Eq.trans (if_pos h507) (Eq.trans (if_pos h509) (Eq.trans (if_pos h511) (Eq.trans (if_neg h513) rfl)))))) 
          · refine X.aload_n 74 i266_73 rfl rfl rfl ?_
            refine X.getF 77 i266_74 rfl rfl (by decide) rfl rfl ?_
            refine X.aload_n 78 i266_77 rfl rfl rfl ?_
            refine X.getI 81 8 i266_78 rfl rfl (by decide) rfl rfl rfl ?_
            refine X.iconst 82 i266_81 rfl rfl (by decide) ?_
            refine X.iadd 83 i266_82 rfl rfl (by omega) ?_
            refine X.bald 84 i266_83 rfl rfl (by decide) rfl (by omega) (fun h514 => ?_)
            refine X.iload 86 i266_84 rfl rfl rfl ?_
            refine X.icmpeq 91 89 i266_86 rfl rfl rfl (fun h515 => ?_) (fun h515 => ?_)
            · refine X.cut [(0, zr 4 44), (1, zi a1), (7, zi a7), (8, zi a8)] i266_91 rfl ?_
              refine X.iload_n 92 i266_91 rfl rfl rfl ?_
              refine X.bipush 94 i266_92 rfl rfl (by decide) ?_
              have hK526 : ∀ (v : Int) , (0 ≤ v ∧ v ≤ 1) → (if a1 < 6 then
                  (1)
                  else
                  (if (m 4 48 ((m 4 44 8) + 5)) = a7 then
                  (if a1 < 7 then
                  (1)
                  else
                  (if (m 4 48 ((m 4 44 8) + 6)) = a8 then
                  (1)
                  else
                  (0)))
                  else
                  (0))) = v → X (EE s) d 266 141 [] [zi v] m Q := by
                intro v523 hv523 hT527
                refine X.retz i266_141 rfl t266 (by omega) ?_
                exact hQ v523 (by first | trivial | omega) (Eq.trans (zn_eq hFv503.symm) (Eq.trans (if_pos h505) (Eq.trans (if_pos h507) (Eq.trans (if_pos h509) (Eq.trans (if_pos h511) (Eq.trans (if_pos h513) (Eq.trans (if_pos h515) (Eq.trans (zn_eq hT527.symm) rfl)))))))) 
              refine X.icmplt 113 97 i266_94 rfl rfl rfl (fun h516 => ?_) (fun h516 => ?_)
              · refine X.cut [(0, zr 4 44), (1, zi a1), (8, zi a8)] i266_113 rfl ?_
                refine X.iload_n 114 i266_113 rfl rfl rfl ?_
                refine X.bipush 116 i266_114 rfl rfl (by decide) ?_
                refine X.icmplt 136 119 i266_116 rfl rfl rfl (fun h517 => ?_) (fun h517 => (by exfalso; omega))
                refine X.cut [] i266_136 rfl ?_
                refine X.iconst 137 i266_136 rfl rfl (by decide) ?_
                refine X.goto 141 i266_137 rfl rfl ?_
                exact hK526 1 (by first | trivial | omega) (Eq.trans (if_pos h516) rfl)
              · refine X.aload_n 98 i266_97 rfl rfl rfl ?_
                refine X.getF 101 i266_98 rfl rfl (by decide) rfl rfl ?_
                refine X.aload_n 102 i266_101 rfl rfl rfl ?_
                refine X.getI 105 8 i266_102 rfl rfl (by decide) rfl rfl rfl ?_
                refine X.iconst 106 i266_105 rfl rfl (by decide) ?_
                refine X.iadd 107 i266_106 rfl rfl (by omega) ?_
                refine X.bald 108 i266_107 rfl rfl (by decide) rfl (by omega) (fun h518 => ?_)
                refine X.iload 110 i266_108 rfl rfl rfl ?_
                refine X.icmpne 140 113 i266_110 rfl rfl rfl (fun h519 => ?_) (fun h519 => ?_)
                · refine X.cut [] i266_140 rfl ?_
                  refine X.iconst 141 i266_140 rfl rfl (by decide) ?_
                  exact hK526 0 (by first | trivial | omega) (Eq.trans (if_neg h516) (Eq.trans (if_neg h519) rfl))
                · refine X.cut [(0, zr 4 44), (1, zi a1), (8, zi a8)] i266_113 rfl ?_
                  refine X.iload_n 114 i266_113 rfl rfl rfl ?_
                  refine X.bipush 116 i266_114 rfl rfl (by decide) ?_
                  refine X.icmplt 136 119 i266_116 rfl rfl rfl (fun h520 => ?_) (fun h520 => ?_)
                  · refine X.cut [] i266_136 rfl ?_
                    refine X.iconst 137 i266_136 rfl rfl (by decide) ?_
                    refine X.goto 141 i266_137 rfl rfl ?_
                    exact hK526 1 (by first | trivial | omega) (Eq.trans (if_neg h516) (Eq.trans (if_pos h519) (Eq.trans (if_pos h520) rfl)))
                  · refine X.aload_n 120 i266_119 rfl rfl rfl ?_
                    refine X.getF 123 i266_120 rfl rfl (by decide) rfl rfl ?_
                    refine X.aload_n 124 i266_123 rfl rfl rfl ?_
                    refine X.getI 127 8 i266_124 rfl rfl (by decide) rfl rfl rfl ?_
                    refine X.bipush 129 i266_127 rfl rfl (by decide) ?_
                    refine X.iadd 130 i266_129 rfl rfl (by omega) ?_
                    refine X.bald 131 i266_130 rfl rfl (by decide) rfl (by omega) (fun h521 => ?_)
                    refine X.iload 133 i266_131 rfl rfl rfl ?_
                    refine X.icmpne 140 136 i266_133 rfl rfl rfl (fun h522 => ?_) (fun h522 => ?_)
                    · refine X.cut [] i266_140 rfl ?_
                      refine X.iconst 141 i266_140 rfl rfl (by decide) ?_
                      exact hK526 0 (by first | trivial | omega) (Eq.trans (if_neg h516) (Eq.trans (if_pos h519) (Eq.trans (if_neg h520) (Eq.trans (if_neg h522) rfl))))
                    · refine X.cut [] i266_136 rfl ?_
                      refine X.iconst 137 i266_136 rfl rfl (by decide) ?_
                      refine X.goto 141 i266_137 rfl rfl ?_
                      exact hK526 1 (by first | trivial | omega) (Eq.trans (if_neg h516) (Eq.trans (if_pos h519) (Eq.trans (if_neg h520) (Eq.trans (if_pos h522) rfl))))
            · refine X.cut [] i266_89 rfl ?_
              refine X.iconst 90 i266_89 rfl rfl (by decide) ?_
              refine X.retz i266_90 rfl t266 (by omega) ?_
              exact hQ 0 (by first | trivial | omega) (Eq.trans (zn_eq hFv503.symm) (Eq.trans (if_pos h505) (Eq.trans (if_pos h507) (Eq.trans (if_pos h509) (Eq.trans (if_pos h511) (Eq.trans (if_pos h513) (Eq.trans (if_neg h515) rfl))))))) 
-- WorkMeterModel.spells
theorem c266_4 {s : Nat × (Nat → Int32)} {S : zS} {m0 m : zM} {B : Int} {d : Nat} {Q : Option zV → zM → Prop} (a1 a2 a3 a4 a5 a6 a7 a8 : Int) (hd : 14 ≤ d) (hJ : J S m0 B m) (hB : B + 0 ≤ 1000000000) (ha1 : 5 ≤ a1 ∧ a1 ≤ 7) (ha2 : 112 ≤ a2 ∧ a2 ≤ 112) (ha3 : 114 ≤ a3 ∧ a3 ≤ 114) (ha4 : 105 ≤ a4 ∧ a4 ≤ 105) (ha5 : 99 ≤ a5 ∧ a5 ≤ 99) (ha6 : 101 ≤ a6 ∧ a6 ≤ 101) (ha7 : 0 ≤ a7 ∧ a7 ≤ 0) (ha8 : 0 ≤ a8 ∧ a8 ≤ 0) (hQ : ∀ (v : Int), (0 ≤ v ∧ v ≤ 1) → f266_1 a1 a2 a3 a4 a5 a6 a7 a8 m = v → Q (some (zi v)) m) : X (EE s) d 266 0 [(0, zr 4 44), (1, zi a1), (2, zi a2), (3, zi a3), (4, zi a4), (5, zi a5), (6, zi a6), (7, zi a7), (8, zi a8)] [] m Q := by
  refine X.aload_n 1 i266_0 rfl rfl rfl ?_
  refine X.callv 4 [] [] [(0, zr 4 44)] i266_1 rfl (by decide) rfl rfl (by omega) rfl rfl (by decide) rfl t267 (Nat.le_of_ble_eq_true rfl) (Nat.le_of_ble_eq_true rfl) rfl ?_
  refine c267_1 (B := B)   (by omega) (hJ.up (by omega)) (by omega)  (fun v503 hv503 hFv503 hqv503_0 => ?_)
  show X (EE s) d 266 4 [(0, zr 4 44), (1, zi a1), (2, zi a2), (3, zi a3), (4, zi a4), (5, zi a5), (6, zi a6), (7, zi a7), (8, zi a8)] [zi v503] m _
  refine X.aload_n 5 i266_4 rfl rfl rfl ?_
  refine X.getI 8 8 i266_5 rfl rfl (by decide) rfl rfl rfl ?_
  have h504 := r44_8 hJ 4
  refine X.iload_n 9 i266_8 rfl rfl rfl ?_
  refine X.iadd 10 i266_9 rfl rfl (by omega) ?_
  refine X.icmpne 89 13 i266_10 rfl rfl rfl (fun h505 => ?_) (fun h505 => ?_)
  · refine X.cut [] i266_89 rfl ?_
    refine X.iconst 90 i266_89 rfl rfl (by decide) ?_
    refine X.retz i266_90 rfl t266 (by omega) ?_
    exact hQ 0 (by first | trivial | omega) (Eq.trans (zn_eq hFv503.symm) (Eq.trans (if_neg h505) rfl)) 
  · refine X.aload_n 14 i266_13 rfl rfl rfl ?_
    refine X.getF 17 i266_14 rfl rfl (by decide) rfl rfl ?_
    refine X.aload_n 18 i266_17 rfl rfl rfl ?_
    refine X.getI 21 8 i266_18 rfl rfl (by decide) rfl rfl rfl ?_
    refine X.bald 22 i266_21 rfl rfl (by decide) rfl (by omega) (fun h506 => ?_)
    refine X.iload_n 23 i266_22 rfl rfl rfl ?_
    refine X.icmpne 89 26 i266_23 rfl rfl rfl (fun h507 => ?_) (fun h507 => ?_)
    · refine X.cut [] i266_89 rfl ?_
      refine X.iconst 90 i266_89 rfl rfl (by decide) ?_
      refine X.retz i266_90 rfl t266 (by omega) ?_
      exact hQ 0 (by first | trivial | omega) (Eq.trans (zn_eq hFv503.symm) (Eq.trans (if_pos h505) (Eq.trans (if_neg h507) rfl))) 
    · refine X.aload_n 27 i266_26 rfl rfl rfl ?_
      refine X.getF 30 i266_27 rfl rfl (by decide) rfl rfl ?_
      refine X.aload_n 31 i266_30 rfl rfl rfl ?_
      refine X.getI 34 8 i266_31 rfl rfl (by decide) rfl rfl rfl ?_
      refine X.iconst 35 i266_34 rfl rfl (by decide) ?_
      refine X.iadd 36 i266_35 rfl rfl (by omega) ?_
      refine X.bald 37 i266_36 rfl rfl (by decide) rfl (by omega) (fun h508 => ?_)
      refine X.iload_n 38 i266_37 rfl rfl rfl ?_
      refine X.icmpne 89 41 i266_38 rfl rfl rfl (fun h509 => ?_) (fun h509 => ?_)
      · refine X.cut [] i266_89 rfl ?_
        refine X.iconst 90 i266_89 rfl rfl (by decide) ?_
        refine X.retz i266_90 rfl t266 (by omega) ?_
        exact hQ 0 (by first | trivial | omega) (Eq.trans (zn_eq hFv503.symm) (Eq.trans (if_pos h505) (Eq.trans (if_pos h507) (Eq.trans (if_neg h509) rfl)))) 
      · refine X.aload_n 42 i266_41 rfl rfl rfl ?_
        refine X.getF 45 i266_42 rfl rfl (by decide) rfl rfl ?_
        refine X.aload_n 46 i266_45 rfl rfl rfl ?_
        refine X.getI 49 8 i266_46 rfl rfl (by decide) rfl rfl rfl ?_
        refine X.iconst 50 i266_49 rfl rfl (by decide) ?_
        refine X.iadd 51 i266_50 rfl rfl (by omega) ?_
        refine X.bald 52 i266_51 rfl rfl (by decide) rfl (by omega) (fun h510 => ?_)
        refine X.iload 54 i266_52 rfl rfl rfl ?_
        refine X.icmpne 89 57 i266_54 rfl rfl rfl (fun h511 => ?_) (fun h511 => ?_)
        · refine X.cut [] i266_89 rfl ?_
          refine X.iconst 90 i266_89 rfl rfl (by decide) ?_
          refine X.retz i266_90 rfl t266 (by omega) ?_
          exact hQ 0 (by first | trivial | omega) (Eq.trans (zn_eq hFv503.symm) (Eq.trans (if_pos h505) (Eq.trans (if_pos h507) (Eq.trans (if_pos h509) (Eq.trans (if_neg h511) rfl))))) 
        · refine X.aload_n 58 i266_57 rfl rfl rfl ?_
          refine X.getF 61 i266_58 rfl rfl (by decide) rfl rfl ?_
          refine X.aload_n 62 i266_61 rfl rfl rfl ?_
          refine X.getI 65 8 i266_62 rfl rfl (by decide) rfl rfl rfl ?_
          refine X.iconst 66 i266_65 rfl rfl (by decide) ?_
          refine X.iadd 67 i266_66 rfl rfl (by omega) ?_
          refine X.bald 68 i266_67 rfl rfl (by decide) rfl (by omega) (fun h512 => ?_)
          refine X.iload 70 i266_68 rfl rfl rfl ?_
          refine X.icmpne 89 73 i266_70 rfl rfl rfl (fun h513 => ?_) (fun h513 => ?_)
          · refine X.cut [] i266_89 rfl ?_
            refine X.iconst 90 i266_89 rfl rfl (by decide) ?_
            refine X.retz i266_90 rfl t266 (by omega) ?_
            exact hQ 0 (by first | trivial | omega) (Eq.trans (zn_eq hFv503.symm) (Eq.trans (if_pos h505) (Eq.trans (if_pos h507) (Eq.trans (if_pos h509) (Eq.trans (if_pos h511) (Eq.trans (if_neg h513) rfl)))))) 
          · refine X.aload_n 74 i266_73 rfl rfl rfl ?_
            refine X.getF 77 i266_74 rfl rfl (by decide) rfl rfl ?_
            refine X.aload_n 78 i266_77 rfl rfl rfl ?_
            refine X.getI 81 8 i266_78 rfl rfl (by decide) rfl rfl rfl ?_
            refine X.iconst 82 i266_81 rfl rfl (by decide) ?_
            refine X.iadd 83 i266_82 rfl rfl (by omega) ?_
            refine X.bald 84 i266_83 rfl rfl (by decide) rfl (by omega) (fun h514 => ?_)
            refine X.iload 86 i266_84 rfl rfl rfl ?_
            refine X.icmpeq 91 89 i266_86 rfl rfl rfl (fun h515 => ?_) (fun h515 => ?_)
            · refine X.cut [(0, zr 4 44), (1, zi a1), (7, zi a7), (8, zi a8)] i266_91 rfl ?_
              refine X.iload_n 92 i266_91 rfl rfl rfl ?_
              refine X.bipush 94 i266_92 rfl rfl (by decide) ?_
              have hK526 : ∀ (v : Int) , (0 ≤ v ∧ v ≤ 1) → (if a1 < 6 then
                  (1)
                  else
                  (if (m 4 48 ((m 4 44 8) + 5)) = a7 then
                  (if a1 < 7 then
                  (1)
                  else
                  (if (m 4 48 ((m 4 44 8) + 6)) = a8 then
                  (1)
                  else
                  (0)))
                  else
                  (0))) = v → X (EE s) d 266 141 [] [zi v] m Q := by
                intro v523 hv523 hT527
                refine X.retz i266_141 rfl t266 (by omega) ?_
                exact hQ v523 (by first | trivial | omega) (Eq.trans (zn_eq hFv503.symm) (Eq.trans (if_pos h505) (Eq.trans (if_pos h507) (Eq.trans (if_pos h509) (Eq.trans (if_pos h511) (Eq.trans (if_pos h513) (Eq.trans (if_pos h515) (Eq.trans (zn_eq hT527.symm) rfl)))))))) 
              refine X.icmplt 113 97 i266_94 rfl rfl rfl (fun h516 => ?_) (fun h516 => ?_)
              · refine X.cut [(0, zr 4 44), (1, zi a1), (8, zi a8)] i266_113 rfl ?_
                refine X.iload_n 114 i266_113 rfl rfl rfl ?_
                refine X.bipush 116 i266_114 rfl rfl (by decide) ?_
                refine X.icmplt 136 119 i266_116 rfl rfl rfl (fun h517 => ?_) (fun h517 => (by exfalso; omega))
                refine X.cut [] i266_136 rfl ?_
                refine X.iconst 137 i266_136 rfl rfl (by decide) ?_
                refine X.goto 141 i266_137 rfl rfl ?_
                exact hK526 1 (by first | trivial | omega) (Eq.trans (if_pos h516) rfl)
              · refine X.aload_n 98 i266_97 rfl rfl rfl ?_
                refine X.getF 101 i266_98 rfl rfl (by decide) rfl rfl ?_
                refine X.aload_n 102 i266_101 rfl rfl rfl ?_
                refine X.getI 105 8 i266_102 rfl rfl (by decide) rfl rfl rfl ?_
                refine X.iconst 106 i266_105 rfl rfl (by decide) ?_
                refine X.iadd 107 i266_106 rfl rfl (by omega) ?_
                refine X.bald 108 i266_107 rfl rfl (by decide) rfl (by omega) (fun h518 => ?_)
                refine X.iload 110 i266_108 rfl rfl rfl ?_
                refine X.icmpne 140 113 i266_110 rfl rfl rfl (fun h519 => ?_) (fun h519 => ?_)
                · refine X.cut [] i266_140 rfl ?_
                  refine X.iconst 141 i266_140 rfl rfl (by decide) ?_
                  exact hK526 0 (by first | trivial | omega) (Eq.trans (if_neg h516) (Eq.trans (if_neg h519) rfl))
                · refine X.cut [(0, zr 4 44), (1, zi a1), (8, zi a8)] i266_113 rfl ?_
                  refine X.iload_n 114 i266_113 rfl rfl rfl ?_
                  refine X.bipush 116 i266_114 rfl rfl (by decide) ?_
                  refine X.icmplt 136 119 i266_116 rfl rfl rfl (fun h520 => ?_) (fun h520 => ?_)
                  · refine X.cut [] i266_136 rfl ?_
                    refine X.iconst 137 i266_136 rfl rfl (by decide) ?_
                    refine X.goto 141 i266_137 rfl rfl ?_
                    exact hK526 1 (by first | trivial | omega) (Eq.trans (if_neg h516) (Eq.trans (if_pos h519) (Eq.trans (if_pos h520) rfl)))
                  · refine X.aload_n 120 i266_119 rfl rfl rfl ?_
                    refine X.getF 123 i266_120 rfl rfl (by decide) rfl rfl ?_
                    refine X.aload_n 124 i266_123 rfl rfl rfl ?_
                    refine X.getI 127 8 i266_124 rfl rfl (by decide) rfl rfl rfl ?_
                    refine X.bipush 129 i266_127 rfl rfl (by decide) ?_
                    refine X.iadd 130 i266_129 rfl rfl (by omega) ?_
                    refine X.bald 131 i266_130 rfl rfl (by decide) rfl (by omega) (fun h521 => ?_)
                    refine X.iload 133 i266_131 rfl rfl rfl ?_
                    refine X.icmpne 140 136 i266_133 rfl rfl rfl (fun h522 => ?_) (fun h522 => ?_)
                    · refine X.cut [] i266_140 rfl ?_
                      refine X.iconst 141 i266_140 rfl rfl (by decide) ?_
                      exact hK526 0 (by first | trivial | omega) (Eq.trans (if_neg h516) (Eq.trans (if_pos h519) (Eq.trans (if_neg h520) (Eq.trans (if_neg h522) rfl))))
                    · refine X.cut [] i266_136 rfl ?_
                      refine X.iconst 137 i266_136 rfl rfl (by decide) ?_
                      refine X.goto 141 i266_137 rfl rfl ?_
                      exact hK526 1 (by first | trivial | omega) (Eq.trans (if_neg h516) (Eq.trans (if_pos h519) (Eq.trans (if_neg h520) (Eq.trans (if_pos h522) rfl))))
            · refine X.cut [] i266_89 rfl ?_
              refine X.iconst 90 i266_89 rfl rfl (by decide) ?_
              refine X.retz i266_90 rfl t266 (by omega) ?_
              exact hQ 0 (by first | trivial | omega) (Eq.trans (zn_eq hFv503.symm) (Eq.trans (if_pos h505) (Eq.trans (if_pos h507) (Eq.trans (if_pos h509) (Eq.trans (if_pos h511) (Eq.trans (if_pos h513) (Eq.trans (if_neg h515) rfl))))))) 
-- WorkMeterModel.word
noncomputable def f265_1 (m : zM) : Int :=
  zn (f266_1 5 116 97 98 108 101 0 0 m) fun v503 =>
  if v503 = 0 then
  (zn (f266_1 6 115 101 97 115 111 110 0 m) fun v507 =>
  if v507 = 0 then
  (zn (f266_1 7 115 112 101 99 105 97 108 m) fun v511 =>
  if v511 = 0 then
  (zn (f266_1 5 112 114 105 99 101 0 0 m) fun v515 =>
  zn (if v515 = 0 then
  (0)
  else
  (4)) fun v517 =>
  v517)
  else
  (3))
  else
  (2))
  else
  (1)
-- WorkMeterModel.word
theorem c265_1 {s : Nat × (Nat → Int32)} {S : zS} {m0 m : zM} {B : Int} {d : Nat} {Q : Option zV → zM → Prop} (hd : 15 ≤ d) (hJ : J S m0 B m) (hB : B + 0 ≤ 1000000000) (hQ : ∀ (v : Int), (0 ≤ v ∧ v ≤ 4) → f265_1 m = v → Q (some (zi v)) m) : X (EE s) d 265 0 [(0, zr 4 44)] [] m Q := by
  refine X.aload_n 1 i265_0 rfl rfl rfl ?_
  refine X.iconst 2 i265_1 rfl rfl (by decide) ?_
  refine X.bipush 4 i265_2 rfl rfl (by decide) ?_
  refine X.bipush 6 i265_4 rfl rfl (by decide) ?_
  refine X.bipush 8 i265_6 rfl rfl (by decide) ?_
  refine X.bipush 10 i265_8 rfl rfl (by decide) ?_
  refine X.bipush 12 i265_10 rfl rfl (by decide) ?_
  refine X.iconst 13 i265_12 rfl rfl (by decide) ?_
  refine X.iconst 14 i265_13 rfl rfl (by decide) ?_
  refine X.callv 17 [zi 5, zi 116, zi 97, zi 98, zi 108, zi 101, zi 0, zi 0] [] [(0, zr 4 44), (1, zi 5), (2, zi 116), (3, zi 97), (4, zi 98), (5, zi 108), (6, zi 101), (7, zi 0), (8, zi 0)] i265_14 rfl (by decide) rfl rfl (by omega) rfl rfl (by decide) rfl t266 (Nat.le_of_ble_eq_true rfl) (Nat.le_of_ble_eq_true rfl) rfl ?_
  refine c266_1 (B := B)  5 116 97 98 108 101 0 0 (by omega) (hJ.up (by omega)) (by omega) (by omega) (by omega) (by omega) (by omega) (by omega) (by omega) (by omega) (by omega) (fun v503 hv503 hFv503 => ?_)
  show X (EE s) d 265 17 [(0, zr 4 44)] [zi v503] m _
  refine X.ifeq 22 20 i265_17 rfl rfl rfl (fun h504 => ?_) (fun h504 => ?_)
  · refine X.aload_n 23 i265_22 rfl rfl rfl ?_
    refine X.bipush 25 i265_23 rfl rfl (by decide) ?_
    refine X.bipush 27 i265_25 rfl rfl (by decide) ?_
    refine X.bipush 29 i265_27 rfl rfl (by decide) ?_
    refine X.bipush 31 i265_29 rfl rfl (by decide) ?_
    refine X.bipush 33 i265_31 rfl rfl (by decide) ?_
    refine X.bipush 35 i265_33 rfl rfl (by decide) ?_
    refine X.bipush 37 i265_35 rfl rfl (by decide) ?_
    refine X.iconst 38 i265_37 rfl rfl (by decide) ?_
    refine X.callv 41 [zi 6, zi 115, zi 101, zi 97, zi 115, zi 111, zi 110, zi 0] [] [(0, zr 4 44), (1, zi 6), (2, zi 115), (3, zi 101), (4, zi 97), (5, zi 115), (6, zi 111), (7, zi 110), (8, zi 0)] i265_38 rfl (by decide) rfl rfl (by omega) rfl rfl (by decide) rfl t266 (Nat.le_of_ble_eq_true rfl) (Nat.le_of_ble_eq_true rfl) rfl ?_
    refine c266_2 (B := B)  6 115 101 97 115 111 110 0 (by omega) (hJ.up (by omega)) (by omega) (by omega) (by omega) (by omega) (by omega) (by omega) (by omega) (by omega) (by omega) (fun v507 hv507 hFv507 => ?_)
    show X (EE s) d 265 41 [(0, zr 4 44)] [zi v507] m _
    refine X.ifeq 46 44 i265_41 rfl rfl rfl (fun h508 => ?_) (fun h508 => ?_)
    · refine X.aload_n 47 i265_46 rfl rfl rfl ?_
      refine X.bipush 49 i265_47 rfl rfl (by decide) ?_
      refine X.bipush 51 i265_49 rfl rfl (by decide) ?_
      refine X.bipush 53 i265_51 rfl rfl (by decide) ?_
      refine X.bipush 55 i265_53 rfl rfl (by decide) ?_
      refine X.bipush 57 i265_55 rfl rfl (by decide) ?_
      refine X.bipush 59 i265_57 rfl rfl (by decide) ?_
      refine X.bipush 61 i265_59 rfl rfl (by decide) ?_
      refine X.bipush 63 i265_61 rfl rfl (by decide) ?_
      refine X.callv 66 [zi 7, zi 115, zi 112, zi 101, zi 99, zi 105, zi 97, zi 108] [] [(0, zr 4 44), (1, zi 7), (2, zi 115), (3, zi 112), (4, zi 101), (5, zi 99), (6, zi 105), (7, zi 97), (8, zi 108)] i265_63 rfl (by decide) rfl rfl (by omega) rfl rfl (by decide) rfl t266 (Nat.le_of_ble_eq_true rfl) (Nat.le_of_ble_eq_true rfl) rfl ?_
      refine c266_3 (B := B)  7 115 112 101 99 105 97 108 (by omega) (hJ.up (by omega)) (by omega) (by omega) (by omega) (by omega) (by omega) (by omega) (by omega) (by omega) (by omega) (fun v511 hv511 hFv511 => ?_)
      show X (EE s) d 265 66 [(0, zr 4 44)] [zi v511] m _
      refine X.ifeq 71 69 i265_66 rfl rfl rfl (fun h512 => ?_) (fun h512 => ?_)
      · refine X.aload_n 72 i265_71 rfl rfl rfl ?_
        refine X.iconst 73 i265_72 rfl rfl (by decide) ?_
        refine X.bipush 75 i265_73 rfl rfl (by decide) ?_
        refine X.bipush 77 i265_75 rfl rfl (by decide) ?_
        refine X.bipush 79 i265_77 rfl rfl (by decide) ?_
        refine X.bipush 81 i265_79 rfl rfl (by decide) ?_
        refine X.bipush 83 i265_81 rfl rfl (by decide) ?_
        refine X.iconst 84 i265_83 rfl rfl (by decide) ?_
        refine X.iconst 85 i265_84 rfl rfl (by decide) ?_
        refine X.callv 88 [zi 5, zi 112, zi 114, zi 105, zi 99, zi 101, zi 0, zi 0] [] [(0, zr 4 44), (1, zi 5), (2, zi 112), (3, zi 114), (4, zi 105), (5, zi 99), (6, zi 101), (7, zi 0), (8, zi 0)] i265_85 rfl (by decide) rfl rfl (by omega) rfl rfl (by decide) rfl t266 (Nat.le_of_ble_eq_true rfl) (Nat.le_of_ble_eq_true rfl) rfl ?_
        refine c266_4 (B := B)  5 112 114 105 99 101 0 0 (by omega) (hJ.up (by omega)) (by omega) (by omega) (by omega) (by omega) (by omega) (by omega) (by omega) (by omega) (by omega) (fun v515 hv515 hFv515 => ?_)
        show X (EE s) d 265 88 [(0, zr 4 44)] [zi v515] m _
        have hK520 : ∀ (v : Int) , (0 ≤ v ∧ v ≤ 4) → (if v515 = 0 then
            (0)
            else
            (4)) = v → X (EE s) d 265 96 [] [zi v] m Q := by
          intro v517 hv517 hT521
          refine X.reti i265_96 rfl t265 ?_
          exact hQ v517 (by first | trivial | omega) (Eq.trans (zn_eq hFv503.symm) (Eq.trans (if_pos h504) (Eq.trans (zn_eq hFv507.symm) (Eq.trans (if_pos h508) (Eq.trans (zn_eq hFv511.symm) (Eq.trans (if_pos h512) (Eq.trans (zn_eq hFv515.symm) (Eq.trans (zn_eq hT521.symm) rfl)))))))) 
        refine X.ifeq 95 91 i265_88 rfl rfl rfl (fun h516 => ?_) (fun h516 => ?_)
        · refine X.cut [] i265_95 rfl ?_
          refine X.iconst 96 i265_95 rfl rfl (by decide) ?_
          exact hK520 0 (by first | trivial | omega) (Eq.trans (if_pos h516) rfl)
        · refine X.iconst 92 i265_91 rfl rfl (by decide) ?_
          refine X.goto 96 i265_92 rfl rfl ?_
          refine X.cut [] i265_96 rfl ?_
          exact hK520 4 (by first | trivial | omega) (Eq.trans (if_neg h516) rfl)
      · refine X.iconst 70 i265_69 rfl rfl (by decide) ?_
        refine X.reti i265_70 rfl t265 ?_
        exact hQ 3 (by first | trivial | omega) (Eq.trans (zn_eq hFv503.symm) (Eq.trans (if_pos h504) (Eq.trans (zn_eq hFv507.symm) (Eq.trans (if_pos h508) (Eq.trans (zn_eq hFv511.symm) (Eq.trans (if_neg h512) rfl)))))) 
    · refine X.iconst 45 i265_44 rfl rfl (by decide) ?_
      refine X.reti i265_45 rfl t265 ?_
      exact hQ 2 (by first | trivial | omega) (Eq.trans (zn_eq hFv503.symm) (Eq.trans (if_pos h504) (Eq.trans (zn_eq hFv507.symm) (Eq.trans (if_neg h508) rfl)))) 
  · refine X.iconst 21 i265_20 rfl rfl (by decide) ?_
    refine X.reti i265_21 rfl t265 ?_
    exact hQ 1 (by first | trivial | omega) (Eq.trans (zn_eq hFv503.symm) (Eq.trans (if_neg h504) rfl)) 
-- WorkMeterModel.wrong
noncomputable def f268_1 (a1 a2 : Int) (m : zM) : zM :=
  if (m 4 44 9) = 0 then
  (zs (z_upd m 4 44 9 1) fun m503 =>
  zs (z_upd m503 4 44 6 a1) fun m505 =>
  zs (z_upd m505 4 44 7 a2) fun m507 =>
  m507)
  else
  (m)
-- WorkMeterModel.wrong
theorem c268_1 {s : Nat × (Nat → Int32)} {S : zS} {m0 m : zM} {B : Int} {d : Nat} {Q : Option zV → zM → Prop} (a1 a2 : Int) (hd : 13 ≤ d) (hJ : J S m0 B m) (hB : B + 0 ≤ 1000000000) (ha1 : 1 ≤ a1 ∧ a1 ≤ 1) (ha2 : 0 ≤ a2 ∧ a2 ≤ 300) (hf16 : ¬ S.1 16) (hf19 : ¬ S.1 19) (hg4 : ¬ S.2.1 4) (hQ : ∀ m', f268_1 a1 a2 m = m' → J S m0 (B) m' → (m' 4 44 9 = 1) → (m 4 44 8 ≤ m' 4 44 8) → (m 4 44 9 ≤ m' 4 44 9) → Q none m') : X (EE s) d 268 0 [(0, zr 4 44), (1, zi a1), (2, zi a2)] [] m Q := by
  refine X.aload_n 1 i268_0 rfl rfl rfl ?_
  refine X.getZ 4 9 i268_1 rfl rfl (by decide) rfl rfl rfl (fun h501 => ?_)
  refine X.ifeq 8 7 i268_4 rfl rfl rfl (fun h502 => ?_) (fun h502 => ?_)
  · refine X.aload_n 9 i268_8 rfl rfl rfl ?_
    refine X.iconst 10 i268_9 rfl rfl (by decide) ?_
    refine X.putZ' 13 9 i268_10 rfl rfl (by decide) rfl rfl rfl (by omega) (fun hrm503 m503 hm503 => ?_)
    have hJ504 := w44_9 hJ hm503 (by omega) hf19 hg4
    have em503 : m503 4 44 9 = 1 := by rw [hm503]; exact z_upd_same _ _ _ _ _
    have wmm503_8 : m503 4 44 8 = m 4 44 8 := by rw [hm503]; exact z_upd_o _ _ rfl
    have wmm503_10 : m503 4 44 10 = m 4 44 10 := by rw [hm503]; exact z_upd_o _ _ rfl
    refine X.aload_n 14 i268_13 rfl rfl rfl ?_
    refine X.iload_n 15 i268_14 rfl rfl rfl ?_
    refine X.putI' 18 6 i268_15 rfl rfl (by decide) rfl rfl rfl (fun hrm505 m505 hm505 => ?_)
    have hJ506 := w44_6 hJ504 hm505 (by omega) hrm505 hf16 hg4
    have wmm505_8 : m505 4 44 8 = m503 4 44 8 := by rw [hm505]; exact z_upd_o _ _ rfl
    have wmm505_9 : m505 4 44 9 = m503 4 44 9 := by rw [hm505]; exact z_upd_o _ _ rfl
    have wmm505_10 : m505 4 44 10 = m503 4 44 10 := by rw [hm505]; exact z_upd_o _ _ rfl
    refine X.aload_n 19 i268_18 rfl rfl rfl ?_
    refine X.iload_n 20 i268_19 rfl rfl rfl ?_
    refine X.putI' 23 7 i268_20 rfl rfl (by decide) rfl rfl rfl (fun hrm507 m507 hm507 => ?_)
    have hJ508 := w44_6 hJ506 hm507 (by omega) hrm507 hf16 hg4
    have wmm507_8 : m507 4 44 8 = m505 4 44 8 := by rw [hm507]; exact z_upd_o _ _ rfl
    have wmm507_9 : m507 4 44 9 = m505 4 44 9 := by rw [hm507]; exact z_upd_o _ _ rfl
    have wmm507_10 : m507 4 44 10 = m505 4 44 10 := by rw [hm507]; exact z_upd_o _ _ rfl
    refine X.retv i268_23 rfl t268 ?_
    exact hQ  m507  (Eq.trans (if_pos h502) (Eq.trans (zs_eq hm503) (Eq.trans (zs_eq hm505) (Eq.trans (zs_eq hm507) rfl)))) (hJ508.up (by omega)) (by omega) (by omega) (by omega)
  · refine X.retv i268_7 rfl t268 ?_
    exact hQ  m  (Eq.trans (if_neg h502) rfl) (hJ.up (by omega)) (by omega) (by omega) (by omega)
-- WorkMeterModel.wrong
theorem c268_2 {s : Nat × (Nat → Int32)} {S : zS} {m0 m : zM} {B : Int} {d : Nat} {Q : Option zV → zM → Prop} (a1 a2 : Int) (hd : 13 ≤ d) (hJ : J S m0 B m) (hB : B + 0 ≤ 1000000000) (ha1 : 4 ≤ a1 ∧ a1 ≤ 4) (ha2 : 0 ≤ a2 ∧ a2 ≤ 300) (hf16 : ¬ S.1 16) (hf19 : ¬ S.1 19) (hg4 : ¬ S.2.1 4) (hQ : ∀ m', f268_1 a1 a2 m = m' → J S m0 (B) m' → (m' 4 44 9 = 1) → (m 4 44 8 ≤ m' 4 44 8) → (m 4 44 9 ≤ m' 4 44 9) → Q none m') : X (EE s) d 268 0 [(0, zr 4 44), (1, zi a1), (2, zi a2)] [] m Q := by
  refine X.aload_n 1 i268_0 rfl rfl rfl ?_
  refine X.getZ 4 9 i268_1 rfl rfl (by decide) rfl rfl rfl (fun h501 => ?_)
  refine X.ifeq 8 7 i268_4 rfl rfl rfl (fun h502 => ?_) (fun h502 => ?_)
  · refine X.aload_n 9 i268_8 rfl rfl rfl ?_
    refine X.iconst 10 i268_9 rfl rfl (by decide) ?_
    refine X.putZ' 13 9 i268_10 rfl rfl (by decide) rfl rfl rfl (by omega) (fun hrm503 m503 hm503 => ?_)
    have hJ504 := w44_9 hJ hm503 (by omega) hf19 hg4
    have em503 : m503 4 44 9 = 1 := by rw [hm503]; exact z_upd_same _ _ _ _ _
    have wmm503_8 : m503 4 44 8 = m 4 44 8 := by rw [hm503]; exact z_upd_o _ _ rfl
    have wmm503_10 : m503 4 44 10 = m 4 44 10 := by rw [hm503]; exact z_upd_o _ _ rfl
    refine X.aload_n 14 i268_13 rfl rfl rfl ?_
    refine X.iload_n 15 i268_14 rfl rfl rfl ?_
    refine X.putI' 18 6 i268_15 rfl rfl (by decide) rfl rfl rfl (fun hrm505 m505 hm505 => ?_)
    have hJ506 := w44_6 hJ504 hm505 (by omega) hrm505 hf16 hg4
    have wmm505_8 : m505 4 44 8 = m503 4 44 8 := by rw [hm505]; exact z_upd_o _ _ rfl
    have wmm505_9 : m505 4 44 9 = m503 4 44 9 := by rw [hm505]; exact z_upd_o _ _ rfl
    have wmm505_10 : m505 4 44 10 = m503 4 44 10 := by rw [hm505]; exact z_upd_o _ _ rfl
    refine X.aload_n 19 i268_18 rfl rfl rfl ?_
    refine X.iload_n 20 i268_19 rfl rfl rfl ?_
    refine X.putI' 23 7 i268_20 rfl rfl (by decide) rfl rfl rfl (fun hrm507 m507 hm507 => ?_)
    have hJ508 := w44_6 hJ506 hm507 (by omega) hrm507 hf16 hg4
    have wmm507_8 : m507 4 44 8 = m505 4 44 8 := by rw [hm507]; exact z_upd_o _ _ rfl
    have wmm507_9 : m507 4 44 9 = m505 4 44 9 := by rw [hm507]; exact z_upd_o _ _ rfl
    have wmm507_10 : m507 4 44 10 = m505 4 44 10 := by rw [hm507]; exact z_upd_o _ _ rfl
    refine X.retv i268_23 rfl t268 ?_
    exact hQ  m507  (Eq.trans (if_pos h502) (Eq.trans (zs_eq hm503) (Eq.trans (zs_eq hm505) (Eq.trans (zs_eq hm507) rfl)))) (hJ508.up (by omega)) (by omega) (by omega) (by omega)
  · refine X.retv i268_7 rfl t268 ?_
    exact hQ  m  (Eq.trans (if_neg h502) rfl) (hJ.up (by omega)) (by omega) (by omega) (by omega)
-- WorkMeterModel.wrong
theorem c268_3 {s : Nat × (Nat → Int32)} {S : zS} {m0 m : zM} {B : Int} {d : Nat} {Q : Option zV → zM → Prop} (a1 a2 : Int) (hd : 13 ≤ d) (hJ : J S m0 B m) (hB : B + 0 ≤ 1000000000) (ha1 : 3 ≤ a1 ∧ a1 ≤ 3) (ha2 : 0 ≤ a2 ∧ a2 ≤ 300) (hf16 : ¬ S.1 16) (hf19 : ¬ S.1 19) (hg4 : ¬ S.2.1 4) (hQ : ∀ m', f268_1 a1 a2 m = m' → J S m0 (B) m' → (m' 4 44 9 = 1) → (m 4 44 8 ≤ m' 4 44 8) → (m 4 44 9 ≤ m' 4 44 9) → Q none m') : X (EE s) d 268 0 [(0, zr 4 44), (1, zi a1), (2, zi a2)] [] m Q := by
  refine X.aload_n 1 i268_0 rfl rfl rfl ?_
  refine X.getZ 4 9 i268_1 rfl rfl (by decide) rfl rfl rfl (fun h501 => ?_)
  refine X.ifeq 8 7 i268_4 rfl rfl rfl (fun h502 => ?_) (fun h502 => ?_)
  · refine X.aload_n 9 i268_8 rfl rfl rfl ?_
    refine X.iconst 10 i268_9 rfl rfl (by decide) ?_
    refine X.putZ' 13 9 i268_10 rfl rfl (by decide) rfl rfl rfl (by omega) (fun hrm503 m503 hm503 => ?_)
    have hJ504 := w44_9 hJ hm503 (by omega) hf19 hg4
    have em503 : m503 4 44 9 = 1 := by rw [hm503]; exact z_upd_same _ _ _ _ _
    have wmm503_8 : m503 4 44 8 = m 4 44 8 := by rw [hm503]; exact z_upd_o _ _ rfl
    have wmm503_10 : m503 4 44 10 = m 4 44 10 := by rw [hm503]; exact z_upd_o _ _ rfl
    refine X.aload_n 14 i268_13 rfl rfl rfl ?_
    refine X.iload_n 15 i268_14 rfl rfl rfl ?_
    refine X.putI' 18 6 i268_15 rfl rfl (by decide) rfl rfl rfl (fun hrm505 m505 hm505 => ?_)
    have hJ506 := w44_6 hJ504 hm505 (by omega) hrm505 hf16 hg4
    have wmm505_8 : m505 4 44 8 = m503 4 44 8 := by rw [hm505]; exact z_upd_o _ _ rfl
    have wmm505_9 : m505 4 44 9 = m503 4 44 9 := by rw [hm505]; exact z_upd_o _ _ rfl
    have wmm505_10 : m505 4 44 10 = m503 4 44 10 := by rw [hm505]; exact z_upd_o _ _ rfl
    refine X.aload_n 19 i268_18 rfl rfl rfl ?_
    refine X.iload_n 20 i268_19 rfl rfl rfl ?_
    refine X.putI' 23 7 i268_20 rfl rfl (by decide) rfl rfl rfl (fun hrm507 m507 hm507 => ?_)
    have hJ508 := w44_6 hJ506 hm507 (by omega) hrm507 hf16 hg4
    have wmm507_8 : m507 4 44 8 = m505 4 44 8 := by rw [hm507]; exact z_upd_o _ _ rfl
    have wmm507_9 : m507 4 44 9 = m505 4 44 9 := by rw [hm507]; exact z_upd_o _ _ rfl
    have wmm507_10 : m507 4 44 10 = m505 4 44 10 := by rw [hm507]; exact z_upd_o _ _ rfl
    refine X.retv i268_23 rfl t268 ?_
    exact hQ  m507  (Eq.trans (if_pos h502) (Eq.trans (zs_eq hm503) (Eq.trans (zs_eq hm505) (Eq.trans (zs_eq hm507) rfl)))) (hJ508.up (by omega)) (by omega) (by omega) (by omega)
  · refine X.retv i268_7 rfl t268 ?_
    exact hQ  m  (Eq.trans (if_neg h502) rfl) (hJ.up (by omega)) (by omega) (by omega) (by omega)
noncomputable def fl270_23_1_b (self : Int → zM → Int × zM) (k97 : Int → zM → Int × zM) (y1 y2 : Int) (y3 : Int) (m : zM) : Int × zM :=
  if (m 4 44 5) ≤ (m 4 44 8) then
  (k97 y3 m)
  else
  (if (m 4 48 (m 4 44 8)) < 48 then
  (k97 y3 m)
  else
  (if (m 4 48 (m 4 44 8)) ≤ 57 then
  (zn (if y3 ≤ 100000 then
  ((((10 * y3) + (m 4 48 (m 4 44 8))) - 48))
  else
  (y3)) fun v534 =>
  zs (z_upd m 4 44 8 ((m 4 44 8) + 1)) fun m539 =>
  self v534 m539)
  else
  (k97 y3 m)))
noncomputable def fl270_23_1 (k97 : Int → zM → Int × zM) (y1 y2 : Int) : Nat → Int → zM → Int × zM
  | 0 => fun y3 m => (0, m)
  | n + 1 => fl270_23_1_b (fl270_23_1 k97 y1 y2 n) k97 y1 y2
theorem l270_23_1 {s : Nat × (Nat → Int32)} {S : zS} {m0 : zM} {d : Nat} {Q : Option zV → zM → Prop} {R0 : Int × zM} {k97 : Int → zM → Int × zM} (y1 y2 : Int) (c8 c9 : Int) (BE : Int) (hE : BE ≤ 1000000000) (hd : 13 ≤ d) (hy1 : 0 ≤ y1 ∧ y1 ≤ 0) (hy2 : 0 ≤ y2 ∧ y2 ≤ 1000) (hf19 : ¬ S.1 19) (hg4 : ¬ S.2.1 4)
    (K97 : ∀ (x3 : Int) (m' : zM) (B' : Int), J S m0 B' m' → B' ≤ BE → (0 ≤ x3 ∧ x3 ≤ 1000009) → (m' 4 44 10 ≤ m' 4 44 8) → (c8 ≤ m' 4 44 10) → (c8 ≤ m' 4 44 8) → (c9 ≤ m' 4 44 9) → R0 = k97 x3 m' → X (EE s) d 270 97 [(0, zr 4 44), (1, zi y1), (2, zi y2), (3, zi x3)] [] m' Q) :
    ∀ (n : Nat) (y3 : Int) (m : zM) (B : Int), J S m0 B m → B + 0 * (n : Int) ≤ BE → (0 ≤ y3 ∧ y3 ≤ 1000009) → (m 4 44 10 ≤ m 4 44 8) → (c8 ≤ m 4 44 10) → (c8 ≤ m 4 44 8) → (c9 ≤ m 4 44 9) → 300 - m 4 44 8 < (n : Int) → R0 = fl270_23_1 k97 y1 y2 n y3 m → X (EE s) d 270 23 [(0, zr 4 44), (1, zi y1), (2, zi y2), (3, zi y3)] [] m Q := by
  intro n
  induction n with
  | zero =>
    intro y3 m B hJ hB hy3 hr0 hr1 hr2 hr3 hn hR
    have zf0 := r44_8 hJ 4
    exfalso
    omega
  | succ n ih =>
    intro y3 m B hJ hB hy3 hr0 hr1 hr2 hr3 hn hR
    replace hR : R0 = fl270_23_1_b (fl270_23_1 k97 y1 y2 n) k97 y1 y2 y3 m := hR
    refine X.aload_n 24 i270_23 rfl rfl rfl ?_
    refine X.getI 27 8 i270_24 rfl rfl (by decide) rfl rfl rfl ?_
    have h521 := r44_8 hJ 4
    refine X.aload_n 28 i270_27 rfl rfl rfl ?_
    refine X.getI 31 5 i270_28 rfl rfl (by decide) rfl rfl rfl ?_
    have h522 := r44_5 hJ 4
    refine X.icmpge 97 34 i270_31 rfl rfl rfl (fun h523 => ?_) (fun h523 => ?_)
    · exact K97 y3 m (B) (hJ.up (by omega)) (by omega) (by first | trivial | omega) (by omega) (by omega) (by omega) (by omega) (Eq.trans hR (Eq.trans (if_pos h523) rfl))
    · refine X.aload_n 35 i270_34 rfl rfl rfl ?_
      refine X.getF 38 i270_35 rfl rfl (by decide) rfl rfl ?_
      refine X.aload_n 39 i270_38 rfl rfl rfl ?_
      refine X.getI 42 8 i270_39 rfl rfl (by decide) rfl rfl rfl ?_
      refine X.bald 43 i270_42 rfl rfl (by decide) rfl (by omega) (fun h524 => ?_)
      refine X.i2l 44 i270_43 rfl rfl ?_
      refine X.ldc2 47 i270_44 rfl rfl (by decide) ?_
      refine X.ldc2 50 i270_47 rfl rfl (by decide) ?_
      refine X.calls 53 [zl (m 4 48 (m 4 44 8)), zl 48, zl 57] [] [(0, zl (m 4 48 (m 4 44 8))), (2, zl 48), (4, zl 57)] i270_50 (by decide) rfl rfl (by omega) rfl rfl t204 (Nat.le_of_ble_eq_true rfl) (Nat.le_of_ble_eq_true rfl) rfl ?_
      refine X.lload_n 1 i204_0 rfl rfl rfl ?_
      refine X.lload_n 2 i204_1 rfl rfl rfl ?_
      refine X.lcmp 3 i204_2 rfl rfl (fun z525 hz525 => ?_)
      refine X.iflt 17 6 i204_3 rfl rfl rfl (fun h526 => ?_) (fun h526 => ?_)
      · have h526c : (m 4 48 (m 4 44 8)) < 48 := by omega
        clear h526 hz525
        refine X.cut [] i204_17 rfl ?_
        refine X.iconst 18 i204_17 rfl rfl (by decide) ?_
        refine X.retz i204_18 rfl t204 (by omega) ?_
        show X (EE s) d 270 53 [(0, zr 4 44), (1, zi y1), (2, zi y2), (3, zi y3)] [zi 0] m _
        refine X.ifeq 97 56 i270_53 rfl rfl rfl (fun h527 => ?_) (fun h527 => (by exfalso; omega))
        exact K97 y3 m (B) (hJ.up (by omega)) (by omega) (by first | trivial | omega) (by omega) (by omega) (by omega) (by omega) (Eq.trans hR (Eq.trans (if_neg h523) (Eq.trans (if_pos h526c) rfl)))
      · have h526c : ¬ (m 4 48 (m 4 44 8)) < 48 := by omega
        clear h526 hz525
        refine X.lload_n 7 i204_6 rfl rfl rfl ?_
        refine X.lload 9 i204_7 rfl rfl rfl ?_
        refine X.lcmp 10 i204_9 rfl rfl (fun z528 hz528 => ?_)
        refine X.ifgt 17 13 i204_10 rfl rfl rfl (fun h529 => ?_) (fun h529 => ?_)
        · have h529c : ¬ (m 4 48 (m 4 44 8)) ≤ 57 := by omega
          clear h529 hz528
          refine X.cut [] i204_17 rfl ?_
          refine X.iconst 18 i204_17 rfl rfl (by decide) ?_
          refine X.retz i204_18 rfl t204 (by omega) ?_
          show X (EE s) d 270 53 [(0, zr 4 44), (1, zi y1), (2, zi y2), (3, zi y3)] [zi 0] m _
          refine X.ifeq 97 56 i270_53 rfl rfl rfl (fun h530 => ?_) (fun h530 => (by exfalso; omega))
          exact K97 y3 m (B) (hJ.up (by omega)) (by omega) (by first | trivial | omega) (by omega) (by omega) (by omega) (by omega) (Eq.trans hR (Eq.trans (if_neg h523) (Eq.trans (if_neg h526c) (Eq.trans (if_neg h529c) rfl))))
        · have h529c : (m 4 48 (m 4 44 8)) ≤ 57 := by omega
          clear h529 hz528
          refine X.iconst 14 i204_13 rfl rfl (by decide) ?_
          refine X.goto 18 i204_14 rfl rfl ?_
          refine X.cut [] i204_18 rfl ?_
          refine X.retz i204_18 rfl t204 (by omega) ?_
          show X (EE s) d 270 53 [(0, zr 4 44), (1, zi y1), (2, zi y2), (3, zi y3)] [zi 1] m _
          refine X.ifeq 97 56 i270_53 rfl rfl rfl (fun h531 => (by exfalso; omega)) (fun h531 => ?_)
          refine X.iload_n 57 i270_56 rfl rfl rfl ?_
          refine X.ldc 59 i270_57 rfl rfl (by decide) ?_
          have hK537 : ∀ (v : Int) , (0 ≤ v ∧ v ≤ 1000009) → (if y3 ≤ 100000 then
              ((((10 * y3) + (m 4 48 (m 4 44 8))) - 48))
              else
              (y3)) = v → X (EE s) d 270 83 [(0, zr 4 44), (1, zi y1), (2, zi y2)] [zi v] m Q := by
            intro v534 hv534 hT538
            refine X.istore_n 84 [(0, zr 4 44), (1, zi y1), (2, zi y2), (3, zi v534)] i270_83 rfl rfl rfl ?_
            refine X.aload_n 85 i270_84 rfl rfl rfl ?_
            refine X.dup 86 i270_85 rfl rfl rfl ?_
            refine X.getI 89 8 i270_86 rfl rfl (by decide) rfl rfl rfl ?_
            refine X.iconst 90 i270_89 rfl rfl (by decide) ?_
            refine X.iadd 91 i270_90 rfl rfl (by omega) ?_
            refine X.putI' 94 8 i270_91 rfl rfl (by decide) rfl rfl rfl (fun hrm539 m539 hm539 => ?_)
            have hJ540 := w44_8 hJ hm539 (by omega) hf19 hg4
            have em539 : m539 4 44 8 = ((m 4 44 8) + 1) := by rw [hm539]; exact z_upd_same _ _ _ _ _
            have wmm539_9 : m539 4 44 9 = m 4 44 9 := by rw [hm539]; exact z_upd_o _ _ rfl
            have wmm539_10 : m539 4 44 10 = m 4 44 10 := by rw [hm539]; exact z_upd_o _ _ rfl
            refine X.goto 23 i270_94 rfl rfl ?_
            exact ih v534 m539 (B) (hJ540.up (by omega)) (by omega) (by omega) (by omega) (by omega) (by omega) (by omega) (by omega) (Eq.trans hR (Eq.trans (if_neg h523) (Eq.trans (if_neg h526c) (Eq.trans (if_pos h529c) (Eq.trans (zn_eq hT538.symm) (Eq.trans (zs_eq hm539) rfl))))))
          refine X.icmple 66 62 i270_59 rfl rfl rfl (fun h532 => ?_) (fun h532 => ?_)
          · refine X.bipush 68 i270_66 rfl rfl (by decide) ?_
            refine X.iload_n 69 i270_68 rfl rfl rfl ?_
            refine X.imul 70 i270_69 rfl rfl (by omega) ?_
            refine X.aload_n 71 i270_70 rfl rfl rfl ?_
            refine X.getF 74 i270_71 rfl rfl (by decide) rfl rfl ?_
            refine X.aload_n 75 i270_74 rfl rfl rfl ?_
            refine X.getI 78 8 i270_75 rfl rfl (by decide) rfl rfl rfl ?_
            refine X.bald 79 i270_78 rfl rfl (by decide) rfl (by omega) (fun h533 => ?_)
            refine X.iadd 80 i270_79 rfl rfl (by omega) ?_
            refine X.bipush 82 i270_80 rfl rfl (by decide) ?_
            refine X.isub 83 i270_82 rfl rfl (by omega) ?_
            refine X.cut [(0, zr 4 44), (1, zi y1), (2, zi y2)] i270_83 rfl ?_
            exact hK537 (((10 * y3) + (m 4 48 (m 4 44 8))) - 48) (by first | trivial | omega) (Eq.trans (if_pos h532) rfl)
          · refine X.iload_n 63 i270_62 rfl rfl rfl ?_
            refine X.goto 83 i270_63 rfl rfl ?_
            refine X.cut [(0, zr 4 44), (1, zi y1), (2, zi y2)] i270_83 rfl ?_
            exact hK537 y3 (by first | trivial | omega) (Eq.trans (if_neg h532) rfl)
-- WorkMeterModel.wrong
theorem c268_4 {s : Nat × (Nat → Int32)} {S : zS} {m0 m : zM} {B : Int} {d : Nat} {Q : Option zV → zM → Prop} (a1 a2 : Int) (hd : 13 ≤ d) (hJ : J S m0 B m) (hB : B + 0 ≤ 1000000000) (ha1 : 2 ≤ a1 ∧ a1 ≤ 2) (ha2 : (-2147483648) ≤ a2 ∧ a2 ≤ 2147483647) (hf16 : ¬ S.1 16) (hf19 : ¬ S.1 19) (hg4 : ¬ S.2.1 4) (hQ : ∀ m', f268_1 a1 a2 m = m' → J S m0 (B) m' → (m' 4 44 9 = 1) → (m 4 44 8 ≤ m' 4 44 8) → (m 4 44 9 ≤ m' 4 44 9) → Q none m') : X (EE s) d 268 0 [(0, zr 4 44), (1, zi a1), (2, zi a2)] [] m Q := by
  refine X.aload_n 1 i268_0 rfl rfl rfl ?_
  refine X.getZ 4 9 i268_1 rfl rfl (by decide) rfl rfl rfl (fun h501 => ?_)
  refine X.ifeq 8 7 i268_4 rfl rfl rfl (fun h502 => ?_) (fun h502 => ?_)
  · refine X.aload_n 9 i268_8 rfl rfl rfl ?_
    refine X.iconst 10 i268_9 rfl rfl (by decide) ?_
    refine X.putZ' 13 9 i268_10 rfl rfl (by decide) rfl rfl rfl (by omega) (fun hrm503 m503 hm503 => ?_)
    have hJ504 := w44_9 hJ hm503 (by omega) hf19 hg4
    have em503 : m503 4 44 9 = 1 := by rw [hm503]; exact z_upd_same _ _ _ _ _
    have wmm503_8 : m503 4 44 8 = m 4 44 8 := by rw [hm503]; exact z_upd_o _ _ rfl
    have wmm503_10 : m503 4 44 10 = m 4 44 10 := by rw [hm503]; exact z_upd_o _ _ rfl
    refine X.aload_n 14 i268_13 rfl rfl rfl ?_
    refine X.iload_n 15 i268_14 rfl rfl rfl ?_
    refine X.putI' 18 6 i268_15 rfl rfl (by decide) rfl rfl rfl (fun hrm505 m505 hm505 => ?_)
    have hJ506 := w44_6 hJ504 hm505 (by omega) hrm505 hf16 hg4
    have wmm505_8 : m505 4 44 8 = m503 4 44 8 := by rw [hm505]; exact z_upd_o _ _ rfl
    have wmm505_9 : m505 4 44 9 = m503 4 44 9 := by rw [hm505]; exact z_upd_o _ _ rfl
    have wmm505_10 : m505 4 44 10 = m503 4 44 10 := by rw [hm505]; exact z_upd_o _ _ rfl
    refine X.aload_n 19 i268_18 rfl rfl rfl ?_
    refine X.iload_n 20 i268_19 rfl rfl rfl ?_
    refine X.putI' 23 7 i268_20 rfl rfl (by decide) rfl rfl rfl (fun hrm507 m507 hm507 => ?_)
    have hJ508 := w44_6 hJ506 hm507 (by omega) hrm507 hf16 hg4
    have wmm507_8 : m507 4 44 8 = m505 4 44 8 := by rw [hm507]; exact z_upd_o _ _ rfl
    have wmm507_9 : m507 4 44 9 = m505 4 44 9 := by rw [hm507]; exact z_upd_o _ _ rfl
    have wmm507_10 : m507 4 44 10 = m505 4 44 10 := by rw [hm507]; exact z_upd_o _ _ rfl
    refine X.retv i268_23 rfl t268 ?_
    exact hQ  m507  (Eq.trans (if_pos h502) (Eq.trans (zs_eq hm503) (Eq.trans (zs_eq hm505) (Eq.trans (zs_eq hm507) rfl)))) (hJ508.up (by omega)) (by omega) (by omega) (by omega)
  · refine X.retv i268_7 rfl t268 ?_
    exact hQ  m  (Eq.trans (if_neg h502) rfl) (hJ.up (by omega)) (by omega) (by omega) (by omega)
-- WorkMeterModel.number
noncomputable def f270_1 (a1 a2 : Int) (m : zM) : Int × zM :=
  if (m 4 44 9) = 0 then
  (zs (f263_1 m) fun m503 =>
  zs (z_upd m503 4 44 10 (m503 4 44 8)) fun m507 =>
  fl270_23_1 (fun y509 m510 =>
  zs (if (m510 4 44 8) = (m510 4 44 10) then
  (zs (f268_1 1 (m510 4 44 8) m510) fun m527 =>
  m527)
  else
  (if y509 ≤ a2 then
  (m510)
  else
  (zs (f268_1 2 (m510 4 44 10) m510) fun m523 =>
  m523))) fun m531 =>
  zn (if (m531 4 44 9) = 0 then
  (y509)
  else
  (0)) fun v537 =>
  (v537, m531)) a1 a2 (zfu 301) 0 m507)
  else
  ((0, m))
-- WorkMeterModel.number
theorem c270_1 {s : Nat × (Nat → Int32)} {S : zS} {m0 m : zM} {B : Int} {d : Nat} {Q : Option zV → zM → Prop} (a1 a2 : Int) (hd : 14 ≤ d) (hJ : J S m0 B m) (hB : B + 0 ≤ 1000000000) (ha1 : 0 ≤ a1 ∧ a1 ≤ 0) (ha2 : 0 ≤ a2 ∧ a2 ≤ 1000) (hf16 : ¬ S.1 16) (hf19 : ¬ S.1 19) (hg4 : ¬ S.2.1 4) (hQ : ∀ (v : Int) m', (0 ≤ v ∧ v ≤ 1000009) → f270_1 a1 a2 m = (v, m') → J S m0 (B) m' → (v ≤ a2) → (m' 4 44 9 = 1 ∨ m 4 44 8 < m' 4 44 8) → (m 4 44 8 ≤ m' 4 44 8) → (m 4 44 9 ≤ m' 4 44 9) → Q (some (zi v)) m') : X (EE s) d 270 0 [(0, zr 4 44), (1, zi a1), (2, zi a2)] [] m Q := by
  refine X.aload_n 1 i270_0 rfl rfl rfl ?_
  refine X.getZ 4 9 i270_1 rfl rfl (by decide) rfl rfl rfl (fun h501 => ?_)
  refine X.ifeq 9 7 i270_4 rfl rfl rfl (fun h502 => ?_) (fun h502 => ?_)
  · refine X.aload_n 10 i270_9 rfl rfl rfl ?_
    refine X.callv 13 [] [] [(0, zr 4 44)] i270_10 rfl (by decide) rfl rfl (by omega) rfl rfl (by decide) rfl t263 (Nat.le_of_ble_eq_true rfl) (Nat.le_of_ble_eq_true rfl) rfl ?_
    refine c263_1 (B := B)   (by omega) (hJ.up (by omega)) (by omega)  hf19 hg4 (fun m503 hFv505 hJ504 hqv505_0 hqv505_1 => ?_)
    show X (EE s) d 270 13 [(0, zr 4 44), (1, zi a1), (2, zi a2)] [] m503 _
    refine X.aload_n 14 i270_13 rfl rfl rfl ?_
    refine X.aload_n 15 i270_14 rfl rfl rfl ?_
    refine X.getI 18 8 i270_15 rfl rfl (by decide) rfl rfl rfl ?_
    have h506 := r44_8 hJ504 4
    refine X.putI' 21 10 i270_18 rfl rfl (by decide) rfl rfl rfl (fun hrm507 m507 hm507 => ?_)
    have hJ508 := w44_10 hJ504 hm507 (by omega) hrm507 hf19 hg4
    have em507 : m507 4 44 10 = (m503 4 44 8) := by rw [hm507]; exact z_upd_same _ _ _ _ _
    have wmm507_8 : m507 4 44 8 = m503 4 44 8 := by rw [hm507]; exact z_upd_o _ _ rfl
    have wmm507_9 : m507 4 44 9 = m503 4 44 9 := by rw [hm507]; exact z_upd_o _ _ rfl
    refine X.iconst 22 i270_21 rfl rfl (by decide) ?_
    refine X.istore_n 23 [(0, zr 4 44), (1, zi a1), (2, zi a2), (3, zi 0)] i270_22 rfl rfl rfl ?_
    have hz301 := zfu_eq 301
    have zf514 := r44_8 hJ508 4
    refine l270_23_1 (s := s) (d := d) (R0 := (f270_1 a1 a2 m))  a1 a2 (m507 4 44 8) (m507 4 44 9) (BE := B + 0) (by omega) (by omega) (by omega) (by omega) hf19 hg4 (fun y509 m510 B511 hJ512 hBB511 hby509 hrlm510_0 hrlm510_1 hrlm510_2 hrlm510_3 hR513 => ?_) (zfu 301) 0 m507 (B) (hJ508.up (by omega)) (by omega) (by omega) (by omega) (by omega) (by omega) (by omega) (by omega) (Eq.trans (if_pos h502) (Eq.trans (zs_eq hFv505.symm) (Eq.trans (zs_eq hm507) rfl)))
    refine X.aload_n 98 i270_97 rfl rfl rfl ?_
    refine X.getI 101 8 i270_98 rfl rfl (by decide) rfl rfl rfl ?_
    have h515 := r44_8 hJ512 4
    refine X.aload_n 102 i270_101 rfl rfl rfl ?_
    refine X.getIr 105 10 i270_102 rfl rfl (by decide) rfl rfl rfl (fun h516 => ?_)
    have hK533 : ∀ (m' : zM), (if (m510 4 44 8) = (m510 4 44 10) then
        (zs (f268_1 1 (m510 4 44 8) m510) fun m527 =>
        m527)
        else
        (if y509 ≤ a2 then
        (m510)
        else
        (zs (f268_1 2 (m510 4 44 10) m510) fun m523 =>
        m523))) = m' → J S m0 (B511) m' → X (EE s) d 270 141 [(0, zr 4 44), (3, zi y509)] [] m' Q := by
      intro m531 hT534 hJ532
      refine X.aload_n 142 i270_141 rfl rfl rfl ?_
      refine X.getZ 145 9 i270_142 rfl rfl (by decide) rfl rfl rfl (fun h535 => ?_)
      have hK540 : ∀ (v : Int) , (0 ≤ v ∧ v ≤ 1000009) → (if (m531 4 44 9) = 0 then
          (y509)
          else
          (0)) = v → X (EE s) d 270 153 [] [zi v] m531 Q := by
        intro v537 hv537 hT541
        refine X.reti i270_153 rfl t270 ?_
        exact hQ v537 m531 (by first | trivial | omega) (Eq.trans hR513 (Eq.trans (zs_eq hT534.symm) (Eq.trans (zn_eq hT541.symm) rfl))) (hJ532.up (by omega)) (by omega) (by omega) (by omega) (by omega)
      refine X.ifeq 152 148 i270_145 rfl rfl rfl (fun h536 => ?_) (fun h536 => ?_)
      · refine X.cut [(3, zi y509)] i270_152 rfl ?_
        refine X.iload_n 153 i270_152 rfl rfl rfl ?_
        refine X.cut [] i270_153 rfl ?_
        exact hK540 y509 (by first | trivial | omega) (Eq.trans (if_pos h536) rfl)
      · refine X.iconst 149 i270_148 rfl rfl (by decide) ?_
        refine X.goto 153 i270_149 rfl rfl ?_
        refine X.cut [] i270_153 rfl ?_
        exact hK540 0 (by first | trivial | omega) (Eq.trans (if_neg h536) rfl)
    refine X.icmpne 120 108 i270_105 rfl rfl rfl (fun h517 => ?_) (fun h517 => ?_)
    · refine X.iload_n 121 i270_120 rfl rfl rfl ?_
      refine X.i2l 122 i270_121 rfl rfl ?_
      refine X.iload_n 123 i270_122 rfl rfl rfl ?_
      refine X.i2l 124 i270_123 rfl rfl ?_
      refine X.iload_n 125 i270_124 rfl rfl rfl ?_
      refine X.i2l 126 i270_125 rfl rfl ?_
      refine X.calls 129 [zl y509, zl a1, zl a2] [] [(0, zl y509), (2, zl a1), (4, zl a2)] i270_126 (by decide) rfl rfl (by omega) rfl rfl t204 (Nat.le_of_ble_eq_true rfl) (Nat.le_of_ble_eq_true rfl) rfl ?_
      refine X.lload_n 1 i204_0 rfl rfl rfl ?_
      refine X.lload_n 2 i204_1 rfl rfl rfl ?_
      refine X.lcmp 3 i204_2 rfl rfl (fun z518 hz518 => ?_)
      refine X.iflt 17 6 i204_3 rfl rfl rfl (fun h519 => (by exfalso; omega)) (fun h519 => ?_)
      have h519c : ¬ y509 < a1 := by omega
      clear h519 hz518
      refine X.lload_n 7 i204_6 rfl rfl rfl ?_
      refine X.lload 9 i204_7 rfl rfl rfl ?_
      refine X.lcmp 10 i204_9 rfl rfl (fun z520 hz520 => ?_)
      refine X.ifgt 17 13 i204_10 rfl rfl rfl (fun h521 => ?_) (fun h521 => ?_)
      · have h521c : ¬ y509 ≤ a2 := by omega
        clear h521 hz520
        refine X.cut [] i204_17 rfl ?_
        refine X.iconst 18 i204_17 rfl rfl (by decide) ?_
        refine X.retz i204_18 rfl t204 (by omega) ?_
        show X (EE s) d 270 129 [(0, zr 4 44), (1, zi a1), (2, zi a2), (3, zi y509)] [zi 0] m510 _
        refine X.ifne 141 132 i270_129 rfl rfl rfl (fun h522 => (by exfalso; omega)) (fun h522 => ?_)
        refine X.aload_n 133 i270_132 rfl rfl rfl ?_
        refine X.iconst 134 i270_133 rfl rfl (by decide) ?_
        refine X.aload_n 135 i270_134 rfl rfl rfl ?_
        refine X.getI 138 10 i270_135 rfl rfl (by decide) rfl rfl rfl ?_
        refine X.callv 141 [zi 2, zi (m510 4 44 10)] [] [(0, zr 4 44), (1, zi 2), (2, zi (m510 4 44 10))] i270_138 rfl (by decide) rfl rfl (by omega) rfl rfl (by decide) rfl t268 (Nat.le_of_ble_eq_true rfl) (Nat.le_of_ble_eq_true rfl) rfl ?_
        refine c268_4 (B := B511)  2 (m510 4 44 10) (by omega) (hJ512.up (by omega)) (by omega) (by omega) (by omega) hf16 hf19 hg4 (fun m523 hFv525 hJ524 hqv525_0 hqv525_1 hqv525_2 => ?_)
        show X (EE s) d 270 141 [(0, zr 4 44), (1, zi a1), (2, zi a2), (3, zi y509)] [] m523 _
        refine X.cut [(0, zr 4 44), (3, zi y509)] i270_141 rfl ?_
        exact hK533 m523 (Eq.trans (if_neg h517) (Eq.trans (if_neg h521c) (Eq.trans (zs_eq hFv525.symm) rfl))) (hJ524.up (by omega))
      · have h521c : y509 ≤ a2 := by omega
        clear h521 hz520
        refine X.iconst 14 i204_13 rfl rfl (by decide) ?_
        refine X.goto 18 i204_14 rfl rfl ?_
        refine X.cut [] i204_18 rfl ?_
        refine X.retz i204_18 rfl t204 (by omega) ?_
        show X (EE s) d 270 129 [(0, zr 4 44), (1, zi a1), (2, zi a2), (3, zi y509)] [zi 1] m510 _
        refine X.ifne 141 132 i270_129 rfl rfl rfl (fun h526 => ?_) (fun h526 => (by exfalso; omega))
        refine X.cut [(0, zr 4 44), (3, zi y509)] i270_141 rfl ?_
        exact hK533 m510 (Eq.trans (if_neg h517) (Eq.trans (if_pos h521c) rfl)) (hJ512.up (by omega))
    · refine X.aload_n 109 i270_108 rfl rfl rfl ?_
      refine X.iconst 110 i270_109 rfl rfl (by decide) ?_
      refine X.aload_n 111 i270_110 rfl rfl rfl ?_
      refine X.getI 114 8 i270_111 rfl rfl (by decide) rfl rfl rfl ?_
      refine X.callv 117 [zi 1, zi (m510 4 44 8)] [] [(0, zr 4 44), (1, zi 1), (2, zi (m510 4 44 8))] i270_114 rfl (by decide) rfl rfl (by omega) rfl rfl (by decide) rfl t268 (Nat.le_of_ble_eq_true rfl) (Nat.le_of_ble_eq_true rfl) rfl ?_
      refine c268_1 (B := B511)  1 (m510 4 44 8) (by omega) (hJ512.up (by omega)) (by omega) (by omega) (by omega) hf16 hf19 hg4 (fun m527 hFv529 hJ528 hqv529_0 hqv529_1 hqv529_2 => ?_)
      show X (EE s) d 270 117 [(0, zr 4 44), (1, zi a1), (2, zi a2), (3, zi y509)] [] m527 _
      refine X.goto 141 i270_117 rfl rfl ?_
      refine X.cut [(0, zr 4 44), (3, zi y509)] i270_141 rfl ?_
      exact hK533 m527 (Eq.trans (if_pos h517) (Eq.trans (zs_eq hFv529.symm) rfl)) (hJ528.up (by omega))
  · refine X.iconst 8 i270_7 rfl rfl (by decide) ?_
    refine X.reti i270_8 rfl t270 ?_
    exact hQ 0 m (by first | trivial | omega) (Eq.trans (if_neg h502) rfl) (hJ.up (by omega)) (by omega) (by omega) (by omega) (by omega)
-- WorkMeterModel.wrong
theorem c268_5 {s : Nat × (Nat → Int32)} {S : zS} {m0 m : zM} {B : Int} {d : Nat} {Q : Option zV → zM → Prop} (a1 a2 : Int) (hd : 13 ≤ d) (hJ : J S m0 B m) (hB : B + 0 ≤ 1000000000) (ha1 : 3 ≤ a1 ∧ a1 ≤ 3) (ha2 : (-2147483648) ≤ a2 ∧ a2 ≤ 2147483647) (hf16 : ¬ S.1 16) (hf19 : ¬ S.1 19) (hg4 : ¬ S.2.1 4) (hQ : ∀ m', f268_1 a1 a2 m = m' → J S m0 (B) m' → (m' 4 44 9 = 1) → (m 4 44 8 ≤ m' 4 44 8) → (m 4 44 9 ≤ m' 4 44 9) → Q none m') : X (EE s) d 268 0 [(0, zr 4 44), (1, zi a1), (2, zi a2)] [] m Q := by
  refine X.aload_n 1 i268_0 rfl rfl rfl ?_
  refine X.getZ 4 9 i268_1 rfl rfl (by decide) rfl rfl rfl (fun h501 => ?_)
  refine X.ifeq 8 7 i268_4 rfl rfl rfl (fun h502 => ?_) (fun h502 => ?_)
  · refine X.aload_n 9 i268_8 rfl rfl rfl ?_
    refine X.iconst 10 i268_9 rfl rfl (by decide) ?_
    refine X.putZ' 13 9 i268_10 rfl rfl (by decide) rfl rfl rfl (by omega) (fun hrm503 m503 hm503 => ?_)
    have hJ504 := w44_9 hJ hm503 (by omega) hf19 hg4
    have em503 : m503 4 44 9 = 1 := by rw [hm503]; exact z_upd_same _ _ _ _ _
    have wmm503_8 : m503 4 44 8 = m 4 44 8 := by rw [hm503]; exact z_upd_o _ _ rfl
    have wmm503_10 : m503 4 44 10 = m 4 44 10 := by rw [hm503]; exact z_upd_o _ _ rfl
    refine X.aload_n 14 i268_13 rfl rfl rfl ?_
    refine X.iload_n 15 i268_14 rfl rfl rfl ?_
    refine X.putI' 18 6 i268_15 rfl rfl (by decide) rfl rfl rfl (fun hrm505 m505 hm505 => ?_)
    have hJ506 := w44_6 hJ504 hm505 (by omega) hrm505 hf16 hg4
    have wmm505_8 : m505 4 44 8 = m503 4 44 8 := by rw [hm505]; exact z_upd_o _ _ rfl
    have wmm505_9 : m505 4 44 9 = m503 4 44 9 := by rw [hm505]; exact z_upd_o _ _ rfl
    have wmm505_10 : m505 4 44 10 = m503 4 44 10 := by rw [hm505]; exact z_upd_o _ _ rfl
    refine X.aload_n 19 i268_18 rfl rfl rfl ?_
    refine X.iload_n 20 i268_19 rfl rfl rfl ?_
    refine X.putI' 23 7 i268_20 rfl rfl (by decide) rfl rfl rfl (fun hrm507 m507 hm507 => ?_)
    have hJ508 := w44_6 hJ506 hm507 (by omega) hrm507 hf16 hg4
    have wmm507_8 : m507 4 44 8 = m505 4 44 8 := by rw [hm507]; exact z_upd_o _ _ rfl
    have wmm507_9 : m507 4 44 9 = m505 4 44 9 := by rw [hm507]; exact z_upd_o _ _ rfl
    have wmm507_10 : m507 4 44 10 = m505 4 44 10 := by rw [hm507]; exact z_upd_o _ _ rfl
    refine X.retv i268_23 rfl t268 ?_
    exact hQ  m507  (Eq.trans (if_pos h502) (Eq.trans (zs_eq hm503) (Eq.trans (zs_eq hm505) (Eq.trans (zs_eq hm507) rfl)))) (hJ508.up (by omega)) (by omega) (by omega) (by omega)
  · refine X.retv i268_7 rfl t268 ?_
    exact hQ  m  (Eq.trans (if_neg h502) rfl) (hJ.up (by omega)) (by omega) (by omega) (by omega)
-- WorkMeterModel.isDigitNext
noncomputable def f271_1 (m : zM) : Int × zM :=
  zs (f263_1 m) fun m501 =>
  zn (if (m501 4 44 5) ≤ (m501 4 44 8) then
  (0)
  else
  (if (m501 4 48 (m501 4 44 8)) < 48 then
  (0)
  else
  (if (m501 4 48 (m501 4 44 8)) ≤ 57 then
  (1)
  else
  (0)))) fun v515 =>
  (v515, m501)
-- WorkMeterModel.isDigitNext
theorem c271_1 {s : Nat × (Nat → Int32)} {S : zS} {m0 m : zM} {B : Int} {d : Nat} {Q : Option zV → zM → Prop} (hd : 14 ≤ d) (hJ : J S m0 B m) (hB : B + 0 ≤ 1000000000) (hf19 : ¬ S.1 19) (hg4 : ¬ S.2.1 4) (hQ : ∀ (v : Int) m', (0 ≤ v ∧ v ≤ 1) → f271_1 m = (v, m') → J S m0 (B) m' → (m 4 44 8 ≤ m' 4 44 8) → (m 4 44 9 ≤ m' 4 44 9) → Q (some (zi v)) m') : X (EE s) d 271 0 [(0, zr 4 44)] [] m Q := by
  refine X.aload_n 1 i271_0 rfl rfl rfl ?_
  refine X.callv 4 [] [] [(0, zr 4 44)] i271_1 rfl (by decide) rfl rfl (by omega) rfl rfl (by decide) rfl t263 (Nat.le_of_ble_eq_true rfl) (Nat.le_of_ble_eq_true rfl) rfl ?_
  refine c263_1 (B := B)   (by omega) (hJ.up (by omega)) (by omega)  hf19 hg4 (fun m501 hFv503 hJ502 hqv503_0 hqv503_1 => ?_)
  show X (EE s) d 271 4 [(0, zr 4 44)] [] m501 _
  refine X.aload_n 5 i271_4 rfl rfl rfl ?_
  refine X.getI 8 8 i271_5 rfl rfl (by decide) rfl rfl rfl ?_
  have h504 := r44_8 hJ502 4
  refine X.aload_n 9 i271_8 rfl rfl rfl ?_
  refine X.getI 12 5 i271_9 rfl rfl (by decide) rfl rfl rfl ?_
  have h505 := r44_5 hJ502 4
  have hK518 : ∀ (v : Int) , (0 ≤ v ∧ v ≤ 1) → (if (m501 4 44 5) ≤ (m501 4 44 8) then
      (0)
      else
      (if (m501 4 48 (m501 4 44 8)) < 48 then
      (0)
      else
      (if (m501 4 48 (m501 4 44 8)) ≤ 57 then
      (1)
      else
      (0)))) = v → X (EE s) d 271 42 [] [zi v] m501 Q := by
    intro v515 hv515 hT519
    refine X.retz i271_42 rfl t271 (by omega) ?_
    exact hQ v515 m501 (by first | trivial | omega) (Eq.trans (zs_eq hFv503.symm) (Eq.trans (zn_eq hT519.symm) rfl)) (hJ502.up (by omega)) (by omega) (by omega)
  refine X.icmpge 41 15 i271_12 rfl rfl rfl (fun h506 => ?_) (fun h506 => ?_)
  · refine X.cut [] i271_41 rfl ?_
    refine X.iconst 42 i271_41 rfl rfl (by decide) ?_
    exact hK518 0 (by first | trivial | omega) (Eq.trans (if_pos h506) rfl)
  · refine X.aload_n 16 i271_15 rfl rfl rfl ?_
    refine X.getF 19 i271_16 rfl rfl (by decide) rfl rfl ?_
    refine X.aload_n 20 i271_19 rfl rfl rfl ?_
    refine X.getI 23 8 i271_20 rfl rfl (by decide) rfl rfl rfl ?_
    refine X.bald 24 i271_23 rfl rfl (by decide) rfl (by omega) (fun h507 => ?_)
    refine X.i2l 25 i271_24 rfl rfl ?_
    refine X.ldc2 28 i271_25 rfl rfl (by decide) ?_
    refine X.ldc2 31 i271_28 rfl rfl (by decide) ?_
    refine X.calls 34 [zl (m501 4 48 (m501 4 44 8)), zl 48, zl 57] [] [(0, zl (m501 4 48 (m501 4 44 8))), (2, zl 48), (4, zl 57)] i271_31 (by decide) rfl rfl (by omega) rfl rfl t204 (Nat.le_of_ble_eq_true rfl) (Nat.le_of_ble_eq_true rfl) rfl ?_
    refine X.lload_n 1 i204_0 rfl rfl rfl ?_
    refine X.lload_n 2 i204_1 rfl rfl rfl ?_
    refine X.lcmp 3 i204_2 rfl rfl (fun z508 hz508 => ?_)
    refine X.iflt 17 6 i204_3 rfl rfl rfl (fun h509 => ?_) (fun h509 => ?_)
    · have h509c : (m501 4 48 (m501 4 44 8)) < 48 := by omega
      clear h509 hz508
      refine X.cut [] i204_17 rfl ?_
      refine X.iconst 18 i204_17 rfl rfl (by decide) ?_
      refine X.retz i204_18 rfl t204 (by omega) ?_
      show X (EE s) d 271 34 [(0, zr 4 44)] [zi 0] m501 _
      refine X.ifeq 41 37 i271_34 rfl rfl rfl (fun h510 => ?_) (fun h510 => (by exfalso; omega))
      refine X.cut [] i271_41 rfl ?_
      refine X.iconst 42 i271_41 rfl rfl (by decide) ?_
      exact hK518 0 (by first | trivial | omega) (Eq.trans (if_neg h506) (Eq.trans (if_pos h509c) rfl))
    · have h509c : ¬ (m501 4 48 (m501 4 44 8)) < 48 := by omega
      clear h509 hz508
      refine X.lload_n 7 i204_6 rfl rfl rfl ?_
      refine X.lload 9 i204_7 rfl rfl rfl ?_
      refine X.lcmp 10 i204_9 rfl rfl (fun z511 hz511 => ?_)
      refine X.ifgt 17 13 i204_10 rfl rfl rfl (fun h512 => ?_) (fun h512 => ?_)
      · have h512c : ¬ (m501 4 48 (m501 4 44 8)) ≤ 57 := by omega
        clear h512 hz511
        refine X.cut [] i204_17 rfl ?_
        refine X.iconst 18 i204_17 rfl rfl (by decide) ?_
        refine X.retz i204_18 rfl t204 (by omega) ?_
        show X (EE s) d 271 34 [(0, zr 4 44)] [zi 0] m501 _
        refine X.ifeq 41 37 i271_34 rfl rfl rfl (fun h513 => ?_) (fun h513 => (by exfalso; omega))
        refine X.cut [] i271_41 rfl ?_
        refine X.iconst 42 i271_41 rfl rfl (by decide) ?_
        exact hK518 0 (by first | trivial | omega) (Eq.trans (if_neg h506) (Eq.trans (if_neg h509c) (Eq.trans (if_neg h512c) rfl)))
      · have h512c : (m501 4 48 (m501 4 44 8)) ≤ 57 := by omega
        clear h512 hz511
        refine X.iconst 14 i204_13 rfl rfl (by decide) ?_
        refine X.goto 18 i204_14 rfl rfl ?_
        refine X.cut [] i204_18 rfl ?_
        refine X.retz i204_18 rfl t204 (by omega) ?_
        show X (EE s) d 271 34 [(0, zr 4 44)] [zi 1] m501 _
        refine X.ifeq 41 37 i271_34 rfl rfl rfl (fun h514 => (by exfalso; omega)) (fun h514 => ?_)
        refine X.iconst 38 i271_37 rfl rfl (by decide) ?_
        refine X.goto 42 i271_38 rfl rfl ?_
        refine X.cut [] i271_42 rfl ?_
        exact hK518 1 (by first | trivial | omega) (Eq.trans (if_neg h506) (Eq.trans (if_neg h509c) (Eq.trans (if_pos h512c) rfl)))
-- WorkMeterModel.wrong
theorem c268_6 {s : Nat × (Nat → Int32)} {S : zS} {m0 m : zM} {B : Int} {d : Nat} {Q : Option zV → zM → Prop} (a1 a2 : Int) (hd : 13 ≤ d) (hJ : J S m0 B m) (hB : B + 0 ≤ 1000000000) (ha1 : 4 ≤ a1 ∧ a1 ≤ 4) (ha2 : (-2147483648) ≤ a2 ∧ a2 ≤ 2147483647) (hf16 : ¬ S.1 16) (hf19 : ¬ S.1 19) (hg4 : ¬ S.2.1 4) (hQ : ∀ m', f268_1 a1 a2 m = m' → J S m0 (B) m' → (m' 4 44 9 = 1) → (m 4 44 8 ≤ m' 4 44 8) → (m 4 44 9 ≤ m' 4 44 9) → Q none m') : X (EE s) d 268 0 [(0, zr 4 44), (1, zi a1), (2, zi a2)] [] m Q := by
  refine X.aload_n 1 i268_0 rfl rfl rfl ?_
  refine X.getZ 4 9 i268_1 rfl rfl (by decide) rfl rfl rfl (fun h501 => ?_)
  refine X.ifeq 8 7 i268_4 rfl rfl rfl (fun h502 => ?_) (fun h502 => ?_)
  · refine X.aload_n 9 i268_8 rfl rfl rfl ?_
    refine X.iconst 10 i268_9 rfl rfl (by decide) ?_
    refine X.putZ' 13 9 i268_10 rfl rfl (by decide) rfl rfl rfl (by omega) (fun hrm503 m503 hm503 => ?_)
    have hJ504 := w44_9 hJ hm503 (by omega) hf19 hg4
    have em503 : m503 4 44 9 = 1 := by rw [hm503]; exact z_upd_same _ _ _ _ _
    have wmm503_8 : m503 4 44 8 = m 4 44 8 := by rw [hm503]; exact z_upd_o _ _ rfl
    have wmm503_10 : m503 4 44 10 = m 4 44 10 := by rw [hm503]; exact z_upd_o _ _ rfl
    refine X.aload_n 14 i268_13 rfl rfl rfl ?_
    refine X.iload_n 15 i268_14 rfl rfl rfl ?_
    refine X.putI' 18 6 i268_15 rfl rfl (by decide) rfl rfl rfl (fun hrm505 m505 hm505 => ?_)
    have hJ506 := w44_6 hJ504 hm505 (by omega) hrm505 hf16 hg4
    have wmm505_8 : m505 4 44 8 = m503 4 44 8 := by rw [hm505]; exact z_upd_o _ _ rfl
    have wmm505_9 : m505 4 44 9 = m503 4 44 9 := by rw [hm505]; exact z_upd_o _ _ rfl
    have wmm505_10 : m505 4 44 10 = m503 4 44 10 := by rw [hm505]; exact z_upd_o _ _ rfl
    refine X.aload_n 19 i268_18 rfl rfl rfl ?_
    refine X.iload_n 20 i268_19 rfl rfl rfl ?_
    refine X.putI' 23 7 i268_20 rfl rfl (by decide) rfl rfl rfl (fun hrm507 m507 hm507 => ?_)
    have hJ508 := w44_6 hJ506 hm507 (by omega) hrm507 hf16 hg4
    have wmm507_8 : m507 4 44 8 = m505 4 44 8 := by rw [hm507]; exact z_upd_o _ _ rfl
    have wmm507_9 : m507 4 44 9 = m505 4 44 9 := by rw [hm507]; exact z_upd_o _ _ rfl
    have wmm507_10 : m507 4 44 10 = m505 4 44 10 := by rw [hm507]; exact z_upd_o _ _ rfl
    refine X.retv i268_23 rfl t268 ?_
    exact hQ  m507  (Eq.trans (if_pos h502) (Eq.trans (zs_eq hm503) (Eq.trans (zs_eq hm505) (Eq.trans (zs_eq hm507) rfl)))) (hJ508.up (by omega)) (by omega) (by omega) (by omega)
  · refine X.retv i268_7 rfl t268 ?_
    exact hQ  m  (Eq.trans (if_neg h502) rfl) (hJ.up (by omega)) (by omega) (by omega) (by omega)
-- WorkMeterModel.must
noncomputable def f272_1 (a1 : Int) (m : zM) : zM :=
  zs (f263_1 m) fun m501 =>
  zs (if (m501 4 44 5) ≤ (m501 4 44 8) then
  (zs (f268_1 1 (m501 4 44 8) m501) fun m507 =>
  m507)
  else
  (if (m501 4 48 (m501 4 44 8)) = a1 then
  (zs (z_upd m501 4 44 8 ((m501 4 44 8) + 1)) fun m515 =>
  m515)
  else
  (zs (f268_1 1 (m501 4 44 8) m501) fun m512 =>
  m512))) fun m518 =>
  m518
-- WorkMeterModel.must
theorem c272_1 {s : Nat × (Nat → Int32)} {S : zS} {m0 m : zM} {B : Int} {d : Nat} {Q : Option zV → zM → Prop} (a1 : Int) (hd : 14 ≤ d) (hJ : J S m0 B m) (hB : B + 0 ≤ 1000000000) (ha1 : 58 ≤ a1 ∧ a1 ≤ 58) (hf16 : ¬ S.1 16) (hf19 : ¬ S.1 19) (hg4 : ¬ S.2.1 4) (hQ : ∀ m', f272_1 a1 m = m' → J S m0 (B) m' → (m' 4 44 9 = 1 ∨ m 4 44 8 < m' 4 44 8) → (m 4 44 8 ≤ m' 4 44 8) → (m 4 44 9 ≤ m' 4 44 9) → Q none m') : X (EE s) d 272 0 [(0, zr 4 44), (1, zi a1)] [] m Q := by
  refine X.aload_n 1 i272_0 rfl rfl rfl ?_
  refine X.callv 4 [] [] [(0, zr 4 44)] i272_1 rfl (by decide) rfl rfl (by omega) rfl rfl (by decide) rfl t263 (Nat.le_of_ble_eq_true rfl) (Nat.le_of_ble_eq_true rfl) rfl ?_
  refine c263_1 (B := B)   (by omega) (hJ.up (by omega)) (by omega)  hf19 hg4 (fun m501 hFv503 hJ502 hqv503_0 hqv503_1 => ?_)
  show X (EE s) d 272 4 [(0, zr 4 44), (1, zi a1)] [] m501 _
  refine X.aload_n 5 i272_4 rfl rfl rfl ?_
  refine X.getI 8 8 i272_5 rfl rfl (by decide) rfl rfl rfl ?_
  have h504 := r44_8 hJ502 4
  refine X.aload_n 9 i272_8 rfl rfl rfl ?_
  refine X.getI 12 5 i272_9 rfl rfl (by decide) rfl rfl rfl ?_
  have h505 := r44_5 hJ502 4
  have hK520 : ∀ (m' : zM), (if (m501 4 44 5) ≤ (m501 4 44 8) then
      (zs (f268_1 1 (m501 4 44 8) m501) fun m507 =>
      m507)
      else
      (if (m501 4 48 (m501 4 44 8)) = a1 then
      (zs (z_upd m501 4 44 8 ((m501 4 44 8) + 1)) fun m515 =>
      m515)
      else
      (zs (f268_1 1 (m501 4 44 8) m501) fun m512 =>
      m512))) = m' → J S m0 (B) m' → X (EE s) d 272 50 [] [] m' Q := by
    intro m518 hT521 hJ519
    refine X.retv i272_50 rfl t272 ?_
    exact hQ  m518  (Eq.trans (zs_eq hFv503.symm) (Eq.trans (zs_eq hT521.symm) rfl)) (hJ519.up (by omega)) (by omega) (by omega) (by omega)
  refine X.icmpge 41 15 i272_12 rfl rfl rfl (fun h506 => ?_) (fun h506 => ?_)
  · refine X.cut [(0, zr 4 44)] i272_41 rfl ?_
    refine X.aload_n 42 i272_41 rfl rfl rfl ?_
    refine X.iconst 43 i272_42 rfl rfl (by decide) ?_
    refine X.aload_n 44 i272_43 rfl rfl rfl ?_
    refine X.getI 47 8 i272_44 rfl rfl (by decide) rfl rfl rfl ?_
    refine X.callv 50 [zi 1, zi (m501 4 44 8)] [] [(0, zr 4 44), (1, zi 1), (2, zi (m501 4 44 8))] i272_47 rfl (by decide) rfl rfl (by omega) rfl rfl (by decide) rfl t268 (Nat.le_of_ble_eq_true rfl) (Nat.le_of_ble_eq_true rfl) rfl ?_
    refine c268_1 (B := B)  1 (m501 4 44 8) (by omega) (hJ502.up (by omega)) (by omega) (by omega) (by omega) hf16 hf19 hg4 (fun m507 hFv509 hJ508 hqv509_0 hqv509_1 hqv509_2 => ?_)
    show X (EE s) d 272 50 [(0, zr 4 44)] [] m507 _
    refine X.cut [] i272_50 rfl ?_
    exact hK520 m507 (Eq.trans (if_pos h506) (Eq.trans (zs_eq hFv509.symm) rfl)) (hJ508.up (by omega))
  · refine X.aload_n 16 i272_15 rfl rfl rfl ?_
    refine X.getF 19 i272_16 rfl rfl (by decide) rfl rfl ?_
    refine X.aload_n 20 i272_19 rfl rfl rfl ?_
    refine X.getI 23 8 i272_20 rfl rfl (by decide) rfl rfl rfl ?_
    refine X.bald 24 i272_23 rfl rfl (by decide) rfl (by omega) (fun h510 => ?_)
    refine X.iload_n 25 i272_24 rfl rfl rfl ?_
    refine X.icmpne 41 28 i272_25 rfl rfl rfl (fun h511 => ?_) (fun h511 => ?_)
    · refine X.cut [(0, zr 4 44)] i272_41 rfl ?_
      refine X.aload_n 42 i272_41 rfl rfl rfl ?_
      refine X.iconst 43 i272_42 rfl rfl (by decide) ?_
      refine X.aload_n 44 i272_43 rfl rfl rfl ?_
      refine X.getI 47 8 i272_44 rfl rfl (by decide) rfl rfl rfl ?_
      refine X.callv 50 [zi 1, zi (m501 4 44 8)] [] [(0, zr 4 44), (1, zi 1), (2, zi (m501 4 44 8))] i272_47 rfl (by decide) rfl rfl (by omega) rfl rfl (by decide) rfl t268 (Nat.le_of_ble_eq_true rfl) (Nat.le_of_ble_eq_true rfl) rfl ?_
      refine c268_1 (B := B)  1 (m501 4 44 8) (by omega) (hJ502.up (by omega)) (by omega) (by omega) (by omega) hf16 hf19 hg4 (fun m512 hFv514 hJ513 hqv514_0 hqv514_1 hqv514_2 => ?_)
      show X (EE s) d 272 50 [(0, zr 4 44)] [] m512 _
      refine X.cut [] i272_50 rfl ?_
      exact hK520 m512 (Eq.trans (if_neg h506) (Eq.trans (if_neg h511) (Eq.trans (zs_eq hFv514.symm) rfl))) (hJ513.up (by omega))
    · refine X.aload_n 29 i272_28 rfl rfl rfl ?_
      refine X.dup 30 i272_29 rfl rfl rfl ?_
      refine X.getI 33 8 i272_30 rfl rfl (by decide) rfl rfl rfl ?_
      refine X.iconst 34 i272_33 rfl rfl (by decide) ?_
      refine X.iadd 35 i272_34 rfl rfl (by omega) ?_
      refine X.putI' 38 8 i272_35 rfl rfl (by decide) rfl rfl rfl (fun hrm515 m515 hm515 => ?_)
      have hJ516 := w44_8 hJ502 hm515 (by omega) hf19 hg4
      have em515 : m515 4 44 8 = ((m501 4 44 8) + 1) := by rw [hm515]; exact z_upd_same _ _ _ _ _
      have wmm515_9 : m515 4 44 9 = m501 4 44 9 := by rw [hm515]; exact z_upd_o _ _ rfl
      have wmm515_10 : m515 4 44 10 = m501 4 44 10 := by rw [hm515]; exact z_upd_o _ _ rfl
      refine X.goto 50 i272_38 rfl rfl ?_
      refine X.cut [] i272_50 rfl ?_
      exact hK520 m515 (Eq.trans (if_neg h506) (Eq.trans (if_pos h511) (Eq.trans (zs_eq hm515) rfl))) (hJ516.up (by omega))
noncomputable def fl273_2_1_b (self : Int → Int) (k39 : Int → Int) (k47 : Int) (y1 y2 : Int) (m : zM) (y3 : Int) : Int :=
  if y3 < (m 4 45 (287 + y1)) then
  (if (m 4 45 ((295 + (6 * y1)) + y3)) = y2 then
  (k39 y3)
  else
  (self (y3 + 1)))
  else
  (k47)
noncomputable def fl273_2_1 (k39 : Int → Int) (k47 : Int) (y1 y2 : Int) (m : zM) : Nat → Int → Int
  | 0 => fun y3 => 0
  | n + 1 => fl273_2_1_b (fl273_2_1 k39 k47 y1 y2 m n) k39 k47 y1 y2 m
theorem l273_2_1 {s : Nat × (Nat → Int32)} {S : zS} {m0 : zM} {m : zM} {B : Int} {d : Nat} {Q : Option zV → zM → Prop} {R0 : Int} {k39 : Int → Int} {k47 : Int} (y1 y2 : Int) (hd : 13 ≤ d) (hJ : J S m0 B m) (hB9 : B ≤ 1000000000) (hy1 : 0 ≤ y1 ∧ y1 ≤ 7) (hy2 : 0 ≤ y2 ∧ y2 ≤ 86340)
    (K39 : ∀ (x3 : Int) , (0 ≤ x3 ∧ x3 ≤ 5) → R0 = k39 x3 → X (EE s) d 273 39 [(0, zr 4 44), (1, zi y1), (2, zi y2), (3, zi x3)] [] m Q)
    (K47 : R0 = k47 → X (EE s) d 273 47 [] [] m Q) :
    ∀ (n : Nat) (y3 : Int) , (0 ≤ y3 ∧ y3 ≤ 6) → 6 - y3 < (n : Int) → R0 = fl273_2_1 k39 k47 y1 y2 m n y3 → X (EE s) d 273 2 [(0, zr 4 44), (1, zi y1), (2, zi y2), (3, zi y3)] [] m Q := by
  intro n
  induction n with
  | zero =>
    intro y3 hy3 hn hR
    exfalso
    omega
  | succ n ih =>
    intro y3 hy3 hn hR
    replace hR : R0 = fl273_2_1_b (fl273_2_1 k39 k47 y1 y2 m n) k39 k47 y1 y2 m y3 := hR
    refine X.iload_n 3 i273_2 rfl rfl rfl ?_
    refine X.i2l 4 i273_3 rfl rfl ?_
    refine X.aload_n 5 i273_4 rfl rfl rfl ?_
    refine X.getF 8 i273_5 rfl rfl (by decide) rfl rfl ?_
    refine X.sipush 11 i273_8 rfl rfl (by decide) ?_
    refine X.iload_n 12 i273_11 rfl rfl rfl ?_
    refine X.iadd 13 i273_12 rfl rfl (by omega) ?_
    refine X.lald 14 i273_13 rfl rfl (by decide) rfl (by omega) ?_
    have h509 := r45_287 hJ 4 (i := (287 + y1)) (by omega)
    refine X.lcmp 15 i273_14 rfl rfl (fun z510 hz510 => ?_)
    refine X.ifge 47 18 i273_15 rfl rfl rfl (fun h511 => ?_) (fun h511 => ?_)
    · have h511c : ¬ y3 < (m 4 45 (287 + y1)) := by omega
      clear h511 hz510
      refine X.cut [] i273_47 rfl ?_
      exact K47   (Eq.trans hR (Eq.trans (if_neg h511c) rfl))
    · have h511c : y3 < (m 4 45 (287 + y1)) := by omega
      clear h511 hz510
      refine X.aload_n 19 i273_18 rfl rfl rfl ?_
      refine X.getF 22 i273_19 rfl rfl (by decide) rfl rfl ?_
      refine X.sipush 25 i273_22 rfl rfl (by decide) ?_
      refine X.bipush 27 i273_25 rfl rfl (by decide) ?_
      refine X.iload_n 28 i273_27 rfl rfl rfl ?_
      refine X.imul 29 i273_28 rfl rfl (by omega) ?_
      refine X.iadd 30 i273_29 rfl rfl (by omega) ?_
      refine X.iload_n 31 i273_30 rfl rfl rfl ?_
      refine X.iadd 32 i273_31 rfl rfl (by omega) ?_
      refine X.lald 33 i273_32 rfl rfl (by decide) rfl (by omega) ?_
      have h512 := r45_295 hJ 4 (i := ((295 + (6 * y1)) + y3)) (by omega)
      refine X.iload_n 34 i273_33 rfl rfl rfl ?_
      refine X.i2l 35 i273_34 rfl rfl ?_
      refine X.lcmp 36 i273_35 rfl rfl (fun z513 hz513 => ?_)
      refine X.ifne 41 39 i273_36 rfl rfl rfl (fun h514 => ?_) (fun h514 => ?_)
      · have h514c : ¬ (m 4 45 ((295 + (6 * y1)) + y3)) = y2 := by omega
        clear h514 hz513
        refine X.iinc 44 [(0, zr 4 44), (1, zi y1), (2, zi y2), (3, zi (y3 + 1))] i273_41 rfl rfl rfl (by omega) rfl ?_
        refine X.goto 2 i273_44 rfl rfl ?_
        exact ih (y3 + 1) (by omega) (by omega) (Eq.trans hR (Eq.trans (if_pos h511c) (Eq.trans (if_neg h514c) rfl)))
      · have h514c : (m 4 45 ((295 + (6 * y1)) + y3)) = y2 := by omega
        clear h514 hz513
        exact K39 y3 (by first | trivial | omega) (Eq.trans hR (Eq.trans (if_pos h511c) (Eq.trans (if_pos h514c) rfl)))
-- WorkMeterModel.isSwitch
noncomputable def f273_1 (a1 a2 : Int) (m : zM) : Int :=
  fl273_2_1 (fun y501 =>
  1) (0) a1 a2 m (zfu 7) 0
-- WorkMeterModel.isSwitch
theorem c273_1 {s : Nat × (Nat → Int32)} {S : zS} {m0 m : zM} {B : Int} {d : Nat} {Q : Option zV → zM → Prop} (a1 a2 : Int) (hd : 13 ≤ d) (hJ : J S m0 B m) (hB : B + 0 ≤ 1000000000) (ha1 : 0 ≤ a1 ∧ a1 ≤ 7) (ha2 : 0 ≤ a2 ∧ a2 ≤ 86340) (hQ : ∀ (v : Int), (0 ≤ v ∧ v ≤ 1) → f273_1 a1 a2 m = v → Q (some (zi v)) m) : X (EE s) d 273 0 [(0, zr 4 44), (1, zi a1), (2, zi a2)] [] m Q := by
  refine X.iconst 1 i273_0 rfl rfl (by decide) ?_
  refine X.istore_n 2 [(0, zr 4 44), (1, zi a1), (2, zi a2), (3, zi 0)] i273_1 rfl rfl rfl ?_
  have hz7 := zfu_eq 7
  refine l273_2_1 (s := s) (m := m) (B := B) (d := d) (R0 := (f273_1 a1 a2 m))  a1 a2  (by omega) (hJ.up (by omega)) (by omega) (by omega) (by omega) (fun y501 hby501 hR505 => ?_) (fun  hR509 => ?_) (zfu 7) 0 (by omega) (by omega) rfl
  · refine X.iconst 40 i273_39 rfl rfl (by decide) ?_
    refine X.retz i273_40 rfl t273 (by omega) ?_
    exact hQ 1 (by first | trivial | omega) (Eq.trans hR505 rfl) 
  · refine X.iconst 48 i273_47 rfl rfl (by decide) ?_
    refine X.retz i273_48 rfl t273 (by omega) ?_
    exact hQ 0 (by first | trivial | omega) (Eq.trans hR509 rfl) 
noncomputable def fl269_40_1_b (self : zM → zM) (k175 : zM → zM) (y1 : Int) (m : zM) : zM :=
  if (m 4 44 9) = 0 then
  (zb (f271_1 m) fun v562 m560 =>
  if v562 = 0 then
  (k175 m560)
  else
  (zb (f270_1 0 23 m560) fun v566 m564 =>
  zs (if (m564 4 44 9) = 0 then
  (if (m564 4 45 (287 + y1)) = 6 then
  (zs (f268_1 4 (m564 4 44 10) m564) fun m573 =>
  m573)
  else
  (m564))
  else
  (m564)) fun m577 =>
  zs (f272_1 58 m577) fun m581 =>
  zb (f270_1 0 59 m581) fun v586 m584 =>
  zs (if (m584 4 44 9) = 0 then
  (zn (f273_1 y1 ((3600 * v566) + (60 * v586)) m584) fun v591 =>
  if v591 = 0 then
  (m584)
  else
  (zs (f268_1 3 (m584 4 44 10) m584) fun m594 =>
  m594))
  else
  (m584)) fun m598 =>
  zb (f270_1 0 3 m598) fun v604 m602 =>
  zs (if (m602 4 44 9) = 0 then
  (zb (f243_1 y1 ((3600 * v566) + (60 * v586)) v604 m602) fun v609 m607 =>
  m607)
  else
  (m602)) fun m611 =>
  self m611))
  else
  (k175 m)
noncomputable def fl269_40_1 (k175 : zM → zM) (y1 : Int) : Nat → zM → zM
  | 0 => fun m => m
  | n + 1 => fl269_40_1_b (fl269_40_1 k175 y1 n) k175 y1
