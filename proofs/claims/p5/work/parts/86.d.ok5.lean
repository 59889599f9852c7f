theorem ok316_0 {fv : Value} : x_allr (xLnk fv pm316) (pt316.getD 0 []) := (And.intro ⟨_, _, _, rfl, q21, q22, q1⟩ (And.intro (Or.inr ⟨.inl rfl, lkc647⟩) (And.intro ⟨_, _, _, rfl, q1291, q1292, q15⟩ (And.intro (Or.inr ⟨.inl rfl, lkc648⟩) True.intro))))
theorem ok316_1 {fv : Value} : x_allr (xLnk fv pm316) (pt316.getD 1 []) := True.intro
theorem ok316_2 {fv : Value} : x_allr (xLnk fv pm316) (pt316.getD 2 []) := True.intro
theorem ok316_3 {fv : Value} : x_allr (xLnk fv pm316) (pt316.getD 3 []) := True.intro
theorem ok316_4 {fv : Value} : x_allr (xLnk fv pm316) (pt316.getD 4 []) := True.intro
theorem ok316_5 {fv : Value} : x_allr (xLnk fv pm316) (pt316.getD 5 []) := True.intro
theorem ok316_6 {fv : Value} : x_allr (xLnk fv pm316) (pt316.getD 6 []) := True.intro
theorem ok316_7 {fv : Value} : x_allr (xLnk fv pm316) (pt316.getD 7 []) := True.intro
theorem ok316_8 {fv : Value} : x_allr (xLnk fv pm316) (pt316.getD 8 []) := True.intro
theorem ok316_9 {fv : Value} : x_allr (xLnk fv pm316) (pt316.getD 9 []) := True.intro
theorem ok316_10 {fv : Value} : x_allr (xLnk fv pm316) (pt316.getD 10 []) := True.intro
theorem ok316_11 {fv : Value} : x_allr (xLnk fv pm316) (pt316.getD 11 []) := True.intro
theorem ok316_12 {fv : Value} : x_allr (xLnk fv pm316) (pt316.getD 12 []) := True.intro
theorem ok316_13 {fv : Value} : x_allr (xLnk fv pm316) (pt316.getD 13 []) := True.intro
theorem ok316_14 {fv : Value} : x_allr (xLnk fv pm316) (pt316.getD 14 []) := True.intro
theorem ok316_15 {fv : Value} : x_allr (xLnk fv pm316) (pt316.getD 15 []) := (And.intro (Or.inr ⟨.inl rfl, lkc649⟩) True.intro)
theorem ok316_16 {fv : Value} : x_allr (xLnk fv pm316) (pt316.getD 16 []) := (And.intro (Or.inr ⟨.inl rfl, lkc650⟩) True.intro)
theorem ok316_17 {fv : Value} : x_allr (xLnk fv pm316) (pt316.getD 17 []) := (And.intro (Or.inr ⟨.inl rfl, lkc651⟩) True.intro)
theorem ok316_18 {fv : Value} : x_allr (xLnk fv pm316) (pt316.getD 18 []) := (And.intro (Or.inr ⟨.inl rfl, lkc652⟩) True.intro)
theorem ok316_19 {fv : Value} : x_allr (xLnk fv pm316) (pt316.getD 19 []) := (And.intro (Or.inr ⟨.inl rfl, lkc653⟩) (And.intro (Or.inr ⟨.inl rfl, lkc654⟩) True.intro))
theorem ok316_20 {fv : Value} : x_allr (xLnk fv pm316) (pt316.getD 20 []) := True.intro
theorem ok316_21 {fv : Value} : x_allr (xLnk fv pm316) (pt316.getD 21 []) := (And.intro (Or.inr ⟨.inl rfl, lkc655⟩) (And.intro (Or.inr ⟨.inl rfl, lkc656⟩) True.intro))
theorem ok316_22 {fv : Value} : x_allr (xLnk fv pm316) (pt316.getD 22 []) := True.intro
theorem ok316_23 {fv : Value} : x_allr (xLnk fv pm316) (pt316.getD 23 []) := (And.intro (Or.inr ⟨.inl rfl, lkc657⟩) True.intro)
theorem ok316_24 {fv : Value} : x_allr (xLnk fv pm316) (pt316.getD 24 []) := (And.intro (Or.inr ⟨.inl rfl, lkc658⟩) True.intro)
theorem ok316_25 {fv : Value} : x_allr (xLnk fv pm316) (pt316.getD 25 []) := (And.intro (Or.inr ⟨.inl rfl, lkc659⟩) True.intro)
theorem ok316_26 {fv : Value} : x_allr (xLnk fv pm316) (pt316.getD 26 []) := (And.intro (Or.inr ⟨.inl rfl, lkc660⟩) True.intro)
theorem ok316_27 {fv : Value} : x_allr (xLnk fv pm316) (pt316.getD 27 []) := True.intro
theorem ok316_28 {fv : Value} : x_allr (xLnk fv pm316) (pt316.getD 28 []) := (And.intro (Or.inr ⟨.inl rfl, lkc661⟩) True.intro)
theorem ok316_29 {fv : Value} : x_allr (xLnk fv pm316) (pt316.getD 29 []) := True.intro
theorem ok316_30 {fv : Value} : x_allr (xLnk fv pm316) (pt316.getD 30 []) := (And.intro (Or.inr ⟨.inl rfl, lkc662⟩) (And.intro (Or.inr ⟨.inl rfl, lkc663⟩) True.intro))
theorem ok316_31 {fv : Value} : x_allr (xLnk fv pm316) (pt316.getD 31 []) := (And.intro (Or.inr ⟨.inl rfl, lkc664⟩) (And.intro (Or.inr ⟨.inl rfl, lkc665⟩) True.intro))
theorem ok316_32 {fv : Value} : x_allr (xLnk fv pm316) (pt316.getD 32 []) := (And.intro (Or.inr ⟨.inl rfl, lkc666⟩) True.intro)
theorem ok316_33 {fv : Value} : x_allr (xLnk fv pm316) (pt316.getD 33 []) := (And.intro (Or.inr ⟨.inl rfl, lkc667⟩) (And.intro (Or.inr ⟨.inl rfl, lkc668⟩) True.intro))
theorem ok316_34 {fv : Value} : x_allr (xLnk fv pm316) (pt316.getD 34 []) := (And.intro (Or.inr ⟨.inl rfl, lkc669⟩) True.intro)
theorem ok316_35 {fv : Value} : x_allr (xLnk fv pm316) (pt316.getD 35 []) := (And.intro (Or.inr ⟨.inl rfl, lkc670⟩) (And.intro (Or.inr ⟨.inl rfl, lkc671⟩) True.intro))
theorem ok316_36 {fv : Value} : x_allr (xLnk fv pm316) (pt316.getD 36 []) := (And.intro (Or.inr ⟨.inl rfl, lkc672⟩) True.intro)
theorem ok316_37 {fv : Value} : x_allr (xLnk fv pm316) (pt316.getD 37 []) := (And.intro (Or.inr ⟨.inl rfl, lkc673⟩) True.intro)
theorem ok316_38 {fv : Value} : x_allr (xLnk fv pm316) (pt316.getD 38 []) := (And.intro (Or.inr ⟨.inl rfl, lkc674⟩) True.intro)
theorem ok316_39 {fv : Value} : x_allr (xLnk fv pm316) (pt316.getD 39 []) := True.intro
theorem ok316_40 {fv : Value} : x_allr (xLnk fv pm316) (pt316.getD 40 []) := (And.intro (Or.inr ⟨.inl rfl, lkc675⟩) True.intro)
theorem ok316_41 {fv : Value} : x_allr (xLnk fv pm316) (pt316.getD 41 []) := (And.intro (Or.inr ⟨.inl rfl, lkc676⟩) True.intro)
theorem ok316_42 {fv : Value} : x_allr (xLnk fv pm316) (pt316.getD 42 []) := (And.intro (Or.inr ⟨.inl rfl, lkc677⟩) True.intro)
theorem ok316_43 {fv : Value} : x_allr (xLnk fv pm316) (pt316.getD 43 []) := (And.intro (Or.inr ⟨.inl rfl, lkc678⟩) True.intro)
theorem ok316_44 {fv : Value} : x_allr (xLnk fv pm316) (pt316.getD 44 []) := (And.intro (Or.inr ⟨.inl rfl, lkc679⟩) (And.intro (Or.inr ⟨.inl rfl, lkc680⟩) True.intro))
theorem ok316_45 {fv : Value} : x_allr (xLnk fv pm316) (pt316.getD 45 []) := (And.intro (Or.inr ⟨.inl rfl, lkc681⟩) True.intro)
theorem ok316_46 {fv : Value} : x_allr (xLnk fv pm316) (pt316.getD 46 []) := (And.intro (Or.inr ⟨.inl rfl, lkc682⟩) True.intro)
theorem ok316_47 {fv : Value} : x_allr (xLnk fv pm316) (pt316.getD 47 []) := (And.intro (Or.inr ⟨.inl rfl, lkc683⟩) True.intro)
theorem ok316_48 {fv : Value} : x_allr (xLnk fv pm316) (pt316.getD 48 []) := True.intro
theorem ok316_49 {fv : Value} : x_allr (xLnk fv pm316) (pt316.getD 49 []) := (And.intro (Or.inr ⟨.inl rfl, lkc684⟩) True.intro)
theorem ok316_50 {fv : Value} : x_allr (xLnk fv pm316) (pt316.getD 50 []) := (And.intro (Or.inr ⟨.inl rfl, lkc685⟩) True.intro)
theorem ok316_51 {fv : Value} : x_allr (xLnk fv pm316) (pt316.getD 51 []) := (And.intro (Or.inr ⟨.inl rfl, lkc686⟩) True.intro)
theorem ok316_52 {fv : Value} : x_allr (xLnk fv pm316) (pt316.getD 52 []) := (And.intro (Or.inr ⟨.inl rfl, lkc687⟩) True.intro)
theorem ok316_53 {fv : Value} : x_allr (xLnk fv pm316) (pt316.getD 53 []) := (And.intro (Or.inr ⟨.inl rfl, lkc688⟩) (And.intro (Or.inr ⟨.inl rfl, lkc689⟩) True.intro))
theorem ok316_54 {fv : Value} : x_allr (xLnk fv pm316) (pt316.getD 54 []) := (And.intro (Or.inr ⟨.inl rfl, lkc690⟩) True.intro)
theorem ok316_55 {fv : Value} : x_allr (xLnk fv pm316) (pt316.getD 55 []) := (And.intro (Or.inr ⟨.inl rfl, lkc691⟩) True.intro)
theorem ok316_56 {fv : Value} : x_allr (xLnk fv pm316) (pt316.getD 56 []) := (And.intro (Or.inr ⟨.inl rfl, lkc692⟩) True.intro)
theorem ok316_57 {fv : Value} : x_allr (xLnk fv pm316) (pt316.getD 57 []) := (And.intro (Or.inr ⟨.inl rfl, lkc693⟩) True.intro)
theorem ok316_58 {fv : Value} : x_allr (xLnk fv pm316) (pt316.getD 58 []) := (And.intro (Or.inr ⟨.inl rfl, lkc694⟩) True.intro)
theorem ok316_59 {fv : Value} : x_allr (xLnk fv pm316) (pt316.getD 59 []) := (And.intro (Or.inr ⟨.inl rfl, lkc695⟩) True.intro)
theorem ok316_60 {fv : Value} : x_allr (xLnk fv pm316) (pt316.getD 60 []) := (And.intro (Or.inr ⟨.inl rfl, lkc696⟩) True.intro)
theorem ok316_61 {fv : Value} : x_allr (xLnk fv pm316) (pt316.getD 61 []) := (And.intro (Or.inr ⟨.inl rfl, lkc697⟩) (And.intro (Or.inr ⟨.inl rfl, lkc698⟩) True.intro))
theorem ok316_62 {fv : Value} : x_allr (xLnk fv pm316) (pt316.getD 62 []) := (And.intro (Or.inr ⟨.inl rfl, lkc699⟩) True.intro)
theorem ok316_63 {fv : Value} : x_allr (xLnk fv pm316) (pt316.getD 63 []) := (And.intro (Or.inr ⟨.inl rfl, lkc700⟩) True.intro)
theorem ok316_64 {fv : Value} : x_allr (xLnk fv pm316) (pt316.getD 64 []) := (And.intro (Or.inr ⟨.inl rfl, lkc701⟩) True.intro)
theorem ok316_65 {fv : Value} : x_allr (xLnk fv pm316) (pt316.getD 65 []) := (And.intro (Or.inr ⟨.inl rfl, lkc702⟩) True.intro)
theorem ok316_66 {fv : Value} : x_allr (xLnk fv pm316) (pt316.getD 66 []) := (And.intro (Or.inr ⟨.inl rfl, lkc703⟩) True.intro)
theorem ok316_67 {fv : Value} : x_allr (xLnk fv pm316) (pt316.getD 67 []) := (And.intro (Or.inr ⟨.inl rfl, lkc704⟩) True.intro)
theorem ok316_68 {fv : Value} : x_allr (xLnk fv pm316) (pt316.getD 68 []) := (And.intro (Or.inr ⟨.inl rfl, lkc705⟩) True.intro)
theorem ok316_69 {fv : Value} : x_allr (xLnk fv pm316) (pt316.getD 69 []) := (And.intro (Or.inr ⟨.inl rfl, lkc706⟩) True.intro)
theorem ok316_70 {fv : Value} : x_allr (xLnk fv pm316) (pt316.getD 70 []) := (And.intro (Or.inr ⟨.inl rfl, lkc707⟩) True.intro)
theorem ok316_71 {fv : Value} : x_allr (xLnk fv pm316) (pt316.getD 71 []) := (And.intro (Or.inr ⟨.inl rfl, lkc708⟩) True.intro)
theorem ok316_72 {fv : Value} : x_allr (xLnk fv pm316) (pt316.getD 72 []) := (And.intro (Or.inr ⟨.inl rfl, lkc709⟩) (And.intro (Or.inr ⟨.inl rfl, lkc710⟩) True.intro))
theorem ok316_73 {fv : Value} : x_allr (xLnk fv pm316) (pt316.getD 73 []) := (And.intro (Or.inr ⟨.inl rfl, lkc711⟩) True.intro)
theorem ok316_74 {fv : Value} : x_allr (xLnk fv pm316) (pt316.getD 74 []) := (And.intro (Or.inr ⟨.inl rfl, lkc712⟩) True.intro)
theorem ok316_75 {fv : Value} : x_allr (xLnk fv pm316) (pt316.getD 75 []) := (And.intro (Or.inr ⟨.inl rfl, lkc713⟩) True.intro)
theorem ok316_76 {fv : Value} : x_allr (xLnk fv pm316) (pt316.getD 76 []) := (And.intro (Or.inr ⟨.inl rfl, lkc714⟩) True.intro)
theorem ok316_77 {fv : Value} : x_allr (xLnk fv pm316) (pt316.getD 77 []) := (And.intro (Or.inr ⟨.inl rfl, lkc715⟩) True.intro)
theorem ok316_78 {fv : Value} : x_allr (xLnk fv pm316) (pt316.getD 78 []) := (And.intro (Or.inr ⟨.inl rfl, lkc716⟩) True.intro)
theorem ok316_79 {fv : Value} : x_allr (xLnk fv pm316) (pt316.getD 79 []) := True.intro
theorem ok316_80 {fv : Value} : x_allr (xLnk fv pm316) (pt316.getD 80 []) := (And.intro (Or.inr ⟨.inl rfl, lkc717⟩) True.intro)
theorem ok316_81 {fv : Value} : x_allr (xLnk fv pm316) (pt316.getD 81 []) := (And.intro (Or.inr ⟨.inl rfl, lkc718⟩) True.intro)
theorem ok316_82 {fv : Value} : x_allr (xLnk fv pm316) (pt316.getD 82 []) := (And.intro (Or.inr ⟨.inl rfl, lkc719⟩) True.intro)
theorem ok316_83 {fv : Value} : x_allr (xLnk fv pm316) (pt316.getD 83 []) := (And.intro (Or.inr ⟨.inl rfl, lkc720⟩) True.intro)
theorem ok316_84 {fv : Value} : x_allr (xLnk fv pm316) (pt316.getD 84 []) := (And.intro (Or.inr ⟨.inl rfl, lkc721⟩) True.intro)
theorem ok316_85 {fv : Value} : x_allr (xLnk fv pm316) (pt316.getD 85 []) := (And.intro (Or.inr ⟨.inl rfl, lkc722⟩) (And.intro (Or.inr ⟨.inl rfl, lkc723⟩) True.intro))
theorem ok316_86 {fv : Value} : x_allr (xLnk fv pm316) (pt316.getD 86 []) := (And.intro (Or.inr ⟨.inl rfl, lkc724⟩) True.intro)
theorem ok316_87 {fv : Value} : x_allr (xLnk fv pm316) (pt316.getD 87 []) := (And.intro (Or.inr ⟨.inl rfl, lkc725⟩) True.intro)
theorem ok316_88 {fv : Value} : x_allr (xLnk fv pm316) (pt316.getD 88 []) := (And.intro (Or.inr ⟨.inl rfl, lkc726⟩) True.intro)
theorem ok316_89 {fv : Value} : x_allr (xLnk fv pm316) (pt316.getD 89 []) := (And.intro (Or.inr ⟨.inl rfl, lkc727⟩) (And.intro (Or.inr ⟨.inl rfl, lkc728⟩) True.intro))
theorem ok316_90 {fv : Value} : x_allr (xLnk fv pm316) (pt316.getD 90 []) := (And.intro (Or.inr ⟨.inl rfl, lkc729⟩) (And.intro (Or.inr ⟨.inl rfl, lkc730⟩) True.intro))
theorem ok316_91 {fv : Value} : x_allr (xLnk fv pm316) (pt316.getD 91 []) := True.intro
theorem ok316_92 {fv : Value} : x_allr (xLnk fv pm316) (pt316.getD 92 []) := (And.intro (Or.inr ⟨.inl rfl, lkc731⟩) (And.intro (Or.inr ⟨.inl rfl, lkc732⟩) True.intro))
theorem ok316_93 {fv : Value} : x_allr (xLnk fv pm316) (pt316.getD 93 []) := True.intro
theorem ok316_94 {fv : Value} : x_allr (xLnk fv pm316) (pt316.getD 94 []) := (And.intro (Or.inr ⟨.inl rfl, lkc733⟩) True.intro)
theorem ok316_95 {fv : Value} : x_allr (xLnk fv pm316) (pt316.getD 95 []) := (And.intro (Or.inr ⟨.inl rfl, lkc734⟩) True.intro)
theorem ok316_96 {fv : Value} : x_allr (xLnk fv pm316) (pt316.getD 96 []) := (And.intro (Or.inr ⟨.inl rfl, lkc735⟩) True.intro)
theorem ok316_97 {fv : Value} : x_allr (xLnk fv pm316) (pt316.getD 97 []) := (And.intro (Or.inr ⟨.inl rfl, lkc736⟩) True.intro)
theorem ok316_98 {fv : Value} : x_allr (xLnk fv pm316) (pt316.getD 98 []) := (And.intro (Or.inr ⟨.inl rfl, lkc737⟩) True.intro)
theorem ok316_99 {fv : Value} : x_allr (xLnk fv pm316) (pt316.getD 99 []) := (And.intro (Or.inr ⟨.inl rfl, lkc738⟩) True.intro)
theorem ok316_100 {fv : Value} : x_allr (xLnk fv pm316) (pt316.getD 100 []) := (And.intro (Or.inr ⟨.inl rfl, lkc739⟩) True.intro)
theorem ok316_101 {fv : Value} : x_allr (xLnk fv pm316) (pt316.getD 101 []) := (And.intro (Or.inr ⟨.inl rfl, lkc740⟩) True.intro)
theorem ok316_102 {fv : Value} : x_allr (xLnk fv pm316) (pt316.getD 102 []) := (And.intro (Or.inr ⟨.inl rfl, lkc741⟩) True.intro)
theorem ok316_103 {fv : Value} : x_allr (xLnk fv pm316) (pt316.getD 103 []) := (And.intro (Or.inr ⟨.inl rfl, lkc742⟩) True.intro)
theorem od316_0 : x_rchk code 4 0 (pt316.getD 0 []) = true := by decide +kernel
theorem od316_1 : x_rchk code 4 16 (pt316.getD 1 []) = true := by decide +kernel
theorem od316_2 : x_rchk code 4 32 (pt316.getD 2 []) = true := by decide +kernel
theorem od316_3 : x_rchk code 4 48 (pt316.getD 3 []) = true := by decide +kernel
theorem od316_4 : x_rchk code 4 64 (pt316.getD 4 []) = true := by decide +kernel
theorem od316_5 : x_rchk code 4 80 (pt316.getD 5 []) = true := by decide +kernel
theorem od316_6 : x_rchk code 4 96 (pt316.getD 6 []) = true := by decide +kernel
theorem od316_7 : x_rchk code 4 112 (pt316.getD 7 []) = true := by decide +kernel
theorem od316_8 : x_rchk code 4 128 (pt316.getD 8 []) = true := by decide +kernel
theorem od316_9 : x_rchk code 4 144 (pt316.getD 9 []) = true := by decide +kernel
theorem od316_10 : x_rchk code 4 160 (pt316.getD 10 []) = true := by decide +kernel
theorem od316_11 : x_rchk code 4 176 (pt316.getD 11 []) = true := by decide +kernel
theorem od316_12 : x_rchk code 4 192 (pt316.getD 12 []) = true := by decide +kernel
theorem od316_13 : x_rchk code 4 208 (pt316.getD 13 []) = true := by decide +kernel
theorem od316_14 : x_rchk code 4 224 (pt316.getD 14 []) = true := by decide +kernel
theorem od316_15 : x_rchk code 4 240 (pt316.getD 15 []) = true := by decide +kernel
theorem od316_16 : x_rchk code 4 256 (pt316.getD 16 []) = true := by decide +kernel
theorem od316_17 : x_rchk code 4 272 (pt316.getD 17 []) = true := by decide +kernel
theorem od316_18 : x_rchk code 4 288 (pt316.getD 18 []) = true := by decide +kernel
theorem od316_19 : x_rchk code 4 304 (pt316.getD 19 []) = true := by decide +kernel
theorem od316_20 : x_rchk code 4 320 (pt316.getD 20 []) = true := by decide +kernel
theorem od316_21 : x_rchk code 4 336 (pt316.getD 21 []) = true := by decide +kernel
theorem od316_22 : x_rchk code 4 352 (pt316.getD 22 []) = true := by decide +kernel
theorem od316_23 : x_rchk code 4 368 (pt316.getD 23 []) = true := by decide +kernel
theorem od316_24 : x_rchk code 4 384 (pt316.getD 24 []) = true := by decide +kernel
theorem od316_25 : x_rchk code 4 400 (pt316.getD 25 []) = true := by decide +kernel
theorem od316_26 : x_rchk code 4 416 (pt316.getD 26 []) = true := by decide +kernel
theorem od316_27 : x_rchk code 4 432 (pt316.getD 27 []) = true := by decide +kernel
theorem od316_28 : x_rchk code 4 448 (pt316.getD 28 []) = true := by decide +kernel
theorem od316_29 : x_rchk code 4 464 (pt316.getD 29 []) = true := by decide +kernel
theorem od316_30 : x_rchk code 4 480 (pt316.getD 30 []) = true := by decide +kernel
theorem od316_31 : x_rchk code 4 496 (pt316.getD 31 []) = true := by decide +kernel
theorem od316_32 : x_rchk code 4 512 (pt316.getD 32 []) = true := by decide +kernel
theorem od316_33 : x_rchk code 4 528 (pt316.getD 33 []) = true := by decide +kernel
theorem od316_34 : x_rchk code 4 544 (pt316.getD 34 []) = true := by decide +kernel
theorem od316_35 : x_rchk code 4 560 (pt316.getD 35 []) = true := by decide +kernel
theorem od316_36 : x_rchk code 4 576 (pt316.getD 36 []) = true := by decide +kernel
theorem od316_37 : x_rchk code 4 592 (pt316.getD 37 []) = true := by decide +kernel
theorem od316_38 : x_rchk code 4 608 (pt316.getD 38 []) = true := by decide +kernel
theorem od316_39 : x_rchk code 4 624 (pt316.getD 39 []) = true := by decide +kernel
theorem od316_40 : x_rchk code 4 640 (pt316.getD 40 []) = true := by decide +kernel
theorem od316_41 : x_rchk code 4 656 (pt316.getD 41 []) = true := by decide +kernel
theorem od316_42 : x_rchk code 4 672 (pt316.getD 42 []) = true := by decide +kernel
theorem od316_43 : x_rchk code 4 688 (pt316.getD 43 []) = true := by decide +kernel
theorem od316_44 : x_rchk code 4 704 (pt316.getD 44 []) = true := by decide +kernel
theorem od316_45 : x_rchk code 4 720 (pt316.getD 45 []) = true := by decide +kernel
theorem od316_46 : x_rchk code 4 736 (pt316.getD 46 []) = true := by decide +kernel
theorem od316_47 : x_rchk code 4 752 (pt316.getD 47 []) = true := by decide +kernel
theorem od316_48 : x_rchk code 4 768 (pt316.getD 48 []) = true := by decide +kernel
theorem od316_49 : x_rchk code 4 784 (pt316.getD 49 []) = true := by decide +kernel
theorem od316_50 : x_rchk code 4 800 (pt316.getD 50 []) = true := by decide +kernel
theorem od316_51 : x_rchk code 4 816 (pt316.getD 51 []) = true := by decide +kernel
theorem od316_52 : x_rchk code 4 832 (pt316.getD 52 []) = true := by decide +kernel
theorem od316_53 : x_rchk code 4 848 (pt316.getD 53 []) = true := by decide +kernel
theorem od316_54 : x_rchk code 4 864 (pt316.getD 54 []) = true := by decide +kernel
theorem od316_55 : x_rchk code 4 880 (pt316.getD 55 []) = true := by decide +kernel
theorem od316_56 : x_rchk code 4 896 (pt316.getD 56 []) = true := by decide +kernel
theorem od316_57 : x_rchk code 4 912 (pt316.getD 57 []) = true := by decide +kernel
theorem od316_58 : x_rchk code 4 928 (pt316.getD 58 []) = true := by decide +kernel
theorem od316_59 : x_rchk code 4 944 (pt316.getD 59 []) = true := by decide +kernel
theorem od316_60 : x_rchk code 4 960 (pt316.getD 60 []) = true := by decide +kernel
theorem od316_61 : x_rchk code 4 976 (pt316.getD 61 []) = true := by decide +kernel
theorem od316_62 : x_rchk code 4 992 (pt316.getD 62 []) = true := by decide +kernel
theorem od316_63 : x_rchk code 4 1008 (pt316.getD 63 []) = true := by decide +kernel
theorem od316_64 : x_rchk code 4 1024 (pt316.getD 64 []) = true := by decide +kernel
theorem od316_65 : x_rchk code 4 1040 (pt316.getD 65 []) = true := by decide +kernel
theorem od316_66 : x_rchk code 4 1056 (pt316.getD 66 []) = true := by decide +kernel
theorem od316_67 : x_rchk code 4 1072 (pt316.getD 67 []) = true := by decide +kernel
theorem od316_68 : x_rchk code 4 1088 (pt316.getD 68 []) = true := by decide +kernel
theorem od316_69 : x_rchk code 4 1104 (pt316.getD 69 []) = true := by decide +kernel
theorem od316_70 : x_rchk code 4 1120 (pt316.getD 70 []) = true := by decide +kernel
theorem od316_71 : x_rchk code 4 1136 (pt316.getD 71 []) = true := by decide +kernel
theorem od316_72 : x_rchk code 4 1152 (pt316.getD 72 []) = true := by decide +kernel
theorem od316_73 : x_rchk code 4 1168 (pt316.getD 73 []) = true := by decide +kernel
theorem od316_74 : x_rchk code 4 1184 (pt316.getD 74 []) = true := by decide +kernel
theorem od316_75 : x_rchk code 4 1200 (pt316.getD 75 []) = true := by decide +kernel
theorem od316_76 : x_rchk code 4 1216 (pt316.getD 76 []) = true := by decide +kernel
theorem od316_77 : x_rchk code 4 1232 (pt316.getD 77 []) = true := by decide +kernel
theorem od316_78 : x_rchk code 4 1248 (pt316.getD 78 []) = true := by decide +kernel
theorem od316_79 : x_rchk code 4 1264 (pt316.getD 79 []) = true := by decide +kernel
theorem od316_80 : x_rchk code 4 1280 (pt316.getD 80 []) = true := by decide +kernel
theorem od316_81 : x_rchk code 4 1296 (pt316.getD 81 []) = true := by decide +kernel
theorem od316_82 : x_rchk code 4 1312 (pt316.getD 82 []) = true := by decide +kernel
theorem od316_83 : x_rchk code 4 1328 (pt316.getD 83 []) = true := by decide +kernel
theorem od316_84 : x_rchk code 4 1344 (pt316.getD 84 []) = true := by decide +kernel
theorem od316_85 : x_rchk code 4 1360 (pt316.getD 85 []) = true := by decide +kernel
theorem od316_86 : x_rchk code 4 1376 (pt316.getD 86 []) = true := by decide +kernel
theorem od316_87 : x_rchk code 4 1392 (pt316.getD 87 []) = true := by decide +kernel
theorem od316_88 : x_rchk code 4 1408 (pt316.getD 88 []) = true := by decide +kernel
theorem od316_89 : x_rchk code 4 1424 (pt316.getD 89 []) = true := by decide +kernel
theorem od316_90 : x_rchk code 4 1440 (pt316.getD 90 []) = true := by decide +kernel
theorem od316_91 : x_rchk code 4 1456 (pt316.getD 91 []) = true := by decide +kernel
theorem od316_92 : x_rchk code 4 1472 (pt316.getD 92 []) = true := by decide +kernel
theorem od316_93 : x_rchk code 4 1488 (pt316.getD 93 []) = true := by decide +kernel
theorem od316_94 : x_rchk code 4 1504 (pt316.getD 94 []) = true := by decide +kernel
theorem od316_95 : x_rchk code 4 1520 (pt316.getD 95 []) = true := by decide +kernel
theorem od316_96 : x_rchk code 4 1536 (pt316.getD 96 []) = true := by decide +kernel
theorem od316_97 : x_rchk code 4 1552 (pt316.getD 97 []) = true := by decide +kernel
theorem od316_98 : x_rchk code 4 1568 (pt316.getD 98 []) = true := by decide +kernel
theorem od316_99 : x_rchk code 4 1584 (pt316.getD 99 []) = true := by decide +kernel
theorem od316_100 : x_rchk code 4 1600 (pt316.getD 100 []) = true := by decide +kernel
theorem od316_101 : x_rchk code 4 1616 (pt316.getD 101 []) = true := by decide +kernel
theorem od316_102 : x_rchk code 4 1632 (pt316.getD 102 []) = true := by decide +kernel
theorem od316_103 : x_rchk code 4 1648 (pt316.getD 103 []) = true := by decide +kernel
theorem od316 : x_tchk code 4 0 pt316 = true := (x_tcons od316_0 (x_tcons od316_1 (x_tcons od316_2 (x_tcons od316_3 (x_tcons od316_4 (x_tcons od316_5 (x_tcons od316_6 (x_tcons od316_7 (x_tcons od316_8 (x_tcons od316_9 (x_tcons od316_10 (x_tcons od316_11 (x_tcons od316_12 (x_tcons od316_13 (x_tcons od316_14 (x_tcons od316_15 (x_tcons od316_16 (x_tcons od316_17 (x_tcons od316_18 (x_tcons od316_19 (x_tcons od316_20 (x_tcons od316_21 (x_tcons od316_22 (x_tcons od316_23 (x_tcons od316_24 (x_tcons od316_25 (x_tcons od316_26 (x_tcons od316_27 (x_tcons od316_28 (x_tcons od316_29 (x_tcons od316_30 (x_tcons od316_31 (x_tcons od316_32 (x_tcons od316_33 (x_tcons od316_34 (x_tcons od316_35 (x_tcons od316_36 (x_tcons od316_37 (x_tcons od316_38 (x_tcons od316_39 (x_tcons od316_40 (x_tcons od316_41 (x_tcons od316_42 (x_tcons od316_43 (x_tcons od316_44 (x_tcons od316_45 (x_tcons od316_46 (x_tcons od316_47 (x_tcons od316_48 (x_tcons od316_49 (x_tcons od316_50 (x_tcons od316_51 (x_tcons od316_52 (x_tcons od316_53 (x_tcons od316_54 (x_tcons od316_55 (x_tcons od316_56 (x_tcons od316_57 (x_tcons od316_58 (x_tcons od316_59 (x_tcons od316_60 (x_tcons od316_61 (x_tcons od316_62 (x_tcons od316_63 (x_tcons od316_64 (x_tcons od316_65 (x_tcons od316_66 (x_tcons od316_67 (x_tcons od316_68 (x_tcons od316_69 (x_tcons od316_70 (x_tcons od316_71 (x_tcons od316_72 (x_tcons od316_73 (x_tcons od316_74 (x_tcons od316_75 (x_tcons od316_76 (x_tcons od316_77 (x_tcons od316_78 (x_tcons od316_79 (x_tcons od316_80 (x_tcons od316_81 (x_tcons od316_82 (x_tcons od316_83 (x_tcons od316_84 (x_tcons od316_85 (x_tcons od316_86 (x_tcons od316_87 (x_tcons od316_88 (x_tcons od316_89 (x_tcons od316_90 (x_tcons od316_91 (x_tcons od316_92 (x_tcons od316_93 (x_tcons od316_94 (x_tcons od316_95 (x_tcons od316_96 (x_tcons od316_97 (x_tcons od316_98 (x_tcons od316_99 (x_tcons od316_100 (x_tcons od316_101 (x_tcons od316_102 (x_tcons od316_103 rfl))))))))))))))))))))))))))))))))))))))))))))))))))))))))))))))))))))))))))))))))))))))))))))))))))))))))
theorem ok316 {fv : Value} : xMok fv pm316 := xMok_of (by decide) pn12 od316 (And.intro ok316_0 (And.intro ok316_1 (And.intro ok316_2 (And.intro ok316_3 (And.intro ok316_4 (And.intro ok316_5 (And.intro ok316_6 (And.intro ok316_7 (And.intro ok316_8 (And.intro ok316_9 (And.intro ok316_10 (And.intro ok316_11 (And.intro ok316_12 (And.intro ok316_13 (And.intro ok316_14 (And.intro ok316_15 (And.intro ok316_16 (And.intro ok316_17 (And.intro ok316_18 (And.intro ok316_19 (And.intro ok316_20 (And.intro ok316_21 (And.intro ok316_22 (And.intro ok316_23 (And.intro ok316_24 (And.intro ok316_25 (And.intro ok316_26 (And.intro ok316_27 (And.intro ok316_28 (And.intro ok316_29 (And.intro ok316_30 (And.intro ok316_31 (And.intro ok316_32 (And.intro ok316_33 (And.intro ok316_34 (And.intro ok316_35 (And.intro ok316_36 (And.intro ok316_37 (And.intro ok316_38 (And.intro ok316_39 (And.intro ok316_40 (And.intro ok316_41 (And.intro ok316_42 (And.intro ok316_43 (And.intro ok316_44 (And.intro ok316_45 (And.intro ok316_46 (And.intro ok316_47 (And.intro ok316_48 (And.intro ok316_49 (And.intro ok316_50 (And.intro ok316_51 (And.intro ok316_52 (And.intro ok316_53 (And.intro ok316_54 (And.intro ok316_55 (And.intro ok316_56 (And.intro ok316_57 (And.intro ok316_58 (And.intro ok316_59 (And.intro ok316_60 (And.intro ok316_61 (And.intro ok316_62 (And.intro ok316_63 (And.intro ok316_64 (And.intro ok316_65 (And.intro ok316_66 (And.intro ok316_67 (And.intro ok316_68 (And.intro ok316_69 (And.intro ok316_70 (And.intro ok316_71 (And.intro ok316_72 (And.intro ok316_73 (And.intro ok316_74 (And.intro ok316_75 (And.intro ok316_76 (And.intro ok316_77 (And.intro ok316_78 (And.intro ok316_79 (And.intro ok316_80 (And.intro ok316_81 (And.intro ok316_82 (And.intro ok316_83 (And.intro ok316_84 (And.intro ok316_85 (And.intro ok316_86 (And.intro ok316_87 (And.intro ok316_88 (And.intro ok316_89 (And.intro ok316_90 (And.intro ok316_91 (And.intro ok316_92 (And.intro ok316_93 (And.intro ok316_94 (And.intro ok316_95 (And.intro ok316_96 (And.intro ok316_97 (And.intro ok316_98 (And.intro ok316_99 (And.intro ok316_100 (And.intro ok316_101 (And.intro ok316_102 (And.intro ok316_103 True.intro))))))))))))))))))))))))))))))))))))))))))))))))))))))))))))))))))))))))))))))))))))))))))))))))))))))))
