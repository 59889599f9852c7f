section
-- WorkMeterModel.period
noncomputable def f237_1 (a1 a2 : Int) (m : zM) : Int :=
  if a1 = (-1) then
  (zn (f209_1 0 m) fun v506 =>
  zn (f209_1 1 m) fun v510 =>
  zn ((v506 * v506)) fun z511 =>
  zn ((v510 * v510)) fun z512 =>
  zn (f214_1 (z511 + z512) m) fun v515 =>
  if a2 = 0 then
  (v506)
  else
  (if a2 = 1 then
  (v510)
  else
  (if a2 = 2 then
  (zn (f209_1 2 m) fun v522 =>
  v522)
  else
  (if a2 = 3 then
  (zn (f209_1 3 m) fun v527 =>
  v527)
  else
  (if a2 = 4 then
  (v515)
  else
  (if a2 = 5 then
  (zn (f221_1 v506 v510 m) fun v532 =>
  v532)
  else
  (if a2 = 6 then
  (zn (f238_1 95 m) fun v537 =>
  v537)
  else
  (if a2 = 7 then
  (zn (f238_1 143 m) fun v542 =>
  v542)
  else
  (if a2 = 8 then
  (zn (f239_1 v506 v515 m) fun v546 =>
  v546)
  else
  ((-10000000000)))))))))))
  else
  (if a1 < 0 then
  ((-10000000000))
  else
  (if a1 ≤ ((m 4 45 1) - 1) then
  (zn (f210_1 a1 m) fun v559 =>
  zn (f212_1 a1 m) fun v563 =>
  zn ((v559 * v559)) fun z564 =>
  zn ((v563 * v563)) fun z565 =>
  zn (f214_1 (z564 + z565) m) fun v568 =>
  if a2 = 0 then
  (v559)
  else
  (if a2 = 1 then
  (v563)
  else
  (if a2 = 2 then
  (zn (f213_1 95 a1 m) fun v575 =>
  v575)
  else
  (if a2 = 3 then
  (zn (f213_1 143 a1 m) fun v580 =>
  v580)
  else
  (if a2 = 4 then
  (v568)
  else
  (if a2 = 5 then
  (zn (f221_1 v559 v563 m) fun v585 =>
  v585)
  else
  (if a2 = 6 then
  (zn (f213_1 95 a1 m) fun v590 =>
  zn ((v590 / (m 4 45 2))) fun z592 =>
  zn (f214_1 z592 m) fun v595 =>
  v595)
  else
  (if a2 = 7 then
  (zn (f213_1 143 a1 m) fun v600 =>
  zn ((v600 / (m 4 45 2))) fun z602 =>
  zn (f214_1 z602 m) fun v605 =>
  v605)
  else
  (if a2 = 8 then
  (zn (f239_1 v559 v568 m) fun v609 =>
  v609)
  else
  ((-10000000000)))))))))))
  else
  ((-10000000000))))
-- WorkMeterModel.period
theorem c237_1 {s : Nat × (Nat → Int32)} {S : zS} {m0 m : zM} {B : Int} {d : Nat} {Q : Option zV → zM → Prop} (a1 a2 : Int) (hd : 15 ≤ d) (hJ : J S m0 B m) (hB : B + 0 ≤ 1000000000) (ha1 : (-2147483648) ≤ a1 ∧ a1 ≤ 2147483647) (ha2 : (-2147483648) ≤ a2 ∧ a2 ≤ 2147483647) (hQ : ∀ (v : Int), ((-12000000000) ≤ v ∧ v ≤ 12000000000) → f237_1 a1 a2 m = v → Q (some (zl v)) m) : X (EE s) d 237 0 [(0, zr 4 44), (1, zi a1), (2, zi a2)] [] m Q := by
  refine X.iload_n 1 (zi237 0) rfl rfl rfl ?_
  refine X.iconst 2 (zi237 1) rfl rfl (by decide) ?_
  refine X.icmpeq 25 5 (zi237 2) rfl rfl rfl (fun h501 => ?_) (fun h501 => ?_)
  · refine X.iload_n 26 (zi237 25) rfl rfl rfl ?_
    refine X.iconst 27 (zi237 26) rfl rfl (by decide) ?_
    refine X.icmpne 34 30 (zi237 27) rfl rfl rfl (fun h502 => (by exfalso; omega)) (fun h502 => ?_)
    refine X.iconst 31 (zi237 30) rfl rfl (by decide) ?_
    refine X.goto 35 (zi237 31) rfl rfl ?_
    refine X.istore_n 36 [(0, zr 4 44), (1, zi a1), (2, zi a2), (3, zi 1)] (zi237 35) rfl rfl rfl ?_
    refine X.iload_n 37 (zi237 36) rfl rfl rfl ?_
    refine X.ifeq 48 40 (zi237 37) rfl rfl rfl (fun h503 => (by exfalso; omega)) (fun h503 => ?_)
    refine X.aload_n 41 (zi237 40) rfl rfl rfl ?_
    refine X.iconst 42 (zi237 41) rfl rfl (by decide) ?_
    refine X.callv 45 [zi 0] [] [(0, zr 4 44), (1, zi 0)] (zi237 42) rfl (by decide) rfl rfl (by omega) rfl rfl (by decide) rfl t209 (Nat.le_of_ble_eq_true rfl) (Nat.le_of_ble_eq_true rfl) rfl ?_
    refine c209_1 (B := B)  0 (by omega) (hJ.up (by omega)) (by omega) (by omega) (fun v506 hv506 hFv506 => ?_)
    show X (EE s) d 237 45 [(0, zr 4 44), (1, zi a1), (2, zi a2), (3, zi 1)] [zl v506] m _
    refine X.goto 53 (zi237 45) rfl rfl ?_
    refine X.lstore 55 [(0, zr 4 44), (1, zi a1), (2, zi a2), (3, zi 1), (4, zl v506)] (zi237 53) rfl rfl rfl ?_
    refine X.iload_n 56 (zi237 55) rfl rfl rfl ?_
    refine X.ifeq 67 59 (zi237 56) rfl rfl rfl (fun h507 => (by exfalso; omega)) (fun h507 => ?_)
    refine X.aload_n 60 (zi237 59) rfl rfl rfl ?_
    refine X.iconst 61 (zi237 60) rfl rfl (by decide) ?_
    refine X.callv 64 [zi 1] [] [(0, zr 4 44), (1, zi 1)] (zi237 61) rfl (by decide) rfl rfl (by omega) rfl rfl (by decide) rfl t209 (Nat.le_of_ble_eq_true rfl) (Nat.le_of_ble_eq_true rfl) rfl ?_
    refine c209_1 (B := B)  1 (by omega) (hJ.up (by omega)) (by omega) (by omega) (fun v510 hv510 hFv510 => ?_)
    show X (EE s) d 237 64 [(0, zr 4 44), (1, zi a1), (2, zi a2), (3, zi 1), (4, zl v506)] [zl v510] m _
    refine X.goto 72 (zi237 64) rfl rfl ?_
    refine X.lstore 74 [(0, zr 4 44), (1, zi a1), (2, zi a2), (3, zi 1), (4, zl v506), (6, zl v510)] (zi237 72) rfl rfl rfl ?_
    refine X.lload 76 (zi237 74) rfl rfl rfl ?_
    refine X.lload 78 (zi237 76) rfl rfl rfl ?_
    have hz511 := z_sqr (e := 12000000) (x := v506) (by omega)
    refine X.lmul 79 (zi237 78) rfl rfl (z_in3 hz511 (by decide) (by decide)) ?_
    obtain ⟨z511, ez511⟩ : ∃ z, z = (v506 * v506) := ⟨_, rfl⟩
    rw [← ez511] at hz511 ⊢
    have gz511 : 0 ≤ z511 ∧ z511 ≤ 144000000000000 := z_in3 hz511 (by decide) (by decide)
    clear hz511
    refine X.lload 81 (zi237 79) rfl rfl rfl ?_
    refine X.lload 83 (zi237 81) rfl rfl rfl ?_
    have hz512 := z_sqr (e := 12000000) (x := v510) (by omega)
    refine X.lmul 84 (zi237 83) rfl rfl (z_in3 hz512 (by decide) (by decide)) ?_
    obtain ⟨z512, ez512⟩ : ∃ z, z = (v510 * v510) := ⟨_, rfl⟩
    rw [← ez512] at hz512 ⊢
    have gz512 : 0 ≤ z512 ∧ z512 ≤ 144000000000000 := z_in3 hz512 (by decide) (by decide)
    clear hz512
    refine X.ladd 85 (zi237 84) rfl rfl (by omega) ?_
    refine X.calls 88 [zl (z511 + z512)] [] [(0, zl (z511 + z512))] (zi237 85) (by decide) rfl rfl (by omega) rfl rfl t214 (Nat.le_of_ble_eq_true rfl) (Nat.le_of_ble_eq_true rfl) rfl ?_
    refine c214_1 (B := B)  (z511 + z512) (by omega) (hJ.up (by omega)) (by omega) (by omega) (fun v515 hv515 hFv515 => ?_)
    show X (EE s) d 237 88 [(0, zr 4 44), (1, zi a1), (2, zi a2), (3, zi 1), (4, zl v506), (6, zl v510)] [zl v515] m _
    refine X.lstore 90 [(0, zr 4 44), (1, zi a1), (2, zi a2), (3, zi 1), (4, zl v506), (6, zl v510), (8, zl v515)] (zi237 88) rfl rfl rfl ?_
    refine X.iload_n 91 (zi237 90) rfl rfl rfl ?_
    by_cases h516 : a2 = 0
    · refine X.tsIn 140 0 (zi237 91) rfl (by omega) rfl rfl ?_
      refine X.cut [(4, zl v506)] (zi237 140) rfl ?_
      refine X.lload 142 (zi237 140) rfl rfl rfl ?_
      refine X.retl (zi237 142) rfl t237 ?_
      exact hQ v506 (by first | trivial | omega) (Eq.trans (if_pos h501) (Eq.trans (zn_eq hFv506.symm) (Eq.trans (zn_eq hFv510.symm) (Eq.trans (zn_eq ez511) (Eq.trans (zn_eq ez512) (Eq.trans (zn_eq hFv515.symm) (Eq.trans (if_pos h516) rfl))))))) 
    by_cases h517 : a2 = 1
    · refine X.tsIn 143 1 (zi237 91) rfl (by omega) rfl rfl ?_
      refine X.cut [(6, zl v510)] (zi237 143) rfl ?_
      refine X.lload 145 (zi237 143) rfl rfl rfl ?_
      refine X.retl (zi237 145) rfl t237 ?_
      exact hQ v510 (by first | trivial | omega) (Eq.trans (if_pos h501) (Eq.trans (zn_eq hFv506.symm) (Eq.trans (zn_eq hFv510.symm) (Eq.trans (zn_eq ez511) (Eq.trans (zn_eq ez512) (Eq.trans (zn_eq hFv515.symm) (Eq.trans (if_neg h516) (Eq.trans (if_pos h517) rfl)))))))) 
    by_cases h518 : a2 = 2
    · refine X.tsIn 146 2 (zi237 91) rfl (by omega) rfl rfl ?_
      refine X.cut [(0, zr 4 44), (1, zi a1), (3, zi 1)] (zi237 146) rfl ?_
      refine X.iload_n 147 (zi237 146) rfl rfl rfl ?_
      refine X.ifeq 158 150 (zi237 147) rfl rfl rfl (fun h519 => (by exfalso; omega)) (fun h519 => ?_)
      refine X.aload_n 151 (zi237 150) rfl rfl rfl ?_
      refine X.iconst 152 (zi237 151) rfl rfl (by decide) ?_
      refine X.callv 155 [zi 2] [] [(0, zr 4 44), (1, zi 2)] (zi237 152) rfl (by decide) rfl rfl (by omega) rfl rfl (by decide) rfl t209 (Nat.le_of_ble_eq_true rfl) (Nat.le_of_ble_eq_true rfl) rfl ?_
      refine c209_1 (B := B)  2 (by omega) (hJ.up (by omega)) (by omega) (by omega) (fun v522 hv522 hFv522 => ?_)
      show X (EE s) d 237 155 [(0, zr 4 44), (1, zi a1), (3, zi 1)] [zl v522] m _
      refine X.goto 165 (zi237 155) rfl rfl ?_
      refine X.cut [] (zi237 165) rfl ?_
      refine X.retl (zi237 165) rfl t237 ?_
      exact hQ v522 (by first | trivial | omega) (Eq.trans (if_pos h501) (Eq.trans (zn_eq hFv506.symm) (Eq.trans (zn_eq hFv510.symm) (Eq.trans (zn_eq ez511) (Eq.trans (zn_eq ez512) (Eq.trans (zn_eq hFv515.symm) (Eq.trans (if_neg h516) (Eq.trans (if_neg h517) (Eq.trans (if_pos h518) (Eq.trans (zn_eq hFv522.symm) rfl)))))))))) 
    by_cases h523 : a2 = 3
    · refine X.tsIn 166 3 (zi237 91) rfl (by omega) rfl rfl ?_
      refine X.cut [(0, zr 4 44), (1, zi a1), (3, zi 1)] (zi237 166) rfl ?_
      refine X.iload_n 167 (zi237 166) rfl rfl rfl ?_
      refine X.ifeq 178 170 (zi237 167) rfl rfl rfl (fun h524 => (by exfalso; omega)) (fun h524 => ?_)
      refine X.aload_n 171 (zi237 170) rfl rfl rfl ?_
      refine X.iconst 172 (zi237 171) rfl rfl (by decide) ?_
      refine X.callv 175 [zi 3] [] [(0, zr 4 44), (1, zi 3)] (zi237 172) rfl (by decide) rfl rfl (by omega) rfl rfl (by decide) rfl t209 (Nat.le_of_ble_eq_true rfl) (Nat.le_of_ble_eq_true rfl) rfl ?_
      refine c209_1 (B := B)  3 (by omega) (hJ.up (by omega)) (by omega) (by omega) (fun v527 hv527 hFv527 => ?_)
      show X (EE s) d 237 175 [(0, zr 4 44), (1, zi a1), (3, zi 1)] [zl v527] m _
      refine X.goto 186 (zi237 175) rfl rfl ?_
      refine X.cut [] (zi237 186) rfl ?_
      refine X.retl (zi237 186) rfl t237 ?_
      exact hQ v527 (by first | trivial | omega) (Eq.trans (if_pos h501) (Eq.trans (zn_eq hFv506.symm) (Eq.trans (zn_eq hFv510.symm) (Eq.trans (zn_eq ez511) (Eq.trans (zn_eq ez512) (Eq.trans (zn_eq hFv515.symm) (Eq.trans (if_neg h516) (Eq.trans (if_neg h517) (Eq.trans (if_neg h518) (Eq.trans (if_pos h523) (Eq.trans (zn_eq hFv527.symm) rfl))))))))))) 
    by_cases h528 : a2 = 4
    · refine X.tsIn 187 4 (zi237 91) rfl (by omega) rfl rfl ?_
      refine X.cut [(8, zl v515)] (zi237 187) rfl ?_
      refine X.lload 189 (zi237 187) rfl rfl rfl ?_
      refine X.retl (zi237 189) rfl t237 ?_
      exact hQ v515 (by first | trivial | omega) (Eq.trans (if_pos h501) (Eq.trans (zn_eq hFv506.symm) (Eq.trans (zn_eq hFv510.symm) (Eq.trans (zn_eq ez511) (Eq.trans (zn_eq ez512) (Eq.trans (zn_eq hFv515.symm) (Eq.trans (if_neg h516) (Eq.trans (if_neg h517) (Eq.trans (if_neg h518) (Eq.trans (if_neg h523) (Eq.trans (if_pos h528) rfl))))))))))) 
    by_cases h529 : a2 = 5
    · refine X.tsIn 190 5 (zi237 91) rfl (by omega) rfl rfl ?_
      refine X.cut [(4, zl v506), (6, zl v510)] (zi237 190) rfl ?_
      refine X.lload 192 (zi237 190) rfl rfl rfl ?_
      refine X.lload 194 (zi237 192) rfl rfl rfl ?_
      refine X.calls 197 [zl v506, zl v510] [] [(0, zl v506), (2, zl v510)] (zi237 194) (by decide) rfl rfl (by omega) rfl rfl t221 (Nat.le_of_ble_eq_true rfl) (Nat.le_of_ble_eq_true rfl) rfl ?_
      refine c221_1 (B := B)  v506 v510 (by omega) (hJ.up (by omega)) (by omega) (by omega) (by omega) (fun v532 hv532 hFv532 => ?_)
      show X (EE s) d 237 197 [(4, zl v506), (6, zl v510)] [zi v532] m _
      refine X.i2l 198 (zi237 197) rfl rfl ?_
      refine X.retl (zi237 198) rfl t237 ?_
      exact hQ v532 (by first | trivial | omega) (Eq.trans (if_pos h501) (Eq.trans (zn_eq hFv506.symm) (Eq.trans (zn_eq hFv510.symm) (Eq.trans (zn_eq ez511) (Eq.trans (zn_eq ez512) (Eq.trans (zn_eq hFv515.symm) (Eq.trans (if_neg h516) (Eq.trans (if_neg h517) (Eq.trans (if_neg h518) (Eq.trans (if_neg h523) (Eq.trans (if_neg h528) (Eq.trans (if_pos h529) (Eq.trans (zn_eq hFv532.symm) rfl))))))))))))) 
    by_cases h533 : a2 = 6
    · refine X.tsIn 199 6 (zi237 91) rfl (by omega) rfl rfl ?_
      refine X.cut [(0, zr 4 44), (1, zi a1), (3, zi 1)] (zi237 199) rfl ?_
      refine X.iload_n 200 (zi237 199) rfl rfl rfl ?_
      refine X.ifeq 212 203 (zi237 200) rfl rfl rfl (fun h534 => (by exfalso; omega)) (fun h534 => ?_)
      refine X.aload_n 204 (zi237 203) rfl rfl rfl ?_
      refine X.bipush 206 (zi237 204) rfl rfl (by decide) ?_
      refine X.callv 209 [zi 95] [] [(0, zr 4 44), (1, zi 95)] (zi237 206) rfl (by decide) rfl rfl (by omega) rfl rfl (by decide) rfl t238 (Nat.le_of_ble_eq_true rfl) (Nat.le_of_ble_eq_true rfl) rfl ?_
      refine c238_1 (B := B)  95 (by omega) (hJ.up (by omega)) (by omega) (by omega) (fun v537 hv537 hFv537 => ?_)
      show X (EE s) d 237 209 [(0, zr 4 44), (1, zi a1), (3, zi 1)] [zl v537] m _
      refine X.goto 228 (zi237 209) rfl rfl ?_
      refine X.cut [] (zi237 228) rfl ?_
      refine X.retl (zi237 228) rfl t237 ?_
      exact hQ v537 (by first | trivial | omega) (Eq.trans (if_pos h501) (Eq.trans (zn_eq hFv506.symm) (Eq.trans (zn_eq hFv510.symm) (Eq.trans (zn_eq ez511) (Eq.trans (zn_eq ez512) (Eq.trans (zn_eq hFv515.symm) (Eq.trans (if_neg h516) (Eq.trans (if_neg h517) (Eq.trans (if_neg h518) (Eq.trans (if_neg h523) (Eq.trans (if_neg h528) (Eq.trans (if_neg h529) (Eq.trans (if_pos h533) (Eq.trans (zn_eq hFv537.symm) rfl)))))))))))))) 
    by_cases h538 : a2 = 7
    · refine X.tsIn 229 7 (zi237 91) rfl (by omega) rfl rfl ?_
      refine X.cut [(0, zr 4 44), (1, zi a1), (3, zi 1)] (zi237 229) rfl ?_
      refine X.iload_n 230 (zi237 229) rfl rfl rfl ?_
      refine X.ifeq 243 233 (zi237 230) rfl rfl rfl (fun h539 => (by exfalso; omega)) (fun h539 => ?_)
      refine X.aload_n 234 (zi237 233) rfl rfl rfl ?_
      refine X.sipush 237 (zi237 234) rfl rfl (by decide) ?_
      refine X.callv 240 [zi 143] [] [(0, zr 4 44), (1, zi 143)] (zi237 237) rfl (by decide) rfl rfl (by omega) rfl rfl (by decide) rfl t238 (Nat.le_of_ble_eq_true rfl) (Nat.le_of_ble_eq_true rfl) rfl ?_
      refine c238_2 (B := B)  143 (by omega) (hJ.up (by omega)) (by omega) (by omega) (fun v542 hv542 hFv542 => ?_)
      show X (EE s) d 237 240 [(0, zr 4 44), (1, zi a1), (3, zi 1)] [zl v542] m _
      refine X.goto 260 (zi237 240) rfl rfl ?_
      refine X.cut [] (zi237 260) rfl ?_
      refine X.retl (zi237 260) rfl t237 ?_
      exact hQ v542 (by first | trivial | omega) (Eq.trans (if_pos h501) (Eq.trans (zn_eq hFv506.symm) (Eq.trans (zn_eq hFv510.symm) (Eq.trans (zn_eq ez511) (Eq.trans (zn_eq ez512) (Eq.trans (zn_eq hFv515.symm) (Eq.trans (if_neg h516) (Eq.trans (if_neg h517) (Eq.trans (if_neg h518) (Eq.trans (if_neg h523) (Eq.trans (if_neg h528) (Eq.trans (if_neg h529) (Eq.trans (if_neg h533) (Eq.trans (if_pos h538) (Eq.trans (zn_eq hFv542.symm) rfl))))))))))))))) 
    by_cases h543 : a2 = 8
    · refine X.tsIn 261 8 (zi237 91) rfl (by omega) rfl rfl ?_
      refine X.cut [(4, zl v506), (8, zl v515)] (zi237 261) rfl ?_
      refine X.lload 263 (zi237 261) rfl rfl rfl ?_
      refine X.lload 265 (zi237 263) rfl rfl rfl ?_
      refine X.calls 268 [zl v506, zl v515] [] [(0, zl v506), (2, zl v515)] (zi237 265) (by decide) rfl rfl (by omega) rfl rfl t239 (Nat.le_of_ble_eq_true rfl) (Nat.le_of_ble_eq_true rfl) rfl ?_
      refine c239_1 (B := B)  v506 v515 (by omega) (hJ.up (by omega)) (by omega) (by omega) (by omega) (fun v546 hv546 hFv546 => ?_)
      show X (EE s) d 237 268 [(4, zl v506), (8, zl v515)] [zl v546] m _
      refine X.retl (zi237 268) rfl t237 ?_
      exact hQ v546 (by first | trivial | omega) (Eq.trans (if_pos h501) (Eq.trans (zn_eq hFv506.symm) (Eq.trans (zn_eq hFv510.symm) (Eq.trans (zn_eq ez511) (Eq.trans (zn_eq ez512) (Eq.trans (zn_eq hFv515.symm) (Eq.trans (if_neg h516) (Eq.trans (if_neg h517) (Eq.trans (if_neg h518) (Eq.trans (if_neg h523) (Eq.trans (if_neg h528) (Eq.trans (if_neg h529) (Eq.trans (if_neg h533) (Eq.trans (if_neg h538) (Eq.trans (if_pos h543) (Eq.trans (zn_eq hFv546.symm) rfl)))))))))))))))) 
    refine X.tsOut 269 (zi237 91) rfl (by omega) rfl ?_
    refine X.cut [] (zi237 269) rfl ?_
    refine X.ldc2 272 (zi237 269) rfl rfl (by decide) ?_
    refine X.retl (zi237 272) rfl t237 ?_
    exact hQ (-10000000000) (by first | trivial | omega) (Eq.trans (if_pos h501) (Eq.trans (zn_eq hFv506.symm) (Eq.trans (zn_eq hFv510.symm) (Eq.trans (zn_eq ez511) (Eq.trans (zn_eq ez512) (Eq.trans (zn_eq hFv515.symm) (Eq.trans (if_neg h516) (Eq.trans (if_neg h517) (Eq.trans (if_neg h518) (Eq.trans (if_neg h523) (Eq.trans (if_neg h528) (Eq.trans (if_neg h529) (Eq.trans (if_neg h533) (Eq.trans (if_neg h538) (Eq.trans (if_neg h543) rfl))))))))))))))) 
  · refine X.iload_n 6 (zi237 5) rfl rfl rfl ?_
    refine X.i2l 7 (zi237 6) rfl rfl ?_
    refine X.lconst (y := 0) 8 (zi237 7) rfl rfl rfl ?_
    refine X.aload_n 9 (zi237 8) rfl rfl rfl ?_
    refine X.callv 12 [] [zl 0, zl a1] [(0, zr 4 44)] (zi237 9) rfl (by decide) rfl rfl (by omega) rfl rfl (by decide) rfl t206 (Nat.le_of_ble_eq_true rfl) (Nat.le_of_ble_eq_true rfl) rfl ?_
    refine X.aload_n 1 (zi206 0) rfl rfl rfl ?_
    refine X.getF 4 (zi206 1) rfl rfl (by decide) rfl rfl ?_
    refine X.iconst 5 (zi206 4) rfl rfl (by decide) ?_
    refine X.lald 6 (zi206 5) rfl rfl (by decide) rfl (by omega) ?_
    have h547 := r45_1 hJ 4
    refine X.l2i 7 (zi206 6) rfl rfl (by omega) ?_
    refine X.reti (zi206 7) rfl t206 ?_
    show X (EE s) d 237 12 [(0, zr 4 44), (1, zi a1), (2, zi a2)] [zi (m 4 45 1), zl 0, zl a1] m _
    refine X.iconst 13 (zi237 12) rfl rfl (by decide) ?_
    refine X.isub 14 (zi237 13) rfl rfl (by omega) ?_
    refine X.i2l 15 (zi237 14) rfl rfl ?_
    refine X.calls 18 [zl a1, zl 0, zl ((m 4 45 1) - 1)] [] [(0, zl a1), (2, zl 0), (4, zl ((m 4 45 1) - 1))] (zi237 15) (by decide) rfl rfl (by omega) rfl rfl t204 (Nat.le_of_ble_eq_true rfl) (Nat.le_of_ble_eq_true rfl) rfl ?_
    refine X.lload_n 1 (zi204 0) rfl rfl rfl ?_
    refine X.lload_n 2 (zi204 1) rfl rfl rfl ?_
    refine X.lcmp 3 (zi204 2) rfl rfl (fun z548 hz548 => ?_)
    refine X.iflt 17 6 (zi204 3) rfl rfl rfl (fun h549 => ?_) (fun h549 => ?_)
    · have h549c : a1 < 0 := by omega
      clear h549 hz548
      refine X.cut [] (zi204 17) rfl ?_
      refine X.iconst 18 (zi204 17) rfl rfl (by decide) ?_
      refine X.retz (zi204 18) rfl t204 (by omega) ?_
      show X (EE s) d 237 18 [(0, zr 4 44), (1, zi a1), (2, zi a2)] [zi 0] m _
      refine X.ifne 25 21 (zi237 18) rfl rfl rfl (fun h550 => (by exfalso; omega)) (fun h550 => ?_)
      refine X.ldc2 24 (zi237 21) rfl rfl (by decide) ?_
      refine X.retl (zi237 24) rfl t237 ?_
      exact hQ (-10000000000) (by first | trivial | omega) (Eq.trans (if_neg h501) (Eq.trans (if_pos h549c) rfl)) 
    · have h549c : ¬ a1 < 0 := by omega
      clear h549 hz548
      refine X.lload_n 7 (zi204 6) rfl rfl rfl ?_
      refine X.lload 9 (zi204 7) rfl rfl rfl ?_
      refine X.lcmp 10 (zi204 9) rfl rfl (fun z551 hz551 => ?_)
      refine X.ifgt 17 13 (zi204 10) rfl rfl rfl (fun h552 => ?_) (fun h552 => ?_)
      · have h552c : ¬ a1 ≤ ((m 4 45 1) - 1) := by omega
        clear h552 hz551
        refine X.cut [] (zi204 17) rfl ?_
        refine X.iconst 18 (zi204 17) rfl rfl (by decide) ?_
        refine X.retz (zi204 18) rfl t204 (by omega) ?_
        show X (EE s) d 237 18 [(0, zr 4 44), (1, zi a1), (2, zi a2)] [zi 0] m _
        refine X.ifne 25 21 (zi237 18) rfl rfl rfl (fun h553 => (by exfalso; omega)) (fun h553 => ?_)
        refine X.ldc2 24 (zi237 21) rfl rfl (by decide) ?_
        refine X.retl (zi237 24) rfl t237 ?_
        exact hQ (-10000000000) (by first | trivial | omega) (Eq.trans (if_neg h501) (Eq.trans (if_neg h549c) (Eq.trans (if_neg h552c) rfl))) 
      · have h552c : a1 ≤ ((m 4 45 1) - 1) := by omega
        clear h552 hz551
        refine X.iconst 14 (zi204 13) rfl rfl (by decide) ?_
        refine X.goto 18 (zi204 14) rfl rfl ?_
        refine X.cut [] (zi204 18) rfl ?_
        refine X.retz (zi204 18) rfl t204 (by omega) ?_
        show X (EE s) d 237 18 [(0, zr 4 44), (1, zi a1), (2, zi a2)] [zi 1] m _
        refine X.ifne 25 21 (zi237 18) rfl rfl rfl (fun h554 => ?_) (fun h554 => (by exfalso; omega))
        refine X.iload_n 26 (zi237 25) rfl rfl rfl ?_
        refine X.iconst 27 (zi237 26) rfl rfl (by decide) ?_
        refine X.icmpne 34 30 (zi237 27) rfl rfl rfl (fun h555 => ?_) (fun h555 => (by exfalso; omega))
        refine X.iconst 35 (zi237 34) rfl rfl (by decide) ?_
        refine X.istore_n 36 [(0, zr 4 44), (1, zi a1), (2, zi a2), (3, zi 0)] (zi237 35) rfl rfl rfl ?_
        refine X.iload_n 37 (zi237 36) rfl rfl rfl ?_
        refine X.ifeq 48 40 (zi237 37) rfl rfl rfl (fun h556 => ?_) (fun h556 => (by exfalso; omega))
        refine X.aload_n 49 (zi237 48) rfl rfl rfl ?_
        refine X.iload_n 50 (zi237 49) rfl rfl rfl ?_
        refine X.callv 53 [zi a1] [] [(0, zr 4 44), (1, zi a1)] (zi237 50) rfl (by decide) rfl rfl (by omega) rfl rfl (by decide) rfl t210 (Nat.le_of_ble_eq_true rfl) (Nat.le_of_ble_eq_true rfl) rfl ?_
        refine c210_1 (B := B)  a1 (by omega) (hJ.up (by omega)) (by omega) (by omega) (fun v559 hv559 hFv559 => ?_)
        show X (EE s) d 237 53 [(0, zr 4 44), (1, zi a1), (2, zi a2), (3, zi 0)] [zl v559] m _
        refine X.lstore 55 [(0, zr 4 44), (1, zi a1), (2, zi a2), (3, zi 0), (4, zl v559)] (zi237 53) rfl rfl rfl ?_
        refine X.iload_n 56 (zi237 55) rfl rfl rfl ?_
        refine X.ifeq 67 59 (zi237 56) rfl rfl rfl (fun h560 => ?_) (fun h560 => (by exfalso; omega))
        refine X.aload_n 68 (zi237 67) rfl rfl rfl ?_
        refine X.iload_n 69 (zi237 68) rfl rfl rfl ?_
        refine X.callv 72 [zi a1] [] [(0, zr 4 44), (1, zi a1)] (zi237 69) rfl (by decide) rfl rfl (by omega) rfl rfl (by decide) rfl t212 (Nat.le_of_ble_eq_true rfl) (Nat.le_of_ble_eq_true rfl) rfl ?_
        refine c212_1 (B := B)  a1 (by omega) (hJ.up (by omega)) (by omega) (by omega) (fun v563 hv563 hFv563 => ?_)
        show X (EE s) d 237 72 [(0, zr 4 44), (1, zi a1), (2, zi a2), (3, zi 0), (4, zl v559)] [zl v563] m _
        refine X.lstore 74 [(0, zr 4 44), (1, zi a1), (2, zi a2), (3, zi 0), (4, zl v559), (6, zl v563)] (zi237 72) rfl rfl rfl ?_
        refine X.lload 76 (zi237 74) rfl rfl rfl ?_
        refine X.lload 78 (zi237 76) rfl rfl rfl ?_
        have hz564 := z_sqr (e := 4000000) (x := v559) (by omega)
        refine X.lmul 79 (zi237 78) rfl rfl (z_in3 hz564 (by decide) (by decide)) ?_
        obtain ⟨z564, ez564⟩ : ∃ z, z = (v559 * v559) := ⟨_, rfl⟩
        rw [← ez564] at hz564 ⊢
        have gz564 : 0 ≤ z564 ∧ z564 ≤ 16000000000000 := z_in3 hz564 (by decide) (by decide)
        clear hz564
        refine X.lload 81 (zi237 79) rfl rfl rfl ?_
        refine X.lload 83 (zi237 81) rfl rfl rfl ?_
        have hz565 := z_sqr (e := 4000000) (x := v563) (by omega)
        refine X.lmul 84 (zi237 83) rfl rfl (z_in3 hz565 (by decide) (by decide)) ?_
        obtain ⟨z565, ez565⟩ : ∃ z, z = (v563 * v563) := ⟨_, rfl⟩
        rw [← ez565] at hz565 ⊢
        have gz565 : 0 ≤ z565 ∧ z565 ≤ 16000000000000 := z_in3 hz565 (by decide) (by decide)
        clear hz565
        refine X.ladd 85 (zi237 84) rfl rfl (by omega) ?_
        refine X.calls 88 [zl (z564 + z565)] [] [(0, zl (z564 + z565))] (zi237 85) (by decide) rfl rfl (by omega) rfl rfl t214 (Nat.le_of_ble_eq_true rfl) (Nat.le_of_ble_eq_true rfl) rfl ?_
        refine c214_1 (B := B)  (z564 + z565) (by omega) (hJ.up (by omega)) (by omega) (by omega) (fun v568 hv568 hFv568 => ?_)
        show X (EE s) d 237 88 [(0, zr 4 44), (1, zi a1), (2, zi a2), (3, zi 0), (4, zl v559), (6, zl v563)] [zl v568] m _
        refine X.lstore 90 [(0, zr 4 44), (1, zi a1), (2, zi a2), (3, zi 0), (4, zl v559), (6, zl v563), (8, zl v568)] (zi237 88) rfl rfl rfl ?_
        refine X.iload_n 91 (zi237 90) rfl rfl rfl ?_
        by_cases h569 : a2 = 0
        · refine X.tsIn 140 0 (zi237 91) rfl (by omega) rfl rfl ?_
          refine X.cut [(4, zl v559)] (zi237 140) rfl ?_
          refine X.lload 142 (zi237 140) rfl rfl rfl ?_
          refine X.retl (zi237 142) rfl t237 ?_
          exact hQ v559 (by first | trivial | omega) (Eq.trans (if_neg h501) (Eq.trans (if_neg h549c) (Eq.trans (if_pos h552c) (Eq.trans (zn_eq hFv559.symm) (Eq.trans (zn_eq hFv563.symm) (Eq.trans (zn_eq ez564) (Eq.trans (zn_eq ez565) (Eq.trans (zn_eq hFv568.symm) (Eq.trans (if_pos h569) rfl))))))))) 
        by_cases h570 : a2 = 1
        · refine X.tsIn 143 1 (zi237 91) rfl (by omega) rfl rfl ?_
          refine X.cut [(6, zl v563)] (zi237 143) rfl ?_
          refine X.lload 145 (zi237 143) rfl rfl rfl ?_
          refine X.retl (zi237 145) rfl t237 ?_
          exact hQ v563 (by first | trivial | omega) (Eq.trans (if_neg h501) (Eq.trans (if_neg h549c) (Eq.trans (if_pos h552c) (Eq.trans (zn_eq hFv559.symm) (Eq.trans (zn_eq hFv563.symm) (Eq.trans (zn_eq ez564) (Eq.trans (zn_eq ez565) (Eq.trans (zn_eq hFv568.symm) (Eq.trans (if_neg h569) (Eq.trans (if_pos h570) rfl)))))))))) 
        by_cases h571 : a2 = 2
        · refine X.tsIn 146 2 (zi237 91) rfl (by omega) rfl rfl ?_
          refine X.cut [(0, zr 4 44), (1, zi a1), (3, zi 0)] (zi237 146) rfl ?_
          refine X.iload_n 147 (zi237 146) rfl rfl rfl ?_
          refine X.ifeq 158 150 (zi237 147) rfl rfl rfl (fun h572 => ?_) (fun h572 => (by exfalso; omega))
          refine X.cut [(0, zr 4 44), (1, zi a1)] (zi237 158) rfl ?_
          refine X.aload_n 159 (zi237 158) rfl rfl rfl ?_
          refine X.bipush 161 (zi237 159) rfl rfl (by decide) ?_
          refine X.iload_n 162 (zi237 161) rfl rfl rfl ?_
          refine X.callv 165 [zi 95, zi a1] [] [(0, zr 4 44), (1, zi 95), (2, zi a1)] (zi237 162) rfl (by decide) rfl rfl (by omega) rfl rfl (by decide) rfl t213 (Nat.le_of_ble_eq_true rfl) (Nat.le_of_ble_eq_true rfl) rfl ?_
          refine c213_1 (B := B)  95 a1 (by omega) (hJ.up (by omega)) (by omega) (by omega) (by omega) (fun v575 hv575 hFv575 => ?_)
          show X (EE s) d 237 165 [(0, zr 4 44), (1, zi a1)] [zl v575] m _
          refine X.cut [] (zi237 165) rfl ?_
          refine X.retl (zi237 165) rfl t237 ?_
          exact hQ v575 (by first | trivial | omega) (Eq.trans (if_neg h501) (Eq.trans (if_neg h549c) (Eq.trans (if_pos h552c) (Eq.trans (zn_eq hFv559.symm) (Eq.trans (zn_eq hFv563.symm) (Eq.trans (zn_eq ez564) (Eq.trans (zn_eq ez565) (Eq.trans (zn_eq hFv568.symm) (Eq.trans (if_neg h569) (Eq.trans (if_neg h570) (Eq.trans (if_pos h571) (Eq.trans (zn_eq hFv575.symm) rfl)))))))))))) 
        by_cases h576 : a2 = 3
        · refine X.tsIn 166 3 (zi237 91) rfl (by omega) rfl rfl ?_
          refine X.cut [(0, zr 4 44), (1, zi a1), (3, zi 0)] (zi237 166) rfl ?_
          refine X.iload_n 167 (zi237 166) rfl rfl rfl ?_
          refine X.ifeq 178 170 (zi237 167) rfl rfl rfl (fun h577 => ?_) (fun h577 => (by exfalso; omega))
          refine X.cut [(0, zr 4 44), (1, zi a1)] (zi237 178) rfl ?_
          refine X.aload_n 179 (zi237 178) rfl rfl rfl ?_
          refine X.sipush 182 (zi237 179) rfl rfl (by decide) ?_
          refine X.iload_n 183 (zi237 182) rfl rfl rfl ?_
          refine X.callv 186 [zi 143, zi a1] [] [(0, zr 4 44), (1, zi 143), (2, zi a1)] (zi237 183) rfl (by decide) rfl rfl (by omega) rfl rfl (by decide) rfl t213 (Nat.le_of_ble_eq_true rfl) (Nat.le_of_ble_eq_true rfl) rfl ?_
          refine c213_1 (B := B)  143 a1 (by omega) (hJ.up (by omega)) (by omega) (by omega) (by omega) (fun v580 hv580 hFv580 => ?_)
          show X (EE s) d 237 186 [(0, zr 4 44), (1, zi a1)] [zl v580] m _
          refine X.cut [] (zi237 186) rfl ?_
          refine X.retl (zi237 186) rfl t237 ?_
          exact hQ v580 (by first | trivial | omega) (Eq.trans (if_neg h501) (Eq.trans (if_neg h549c) (Eq.trans (if_pos h552c) (Eq.trans (zn_eq hFv559.symm) (Eq.trans (zn_eq hFv563.symm) (Eq.trans (zn_eq ez564) (Eq.trans (zn_eq ez565) (Eq.trans (zn_eq hFv568.symm) (Eq.trans (if_neg h569) (Eq.trans (if_neg h570) (Eq.trans (if_neg h571) (Eq.trans (if_pos h576) (Eq.trans (zn_eq hFv580.symm) rfl))))))))))))) 
        by_cases h581 : a2 = 4
        · refine X.tsIn 187 4 (zi237 91) rfl (by omega) rfl rfl ?_
          refine X.cut [(8, zl v568)] (zi237 187) rfl ?_
          refine X.lload 189 (zi237 187) rfl rfl rfl ?_
          refine X.retl (zi237 189) rfl t237 ?_
          exact hQ v568 (by first | trivial | omega) (Eq.trans (if_neg h501) (Eq.trans (if_neg h549c) (Eq.trans (if_pos h552c) (Eq.trans (zn_eq hFv559.symm) (Eq.trans (zn_eq hFv563.symm) (Eq.trans (zn_eq ez564) (Eq.trans (zn_eq ez565) (Eq.trans (zn_eq hFv568.symm) (Eq.trans (if_neg h569) (Eq.trans (if_neg h570) (Eq.trans (if_neg h571) (Eq.trans (if_neg h576) (Eq.trans (if_pos h581) rfl))))))))))))) 
        by_cases h582 : a2 = 5
        · refine X.tsIn 190 5 (zi237 91) rfl (by omega) rfl rfl ?_
          refine X.cut [(4, zl v559), (6, zl v563)] (zi237 190) rfl ?_
          refine X.lload 192 (zi237 190) rfl rfl rfl ?_
          refine X.lload 194 (zi237 192) rfl rfl rfl ?_
          refine X.calls 197 [zl v559, zl v563] [] [(0, zl v559), (2, zl v563)] (zi237 194) (by decide) rfl rfl (by omega) rfl rfl t221 (Nat.le_of_ble_eq_true rfl) (Nat.le_of_ble_eq_true rfl) rfl ?_
          refine c221_1 (B := B)  v559 v563 (by omega) (hJ.up (by omega)) (by omega) (by omega) (by omega) (fun v585 hv585 hFv585 => ?_)
          show X (EE s) d 237 197 [(4, zl v559), (6, zl v563)] [zi v585] m _
          refine X.i2l 198 (zi237 197) rfl rfl ?_
          refine X.retl (zi237 198) rfl t237 ?_
          exact hQ v585 (by first | trivial | omega) (Eq.trans (if_neg h501) (Eq.trans (if_neg h549c) (Eq.trans (if_pos h552c) (Eq.trans (zn_eq hFv559.symm) (Eq.trans (zn_eq hFv563.symm) (Eq.trans (zn_eq ez564) (Eq.trans (zn_eq ez565) (Eq.trans (zn_eq hFv568.symm) (Eq.trans (if_neg h569) (Eq.trans (if_neg h570) (Eq.trans (if_neg h571) (Eq.trans (if_neg h576) (Eq.trans (if_neg h581) (Eq.trans (if_pos h582) (Eq.trans (zn_eq hFv585.symm) rfl))))))))))))))) 
        by_cases h586 : a2 = 6
        · refine X.tsIn 199 6 (zi237 91) rfl (by omega) rfl rfl ?_
          refine X.cut [(0, zr 4 44), (1, zi a1), (3, zi 0)] (zi237 199) rfl ?_
          refine X.iload_n 200 (zi237 199) rfl rfl rfl ?_
          refine X.ifeq 212 203 (zi237 200) rfl rfl rfl (fun h587 => ?_) (fun h587 => (by exfalso; omega))
          refine X.cut [(0, zr 4 44), (1, zi a1)] (zi237 212) rfl ?_
          refine X.aload_n 213 (zi237 212) rfl rfl rfl ?_
          refine X.bipush 215 (zi237 213) rfl rfl (by decide) ?_
          refine X.iload_n 216 (zi237 215) rfl rfl rfl ?_
          refine X.callv 219 [zi 95, zi a1] [] [(0, zr 4 44), (1, zi 95), (2, zi a1)] (zi237 216) rfl (by decide) rfl rfl (by omega) rfl rfl (by decide) rfl t213 (Nat.le_of_ble_eq_true rfl) (Nat.le_of_ble_eq_true rfl) rfl ?_
          refine c213_1 (B := B)  95 a1 (by omega) (hJ.up (by omega)) (by omega) (by omega) (by omega) (fun v590 hv590 hFv590 => ?_)
          show X (EE s) d 237 219 [(0, zr 4 44), (1, zi a1)] [zl v590] m _
          refine X.aload_n 220 (zi237 219) rfl rfl rfl ?_
          refine X.callv 223 [] [zl v590] [(0, zr 4 44)] (zi237 220) rfl (by decide) rfl rfl (by omega) rfl rfl (by decide) rfl t211 (Nat.le_of_ble_eq_true rfl) (Nat.le_of_ble_eq_true rfl) rfl ?_
          refine X.aload_n 1 (zi211 0) rfl rfl rfl ?_
          refine X.getF 4 (zi211 1) rfl rfl (by decide) rfl rfl ?_
          refine X.iconst 5 (zi211 4) rfl rfl (by decide) ?_
          refine X.lald 6 (zi211 5) rfl rfl (by decide) rfl (by omega) ?_
          have h591 := r45_2 hJ 4
          refine X.l2i 7 (zi211 6) rfl rfl (by omega) ?_
          refine X.reti (zi211 7) rfl t211 ?_
          show X (EE s) d 237 223 [(0, zr 4 44), (1, zi a1)] [zi (m 4 45 2), zl v590] m _
          refine X.i2l 224 (zi237 223) rfl rfl ?_
          refine X.ldivp 225 (zi237 224) rfl rfl (by omega) ?_
          have hz592 := z_divb (x := v590) (y := (m 4 45 2)) (by omega) (by omega)
          obtain ⟨z592, ez592⟩ : ∃ z, z = (v590 / (m 4 45 2)) := ⟨_, rfl⟩
          rw [← ez592] at hz592 ⊢
          refine X.calls 228 [zl z592] [] [(0, zl z592)] (zi237 225) (by decide) rfl rfl (by omega) rfl rfl t214 (Nat.le_of_ble_eq_true rfl) (Nat.le_of_ble_eq_true rfl) rfl ?_
          refine c214_1 (B := B)  z592 (by omega) (hJ.up (by omega)) (by omega) (by omega) (fun v595 hv595 hFv595 => ?_)
          show X (EE s) d 237 228 [(0, zr 4 44), (1, zi a1)] [zl v595] m _
          refine X.cut [] (zi237 228) rfl ?_
          refine X.retl (zi237 228) rfl t237 ?_
          exact hQ v595 (by first | trivial | omega) (Eq.trans (if_neg h501) (Eq.trans (if_neg h549c) (Eq.trans (if_pos h552c) (Eq.trans (zn_eq hFv559.symm) (Eq.trans (zn_eq hFv563.symm) (Eq.trans (zn_eq ez564) (Eq.trans (zn_eq ez565) (Eq.trans (zn_eq hFv568.symm) (Eq.trans (if_neg h569) (Eq.trans (if_neg h570) (Eq.trans (if_neg h571) (Eq.trans (if_neg h576) (Eq.trans (if_neg h581) (Eq.trans (if_neg h582) (Eq.trans (if_pos h586) (Eq.trans (zn_eq hFv590.symm) (Eq.trans (zn_eq ez592) (Eq.trans (zn_eq hFv595.symm) rfl)))))))))))))))))) 
        by_cases h596 : a2 = 7
        · refine X.tsIn 229 7 (zi237 91) rfl (by omega) rfl rfl ?_
          refine X.cut [(0, zr 4 44), (1, zi a1), (3, zi 0)] (zi237 229) rfl ?_
          refine X.iload_n 230 (zi237 229) rfl rfl rfl ?_
          refine X.ifeq 243 233 (zi237 230) rfl rfl rfl (fun h597 => ?_) (fun h597 => (by exfalso; omega))
          refine X.cut [(0, zr 4 44), (1, zi a1)] (zi237 243) rfl ?_
          refine X.aload_n 244 (zi237 243) rfl rfl rfl ?_
          refine X.sipush 247 (zi237 244) rfl rfl (by decide) ?_
          refine X.iload_n 248 (zi237 247) rfl rfl rfl ?_
          refine X.callv 251 [zi 143, zi a1] [] [(0, zr 4 44), (1, zi 143), (2, zi a1)] (zi237 248) rfl (by decide) rfl rfl (by omega) rfl rfl (by decide) rfl t213 (Nat.le_of_ble_eq_true rfl) (Nat.le_of_ble_eq_true rfl) rfl ?_
          refine c213_1 (B := B)  143 a1 (by omega) (hJ.up (by omega)) (by omega) (by omega) (by omega) (fun v600 hv600 hFv600 => ?_)
          show X (EE s) d 237 251 [(0, zr 4 44), (1, zi a1)] [zl v600] m _
          refine X.aload_n 252 (zi237 251) rfl rfl rfl ?_
          refine X.callv 255 [] [zl v600] [(0, zr 4 44)] (zi237 252) rfl (by decide) rfl rfl (by omega) rfl rfl (by decide) rfl t211 (Nat.le_of_ble_eq_true rfl) (Nat.le_of_ble_eq_true rfl) rfl ?_
          refine X.aload_n 1 (zi211 0) rfl rfl rfl ?_
          refine X.getF 4 (zi211 1) rfl rfl (by decide) rfl rfl ?_
          refine X.iconst 5 (zi211 4) rfl rfl (by decide) ?_
          refine X.lald 6 (zi211 5) rfl rfl (by decide) rfl (by omega) ?_
          have h601 := r45_2 hJ 4
          refine X.l2i 7 (zi211 6) rfl rfl (by omega) ?_
          refine X.reti (zi211 7) rfl t211 ?_
          show X (EE s) d 237 255 [(0, zr 4 44), (1, zi a1)] [zi (m 4 45 2), zl v600] m _
          refine X.i2l 256 (zi237 255) rfl rfl ?_
          refine X.ldivp 257 (zi237 256) rfl rfl (by omega) ?_
          have hz602 := z_divb (x := v600) (y := (m 4 45 2)) (by omega) (by omega)
          obtain ⟨z602, ez602⟩ : ∃ z, z = (v600 / (m 4 45 2)) := ⟨_, rfl⟩
          rw [← ez602] at hz602 ⊢
          refine X.calls 260 [zl z602] [] [(0, zl z602)] (zi237 257) (by decide) rfl rfl (by omega) rfl rfl t214 (Nat.le_of_ble_eq_true rfl) (Nat.le_of_ble_eq_true rfl) rfl ?_
          refine c214_1 (B := B)  z602 (by omega) (hJ.up (by omega)) (by omega) (by omega) (fun v605 hv605 hFv605 => ?_)
          show X (EE s) d 237 260 [(0, zr 4 44), (1, zi a1)] [zl v605] m _
          refine X.cut [] (zi237 260) rfl ?_
          refine X.retl (zi237 260) rfl t237 ?_
          exact hQ v605 (by first | trivial | omega) (Eq.trans (if_neg h501) (Eq.trans (if_neg h549c) (Eq.trans (if_pos h552c) (Eq.trans (zn_eq hFv559.symm) (Eq.trans (zn_eq hFv563.symm) (Eq.trans (zn_eq ez564) (Eq.trans (zn_eq ez565) (Eq.trans (zn_eq hFv568.symm) (Eq.trans (if_neg h569) (Eq.trans (if_neg h570) (Eq.trans (if_neg h571) (Eq.trans (if_neg h576) (Eq.trans (if_neg h581) (Eq.trans (if_neg h582) (Eq.trans (if_neg h586) (Eq.trans (if_pos h596) (Eq.trans (zn_eq hFv600.symm) (Eq.trans (zn_eq ez602) (Eq.trans (zn_eq hFv605.symm) rfl))))))))))))))))))) 
        by_cases h606 : a2 = 8
        · refine X.tsIn 261 8 (zi237 91) rfl (by omega) rfl rfl ?_
          refine X.cut [(4, zl v559), (8, zl v568)] (zi237 261) rfl ?_
          refine X.lload 263 (zi237 261) rfl rfl rfl ?_
          refine X.lload 265 (zi237 263) rfl rfl rfl ?_
          refine X.calls 268 [zl v559, zl v568] [] [(0, zl v559), (2, zl v568)] (zi237 265) (by decide) rfl rfl (by omega) rfl rfl t239 (Nat.le_of_ble_eq_true rfl) (Nat.le_of_ble_eq_true rfl) rfl ?_
          refine c239_1 (B := B)  v559 v568 (by omega) (hJ.up (by omega)) (by omega) (by omega) (by omega) (fun v609 hv609 hFv609 => ?_)
          show X (EE s) d 237 268 [(4, zl v559), (8, zl v568)] [zl v609] m _
          refine X.retl (zi237 268) rfl t237 ?_
          exact hQ v609 (by first | trivial | omega) (Eq.trans (if_neg h501) (Eq.trans (if_neg h549c) (Eq.trans (if_pos h552c) (Eq.trans (zn_eq hFv559.symm) (Eq.trans (zn_eq hFv563.symm) (Eq.trans (zn_eq ez564) (Eq.trans (zn_eq ez565) (Eq.trans (zn_eq hFv568.symm) (Eq.trans (if_neg h569) (Eq.trans (if_neg h570) (Eq.trans (if_neg h571) (Eq.trans (if_neg h576) (Eq.trans (if_neg h581) (Eq.trans (if_neg h582) (Eq.trans (if_neg h586) (Eq.trans (if_neg h596) (Eq.trans (if_pos h606) (Eq.trans (zn_eq hFv609.symm) rfl)))))))))))))))))) 
        refine X.tsOut 269 (zi237 91) rfl (by omega) rfl ?_
        refine X.cut [] (zi237 269) rfl ?_
        refine X.ldc2 272 (zi237 269) rfl rfl (by decide) ?_
        refine X.retl (zi237 272) rfl t237 ?_
        exact hQ (-10000000000) (by first | trivial | omega) (Eq.trans (if_neg h501) (Eq.trans (if_neg h549c) (Eq.trans (if_pos h552c) (Eq.trans (zn_eq hFv559.symm) (Eq.trans (zn_eq hFv563.symm) (Eq.trans (zn_eq ez564) (Eq.trans (zn_eq ez565) (Eq.trans (zn_eq hFv568.symm) (Eq.trans (if_neg h569) (Eq.trans (if_neg h570) (Eq.trans (if_neg h571) (Eq.trans (if_neg h576) (Eq.trans (if_neg h581) (Eq.trans (if_neg h582) (Eq.trans (if_neg h586) (Eq.trans (if_neg h596) (Eq.trans (if_neg h606) rfl))))))))))))))))) 
-- WorkMeter$Registers.sum
theorem c71_2 {s : Nat × (Nat → Int32)} {S : zS} {m0 m : zM} {B : Int} {d : Nat} {Q : Option zV → zM → Prop} (g0 : Nat) (a1 a2 : Int) (hd : 14 ≤ d) (hJ : J S m0 B m) (hB : B + 0 ≤ 1000000000) (ha1 : 0 ≤ a1 ∧ a1 ≤ 6) (ha2 : (-1) ≤ a2 ∧ a2 ≤ (-1)) (hQ : ∀ (v : Int), (True) → f71_1 g0 a1 a2 m = v → Q (some (zl v)) m) : X (EE s) d 71 0 [(0, zr g0 23), (1, zi a1), (2, zi a2)] [] m Q := by
  refine X.aload_n 1 (zi71 0) rfl rfl rfl ?_
  refine X.getR 4 (zi71 1) rfl rfl (by decide) rfl rfl ?_
  refine X.iload_n 5 (zi71 4) rfl rfl rfl ?_
  refine X.iconst 6 (zi71 5) rfl rfl (by decide) ?_
  refine X.imul 7 (zi71 6) rfl rfl (by omega) ?_
  refine X.iload_n 8 (zi71 7) rfl rfl rfl ?_
  refine X.calls 11 [zr g0 24, zi (a1 * 4), zi a2] [] [(0, zr g0 24), (1, zi (a1 * 4)), (2, zi a2)] (zi71 8) (by decide) rfl rfl (by omega) rfl rfl t72 (Nat.le_of_ble_eq_true rfl) (Nat.le_of_ble_eq_true rfl) rfl ?_
  refine c72_1 (B := B) g0 (a1 * 4) a2 (by omega) (hJ.up (by omega)) (by omega) (by omega) (by omega) (fun v503 hv503 hFv503 => ?_)
  show X (EE s) d 71 11 [(0, zr g0 23), (1, zi a1), (2, zi a2)] [zl v503] m _
  refine X.retl (zi71 11) rfl t71 ?_
  exact hQ v503 (by first | trivial | omega) (Eq.trans (zn_eq hFv503.symm) rfl) 
-- WorkMeter$Registers.sum
theorem c71_3 {s : Nat × (Nat → Int32)} {S : zS} {m0 m : zM} {B : Int} {d : Nat} {Q : Option zV → zM → Prop} (g0 : Nat) (a1 a2 : Int) (hd : 14 ≤ d) (hJ : J S m0 B m) (hB : B + 0 ≤ 1000000000) (ha1 : 0 ≤ a1 ∧ a1 ≤ 6) (ha2 : 0 ≤ a2 ∧ a2 ≤ 3) (hQ : ∀ (v : Int), (True) → f71_1 g0 a1 a2 m = v → Q (some (zl v)) m) : X (EE s) d 71 0 [(0, zr g0 23), (1, zi a1), (2, zi a2)] [] m Q := by
  refine X.aload_n 1 (zi71 0) rfl rfl rfl ?_
  refine X.getR 4 (zi71 1) rfl rfl (by decide) rfl rfl ?_
  refine X.iload_n 5 (zi71 4) rfl rfl rfl ?_
  refine X.iconst 6 (zi71 5) rfl rfl (by decide) ?_
  refine X.imul 7 (zi71 6) rfl rfl (by omega) ?_
  refine X.iload_n 8 (zi71 7) rfl rfl rfl ?_
  refine X.calls 11 [zr g0 24, zi (a1 * 4), zi a2] [] [(0, zr g0 24), (1, zi (a1 * 4)), (2, zi a2)] (zi71 8) (by decide) rfl rfl (by omega) rfl rfl t72 (Nat.le_of_ble_eq_true rfl) (Nat.le_of_ble_eq_true rfl) rfl ?_
  refine c72_1 (B := B) g0 (a1 * 4) a2 (by omega) (hJ.up (by omega)) (by omega) (by omega) (by omega) (fun v503 hv503 hFv503 => ?_)
  show X (EE s) d 71 11 [(0, zr g0 23), (1, zi a1), (2, zi a2)] [zl v503] m _
  refine X.retl (zi71 11) rfl t71 ?_
  exact hQ v503 (by first | trivial | omega) (Eq.trans (zn_eq hFv503.symm) rfl) 
-- WorkMeter.raw
noncomputable def f144_1 (a1 a2 : Int) (m : zM) : Int :=
  if a1 < 0 then
  ((-1))
  else
  (if 7 ≤ a1 then
  ((-1))
  else
  (if a2 = (-1) then
  (zn (f71_1 0 a1 a2 m) fun v510 =>
  v510)
  else
  (if a2 < 0 then
  ((-1))
  else
  (if 4 ≤ a2 then
  ((-1))
  else
  (zn (f71_1 0 a1 a2 m) fun v521 =>
  v521)))))
-- WorkMeter.raw
theorem c144_1 {s : Nat × (Nat → Int32)} {S : zS} {m0 m : zM} {B : Int} {d : Nat} {Q : Option zV → zM → Prop} (a1 a2 : Int) (hd : 15 ≤ d) (hJ : J S m0 B m) (hB : B + 0 ≤ 1000000000) (ha1 : (-2147483648) ≤ a1 ∧ a1 ≤ 2147483647) (ha2 : (-2147483648) ≤ a2 ∧ a2 ≤ 2147483647) (hQ : ∀ (v : Int), (True) → f144_1 a1 a2 m = v → Q (some (zl v)) m) : X (EE s) d 144 0 [(0, zr 4 40), (1, zi a1), (2, zi a2)] [] m Q := by
  refine X.iload_n 1 (zi144 0) rfl rfl rfl ?_
  refine X.calls 4 [zi a1] [] [(0, zi a1)] (zi144 1) (by decide) rfl rfl (by omega) rfl rfl t145 (Nat.le_of_ble_eq_true rfl) (Nat.le_of_ble_eq_true rfl) rfl ?_
  refine X.iload_n 1 (zi145 0) rfl rfl rfl ?_
  refine X.iflt 14 4 (zi145 1) rfl rfl rfl (fun h501 => ?_) (fun h501 => ?_)
  · refine X.cut [] (zi145 14) rfl ?_
    refine X.iconst 15 (zi145 14) rfl rfl (by decide) ?_
    refine X.retz (zi145 15) rfl t145 (by omega) ?_
    show X (EE s) d 144 4 [(0, zr 4 40), (1, zi a1), (2, zi a2)] [zi 0] m _
    refine X.ifeq 14 7 (zi144 4) rfl rfl rfl (fun h502 => ?_) (fun h502 => (by exfalso; omega))
    refine X.cut [] (zi144 14) rfl ?_
    refine X.ldc2 17 (zi144 14) rfl rfl (by decide) ?_
    refine X.retl (zi144 17) rfl t144 ?_
    exact hQ (-1) (by first | trivial | omega) (Eq.trans (if_pos h501) rfl) 
  · refine X.iload_n 5 (zi145 4) rfl rfl rfl ?_
    refine X.bipush 7 (zi145 5) rfl rfl (by decide) ?_
    refine X.icmpge 14 10 (zi145 7) rfl rfl rfl (fun h503 => ?_) (fun h503 => ?_)
    · refine X.cut [] (zi145 14) rfl ?_
      refine X.iconst 15 (zi145 14) rfl rfl (by decide) ?_
      refine X.retz (zi145 15) rfl t145 (by omega) ?_
      show X (EE s) d 144 4 [(0, zr 4 40), (1, zi a1), (2, zi a2)] [zi 0] m _
      refine X.ifeq 14 7 (zi144 4) rfl rfl rfl (fun h504 => ?_) (fun h504 => (by exfalso; omega))
      refine X.cut [] (zi144 14) rfl ?_
      refine X.ldc2 17 (zi144 14) rfl rfl (by decide) ?_
      refine X.retl (zi144 17) rfl t144 ?_
      exact hQ (-1) (by first | trivial | omega) (Eq.trans (if_neg h501) (Eq.trans (if_pos h503) rfl)) 
    · refine X.iconst 11 (zi145 10) rfl rfl (by decide) ?_
      refine X.goto 15 (zi145 11) rfl rfl ?_
      refine X.cut [] (zi145 15) rfl ?_
      refine X.retz (zi145 15) rfl t145 (by omega) ?_
      show X (EE s) d 144 4 [(0, zr 4 40), (1, zi a1), (2, zi a2)] [zi 1] m _
      refine X.ifeq 14 7 (zi144 4) rfl rfl rfl (fun h505 => (by exfalso; omega)) (fun h505 => ?_)
      refine X.iload_n 8 (zi144 7) rfl rfl rfl ?_
      refine X.calls 11 [zi a2] [] [(0, zi a2)] (zi144 8) (by decide) rfl rfl (by omega) rfl rfl t146 (Nat.le_of_ble_eq_true rfl) (Nat.le_of_ble_eq_true rfl) rfl ?_
      refine X.iload_n 1 (zi146 0) rfl rfl rfl ?_
      refine X.iconst 2 (zi146 1) rfl rfl (by decide) ?_
      refine X.icmpeq 12 5 (zi146 2) rfl rfl rfl (fun h506 => ?_) (fun h506 => ?_)
      · refine X.cut [] (zi146 12) rfl ?_
        refine X.iconst 13 (zi146 12) rfl rfl (by decide) ?_
        refine X.goto 17 (zi146 13) rfl rfl ?_
        refine X.retz (zi146 17) rfl t146 (by omega) ?_
        show X (EE s) d 144 11 [(0, zr 4 40), (1, zi a1), (2, zi a2)] [zi 1] m _
        refine X.ifne 18 14 (zi144 11) rfl rfl rfl (fun h507 => ?_) (fun h507 => (by exfalso; omega))
        refine X.aload_n 19 (zi144 18) rfl rfl rfl ?_
        refine X.getF 22 (zi144 19) rfl rfl (by decide) rfl rfl ?_
        refine X.getR 25 (zi144 22) rfl rfl (by decide) rfl rfl ?_
        refine X.iload_n 26 (zi144 25) rfl rfl rfl ?_
        refine X.iload_n 27 (zi144 26) rfl rfl rfl ?_
        refine X.callv 30 [zi a1, zi a2] [] [(0, zr 0 23), (1, zi a1), (2, zi a2)] (zi144 27) rfl (by decide) rfl rfl (by omega) rfl rfl (by decide) rfl t71 (Nat.le_of_ble_eq_true rfl) (Nat.le_of_ble_eq_true rfl) rfl ?_
        refine c71_2 (B := B) 0 a1 a2 (by omega) (hJ.up (by omega)) (by omega) (by omega) (by omega) (fun v510 hv510 hFv510 => ?_)
        show X (EE s) d 144 30 [(0, zr 4 40), (1, zi a1), (2, zi a2)] [zl v510] m _
        refine X.retl (zi144 30) rfl t144 ?_
        exact hQ v510 (by first | trivial | omega) (Eq.trans (if_neg h501) (Eq.trans (if_neg h503) (Eq.trans (if_pos h506) (Eq.trans (zn_eq hFv510.symm) rfl)))) 
      · refine X.iload_n 6 (zi146 5) rfl rfl rfl ?_
        refine X.calls 9 [zi a2] [] [(0, zi a2)] (zi146 6) (by decide) rfl rfl (by omega) rfl rfl t80 (Nat.le_of_ble_eq_true rfl) (Nat.le_of_ble_eq_true rfl) rfl ?_
        refine X.iload_n 1 (zi80 0) rfl rfl rfl ?_
        refine X.iflt 13 4 (zi80 1) rfl rfl rfl (fun h511 => ?_) (fun h511 => ?_)
        · refine X.cut [] (zi80 13) rfl ?_
          refine X.iconst 14 (zi80 13) rfl rfl (by decide) ?_
          refine X.retz (zi80 14) rfl t80 (by omega) ?_
          show X (EE s) (d - 1) 146 9 [(0, zi a2)] [zi 0] m _
          refine X.ifeq 16 12 (zi146 9) rfl rfl rfl (fun h512 => ?_) (fun h512 => (by exfalso; omega))
          refine X.cut [] (zi146 16) rfl ?_
          refine X.iconst 17 (zi146 16) rfl rfl (by decide) ?_
          refine X.retz (zi146 17) rfl t146 (by omega) ?_
          show X (EE s) d 144 11 [(0, zr 4 40), (1, zi a1), (2, zi a2)] [zi 0] m _
          refine X.ifne 18 14 (zi144 11) rfl rfl rfl (fun h513 => (by exfalso; omega)) (fun h513 => ?_)
          refine X.cut [] (zi144 14) rfl ?_
          refine X.ldc2 17 (zi144 14) rfl rfl (by decide) ?_
          refine X.retl (zi144 17) rfl t144 ?_
          exact hQ (-1) (by first | trivial | omega) (Eq.trans (if_neg h501) (Eq.trans (if_neg h503) (Eq.trans (if_neg h506) (Eq.trans (if_pos h511) rfl)))) 
        · refine X.iload_n 5 (zi80 4) rfl rfl rfl ?_
          refine X.iconst 6 (zi80 5) rfl rfl (by decide) ?_
          refine X.icmpge 13 9 (zi80 6) rfl rfl rfl (fun h514 => ?_) (fun h514 => ?_)
          · refine X.cut [] (zi80 13) rfl ?_
            refine X.iconst 14 (zi80 13) rfl rfl (by decide) ?_
            refine X.retz (zi80 14) rfl t80 (by omega) ?_
            show X (EE s) (d - 1) 146 9 [(0, zi a2)] [zi 0] m _
            refine X.ifeq 16 12 (zi146 9) rfl rfl rfl (fun h515 => ?_) (fun h515 => (by exfalso; omega))
            refine X.cut [] (zi146 16) rfl ?_
            refine X.iconst 17 (zi146 16) rfl rfl (by decide) ?_
            refine X.retz (zi146 17) rfl t146 (by omega) ?_
            show X (EE s) d 144 11 [(0, zr 4 40), (1, zi a1), (2, zi a2)] [zi 0] m _
            refine X.ifne 18 14 (zi144 11) rfl rfl rfl (fun h516 => (by exfalso; omega)) (fun h516 => ?_)
            refine X.cut [] (zi144 14) rfl ?_
            refine X.ldc2 17 (zi144 14) rfl rfl (by decide) ?_
            refine X.retl (zi144 17) rfl t144 ?_
            exact hQ (-1) (by first | trivial | omega) (Eq.trans (if_neg h501) (Eq.trans (if_neg h503) (Eq.trans (if_neg h506) (Eq.trans (if_neg h511) (Eq.trans (if_pos h514) rfl))))) 
          · refine X.iconst 10 (zi80 9) rfl rfl (by decide) ?_
            refine X.goto 14 (zi80 10) rfl rfl ?_
            refine X.cut [] (zi80 14) rfl ?_
            refine X.retz (zi80 14) rfl t80 (by omega) ?_
            show X (EE s) (d - 1) 146 9 [(0, zi a2)] [zi 1] m _
            refine X.ifeq 16 12 (zi146 9) rfl rfl rfl (fun h517 => (by exfalso; omega)) (fun h517 => ?_)
            refine X.cut [] (zi146 12) rfl ?_
            refine X.iconst 13 (zi146 12) rfl rfl (by decide) ?_
            refine X.goto 17 (zi146 13) rfl rfl ?_
            refine X.retz (zi146 17) rfl t146 (by omega) ?_
            show X (EE s) d 144 11 [(0, zr 4 40), (1, zi a1), (2, zi a2)] [zi 1] m _
            refine X.ifne 18 14 (zi144 11) rfl rfl rfl (fun h518 => ?_) (fun h518 => (by exfalso; omega))
            refine X.aload_n 19 (zi144 18) rfl rfl rfl ?_
            refine X.getF 22 (zi144 19) rfl rfl (by decide) rfl rfl ?_
            refine X.getR 25 (zi144 22) rfl rfl (by decide) rfl rfl ?_
            refine X.iload_n 26 (zi144 25) rfl rfl rfl ?_
            refine X.iload_n 27 (zi144 26) rfl rfl rfl ?_
            refine X.callv 30 [zi a1, zi a2] [] [(0, zr 0 23), (1, zi a1), (2, zi a2)] (zi144 27) rfl (by decide) rfl rfl (by omega) rfl rfl (by decide) rfl t71 (Nat.le_of_ble_eq_true rfl) (Nat.le_of_ble_eq_true rfl) rfl ?_
            refine c71_3 (B := B) 0 a1 a2 (by omega) (hJ.up (by omega)) (by omega) (by omega) (by omega) (fun v521 hv521 hFv521 => ?_)
            show X (EE s) d 144 30 [(0, zr 4 40), (1, zi a1), (2, zi a2)] [zl v521] m _
            refine X.retl (zi144 30) rfl t144 ?_
            exact hQ v521 (by first | trivial | omega) (Eq.trans (if_neg h501) (Eq.trans (if_neg h503) (Eq.trans (if_neg h506) (Eq.trans (if_neg h511) (Eq.trans (if_neg h514) (Eq.trans (zn_eq hFv521.symm) rfl)))))) 
-- WorkMeterModel.rawAt
noncomputable def f291_1 (a0 a1 : Int) (m : zM) : Int :=
  zn (if a1 = (-1) then
  (4)
  else
  (a1)) fun v502 =>
  ((5 * a0) + v502)
-- WorkMeterModel.rawAt
theorem c291_1 {s : Nat × (Nat → Int32)} {S : zS} {m0 m : zM} {B : Int} {d : Nat} {Q : Option zV → zM → Prop} (a0 a1 : Int) (hd : 13 ≤ d) (hJ : J S m0 B m) (hB : B + 0 ≤ 1000000000) (ha0 : 0 ≤ a0 ∧ a0 ≤ 6) (ha1 : (-1) ≤ a1 ∧ a1 ≤ 3) (hQ : ∀ (v : Int), (0 ≤ v ∧ v ≤ 34) → f291_1 a0 a1 m = v → Q (some (zi v)) m) : X (EE s) d 291 0 [(0, zi a0), (1, zi a1)] [] m Q := by
  refine X.iconst 1 (zi291 0) rfl rfl (by decide) ?_
  refine X.iload_n 2 (zi291 1) rfl rfl rfl ?_
  refine X.imul 3 (zi291 2) rfl rfl (by omega) ?_
  refine X.iload_n 4 (zi291 3) rfl rfl rfl ?_
  refine X.iconst 5 (zi291 4) rfl rfl (by decide) ?_
  have hK505 : ∀ (v : Int) , (0 ≤ v ∧ v ≤ 4) → (if a1 = (-1) then
      (4)
      else
      (a1)) = v → X (EE s) d 291 13 [] [zi v, zi (5 * a0)] m Q := by
    intro v502 hv502 hT506
    refine X.iadd 14 (zi291 13) rfl rfl (by omega) ?_
    refine X.reti (zi291 14) rfl t291 ?_
    exact hQ ((5 * a0) + v502) (by first | trivial | omega) (Eq.trans (zn_eq hT506.symm) rfl) 
  refine X.icmpne 12 8 (zi291 5) rfl rfl rfl (fun h501 => ?_) (fun h501 => ?_)
  · refine X.cut [(1, zi a1)] (zi291 12) rfl ?_
    refine X.iload_n 13 (zi291 12) rfl rfl rfl ?_
    refine X.cut [] (zi291 13) rfl ?_
    exact hK505 a1 (by first | trivial | omega) (Eq.trans (if_neg h501) rfl)
  · refine X.iconst 9 (zi291 8) rfl rfl (by decide) ?_
    refine X.goto 13 (zi291 9) rfl rfl ?_
    refine X.cut [] (zi291 13) rfl ?_
    exact hK505 4 (by first | trivial | omega) (Eq.trans (if_pos h501) rfl)
-- WorkMeterModel.raw
noncomputable def f295_1 (a1 a2 : Int) (m : zM) : Int :=
  if a1 < 0 then
  ((-1))
  else
  (if a1 ≤ 6 then
  (if a2 = (-1) then
  (zn (f291_1 a1 a2 m) fun v514 =>
  (m 4 45 (60 + v514)))
  else
  (if a2 < 0 then
  ((-1))
  else
  (if a2 ≤ 3 then
  (zn (f291_1 a1 a2 m) fun v527 =>
  (m 4 45 (60 + v527)))
  else
  ((-1)))))
  else
  ((-1)))
-- WorkMeterModel.raw
theorem c295_1 {s : Nat × (Nat → Int32)} {S : zS} {m0 m : zM} {B : Int} {d : Nat} {Q : Option zV → zM → Prop} (a1 a2 : Int) (hd : 14 ≤ d) (hJ : J S m0 B m) (hB : B + 0 ≤ 1000000000) (ha1 : (-2147483648) ≤ a1 ∧ a1 ≤ 2147483647) (ha2 : (-2147483648) ≤ a2 ∧ a2 ≤ 2147483647) (hQ : ∀ (v : Int), (True) → f295_1 a1 a2 m = v → Q (some (zl v)) m) : X (EE s) d 295 0 [(0, zr 4 44), (1, zi a1), (2, zi a2)] [] m Q := by
  refine X.iload_n 1 (zi295 0) rfl rfl rfl ?_
  refine X.iload_n 2 (zi295 1) rfl rfl rfl ?_
  refine X.calls 5 [zi a1, zi a2] [] [(0, zi a1), (1, zi a2)] (zi295 2) (by decide) rfl rfl (by omega) rfl rfl t290 (Nat.le_of_ble_eq_true rfl) (Nat.le_of_ble_eq_true rfl) rfl ?_
  refine X.iload_n 1 (zi290 0) rfl rfl rfl ?_
  refine X.i2l 2 (zi290 1) rfl rfl ?_
  refine X.lconst (y := 0) 3 (zi290 2) rfl rfl rfl ?_
  refine X.ldc2 6 (zi290 3) rfl rfl (by decide) ?_
  refine X.calls 9 [zl a1, zl 0, zl 6] [] [(0, zl a1), (2, zl 0), (4, zl 6)] (zi290 6) (by decide) rfl rfl (by omega) rfl rfl t204 (Nat.le_of_ble_eq_true rfl) (Nat.le_of_ble_eq_true rfl) rfl ?_
  refine X.lload_n 1 (zi204 0) rfl rfl rfl ?_
  refine X.lload_n 2 (zi204 1) rfl rfl rfl ?_
  refine X.lcmp 3 (zi204 2) rfl rfl (fun z501 hz501 => ?_)
  refine X.iflt 17 6 (zi204 3) rfl rfl rfl (fun h502 => ?_) (fun h502 => ?_)
  · have h502c : a1 < 0 := by omega
    clear h502 hz501
    refine X.cut [] (zi204 17) rfl ?_
    refine X.iconst 18 (zi204 17) rfl rfl (by decide) ?_
    refine X.retz (zi204 18) rfl t204 (by omega) ?_
    show X (EE s) (d - 1) 290 9 [(0, zi a1), (1, zi a2)] [zi 0] m _
    refine X.ifeq 28 12 (zi290 9) rfl rfl rfl (fun h503 => ?_) (fun h503 => (by exfalso; omega))
    refine X.cut [] (zi290 28) rfl ?_
    refine X.iconst 29 (zi290 28) rfl rfl (by decide) ?_
    refine X.retz (zi290 29) rfl t290 (by omega) ?_
    show X (EE s) d 295 5 [(0, zr 4 44), (1, zi a1), (2, zi a2)] [zi 0] m _
    refine X.ifeq 24 8 (zi295 5) rfl rfl rfl (fun h504 => ?_) (fun h504 => (by exfalso; omega))
    refine X.cut [] (zi295 24) rfl ?_
    refine X.ldc2 27 (zi295 24) rfl rfl (by decide) ?_
    refine X.retl (zi295 27) rfl t295 ?_
    exact hQ (-1) (by first | trivial | omega) (Eq.trans (if_pos h502c) rfl) 
  · have h502c : ¬ a1 < 0 := by omega
    clear h502 hz501
    refine X.lload_n 7 (zi204 6) rfl rfl rfl ?_
    refine X.lload 9 (zi204 7) rfl rfl rfl ?_
    refine X.lcmp 10 (zi204 9) rfl rfl (fun z505 hz505 => ?_)
    refine X.ifgt 17 13 (zi204 10) rfl rfl rfl (fun h506 => ?_) (fun h506 => ?_)
    · have h506c : ¬ a1 ≤ 6 := by omega
      clear h506 hz505
      refine X.cut [] (zi204 17) rfl ?_
      refine X.iconst 18 (zi204 17) rfl rfl (by decide) ?_
      refine X.retz (zi204 18) rfl t204 (by omega) ?_
      show X (EE s) (d - 1) 290 9 [(0, zi a1), (1, zi a2)] [zi 0] m _
      refine X.ifeq 28 12 (zi290 9) rfl rfl rfl (fun h507 => ?_) (fun h507 => (by exfalso; omega))
      refine X.cut [] (zi290 28) rfl ?_
      refine X.iconst 29 (zi290 28) rfl rfl (by decide) ?_
      refine X.retz (zi290 29) rfl t290 (by omega) ?_
      show X (EE s) d 295 5 [(0, zr 4 44), (1, zi a1), (2, zi a2)] [zi 0] m _
      refine X.ifeq 24 8 (zi295 5) rfl rfl rfl (fun h508 => ?_) (fun h508 => (by exfalso; omega))
      refine X.cut [] (zi295 24) rfl ?_
      refine X.ldc2 27 (zi295 24) rfl rfl (by decide) ?_
      refine X.retl (zi295 27) rfl t295 ?_
      exact hQ (-1) (by first | trivial | omega) (Eq.trans (if_neg h502c) (Eq.trans (if_neg h506c) rfl)) 
    · have h506c : a1 ≤ 6 := by omega
      clear h506 hz505
      refine X.iconst 14 (zi204 13) rfl rfl (by decide) ?_
      refine X.goto 18 (zi204 14) rfl rfl ?_
      refine X.cut [] (zi204 18) rfl ?_
      refine X.retz (zi204 18) rfl t204 (by omega) ?_
      show X (EE s) (d - 1) 290 9 [(0, zi a1), (1, zi a2)] [zi 1] m _
      refine X.ifeq 28 12 (zi290 9) rfl rfl rfl (fun h509 => (by exfalso; omega)) (fun h509 => ?_)
      refine X.iload_n 13 (zi290 12) rfl rfl rfl ?_
      refine X.iconst 14 (zi290 13) rfl rfl (by decide) ?_
      refine X.icmpeq 24 17 (zi290 14) rfl rfl rfl (fun h510 => ?_) (fun h510 => ?_)
      · refine X.cut [] (zi290 24) rfl ?_
        refine X.iconst 25 (zi290 24) rfl rfl (by decide) ?_
        refine X.goto 29 (zi290 25) rfl rfl ?_
        refine X.retz (zi290 29) rfl t290 (by omega) ?_
        show X (EE s) d 295 5 [(0, zr 4 44), (1, zi a1), (2, zi a2)] [zi 1] m _
        refine X.ifeq 24 8 (zi295 5) rfl rfl rfl (fun h511 => (by exfalso; omega)) (fun h511 => ?_)
        refine X.aload_n 9 (zi295 8) rfl rfl rfl ?_
        refine X.getF 12 (zi295 9) rfl rfl (by decide) rfl rfl ?_
        refine X.bipush 14 (zi295 12) rfl rfl (by decide) ?_
        refine X.iload_n 15 (zi295 14) rfl rfl rfl ?_
        refine X.iload_n 16 (zi295 15) rfl rfl rfl ?_
        refine X.calls 19 [zi a1, zi a2] [zi 60, zr 4 45] [(0, zi a1), (1, zi a2)] (zi295 16) (by decide) rfl rfl (by omega) rfl rfl t291 (Nat.le_of_ble_eq_true rfl) (Nat.le_of_ble_eq_true rfl) rfl ?_
        refine c291_1 (B := B)  a1 a2 (by omega) (hJ.up (by omega)) (by omega) (by omega) (by omega) (fun v514 hv514 hFv514 => ?_)
        show X (EE s) d 295 19 [(0, zr 4 44), (1, zi a1), (2, zi a2)] [zi v514, zi 60, zr 4 45] m _
        refine X.iadd 20 (zi295 19) rfl rfl (by omega) ?_
        refine X.lald 21 (zi295 20) rfl rfl (by decide) rfl (by omega) ?_
        refine X.goto 27 (zi295 21) rfl rfl ?_
        refine X.cut [] (zi295 27) rfl ?_
        refine X.retl (zi295 27) rfl t295 ?_
        exact hQ (m 4 45 (60 + v514)) (by first | trivial | omega) (Eq.trans (if_neg h502c) (Eq.trans (if_pos h506c) (Eq.trans (if_pos h510) (Eq.trans (zn_eq hFv514.symm) rfl)))) 
      · refine X.iload_n 18 (zi290 17) rfl rfl rfl ?_
        refine X.calls 21 [zi a2] [] [(0, zi a2)] (zi290 18) (by decide) rfl rfl (by omega) rfl rfl t242 (Nat.le_of_ble_eq_true rfl) (Nat.le_of_ble_eq_true rfl) rfl ?_
        refine X.iload_n 1 (zi242 0) rfl rfl rfl ?_
        refine X.i2l 2 (zi242 1) rfl rfl ?_
        refine X.lconst (y := 0) 3 (zi242 2) rfl rfl rfl ?_
        refine X.ldc2 6 (zi242 3) rfl rfl (by decide) ?_
        refine X.calls 9 [zl a2, zl 0, zl 3] [] [(0, zl a2), (2, zl 0), (4, zl 3)] (zi242 6) (by decide) rfl rfl (by omega) rfl rfl t204 (Nat.le_of_ble_eq_true rfl) (Nat.le_of_ble_eq_true rfl) rfl ?_
        refine X.lload_n 1 (zi204 0) rfl rfl rfl ?_
        refine X.lload_n 2 (zi204 1) rfl rfl rfl ?_
        refine X.lcmp 3 (zi204 2) rfl rfl (fun z515 hz515 => ?_)
        refine X.iflt 17 6 (zi204 3) rfl rfl rfl (fun h516 => ?_) (fun h516 => ?_)
        · have h516c : a2 < 0 := by omega
          clear h516 hz515
          refine X.cut [] (zi204 17) rfl ?_
          refine X.iconst 18 (zi204 17) rfl rfl (by decide) ?_
          refine X.retz (zi204 18) rfl t204 (by omega) ?_
          show X (EE s) ((d - 1) - 1) 242 9 [(0, zi a2)] [zi 0] m _
          refine X.retz (zi242 9) rfl t242 (by omega) ?_
          show X (EE s) (d - 1) 290 21 [(0, zi a1), (1, zi a2)] [zi 0] m _
          refine X.ifeq 28 24 (zi290 21) rfl rfl rfl (fun h517 => ?_) (fun h517 => (by exfalso; omega))
          refine X.cut [] (zi290 28) rfl ?_
          refine X.iconst 29 (zi290 28) rfl rfl (by decide) ?_
          refine X.retz (zi290 29) rfl t290 (by omega) ?_
          show X (EE s) d 295 5 [(0, zr 4 44), (1, zi a1), (2, zi a2)] [zi 0] m _
          refine X.ifeq 24 8 (zi295 5) rfl rfl rfl (fun h518 => ?_) (fun h518 => (by exfalso; omega))
          refine X.cut [] (zi295 24) rfl ?_
          refine X.ldc2 27 (zi295 24) rfl rfl (by decide) ?_
          refine X.retl (zi295 27) rfl t295 ?_
          exact hQ (-1) (by first | trivial | omega) (Eq.trans (if_neg h502c) (Eq.trans (if_pos h506c) (Eq.trans (if_neg h510) (Eq.trans (if_pos h516c) rfl)))) 
        · have h516c : ¬ a2 < 0 := by omega
          clear h516 hz515
          refine X.lload_n 7 (zi204 6) rfl rfl rfl ?_
          refine X.lload 9 (zi204 7) rfl rfl rfl ?_
          refine X.lcmp 10 (zi204 9) rfl rfl (fun z519 hz519 => ?_)
          refine X.ifgt 17 13 (zi204 10) rfl rfl rfl (fun h520 => ?_) (fun h520 => ?_)
          · have h520c : ¬ a2 ≤ 3 := by omega
            clear h520 hz519
            refine X.cut [] (zi204 17) rfl ?_
            refine X.iconst 18 (zi204 17) rfl rfl (by decide) ?_
            refine X.retz (zi204 18) rfl t204 (by omega) ?_
            show X (EE s) ((d - 1) - 1) 242 9 [(0, zi a2)] [zi 0] m _
            refine X.retz (zi242 9) rfl t242 (by omega) ?_
            show X (EE s) (d - 1) 290 21 [(0, zi a1), (1, zi a2)] [zi 0] m _
            refine X.ifeq 28 24 (zi290 21) rfl rfl rfl (fun h521 => ?_) (fun h521 => (by exfalso; omega))
            refine X.cut [] (zi290 28) rfl ?_
            refine X.iconst 29 (zi290 28) rfl rfl (by decide) ?_
            refine X.retz (zi290 29) rfl t290 (by omega) ?_
            show X (EE s) d 295 5 [(0, zr 4 44), (1, zi a1), (2, zi a2)] [zi 0] m _
            refine X.ifeq 24 8 (zi295 5) rfl rfl rfl (fun h522 => ?_) (fun h522 => (by exfalso; omega))
            refine X.cut [] (zi295 24) rfl ?_
            refine X.ldc2 27 (zi295 24) rfl rfl (by decide) ?_
            refine X.retl (zi295 27) rfl t295 ?_
            exact hQ (-1) (by first | trivial | omega) (Eq.trans (if_neg h502c) (Eq.trans (if_pos h506c) (Eq.trans (if_neg h510) (Eq.trans (if_neg h516c) (Eq.trans (if_neg h520c) rfl))))) 
          · have h520c : a2 ≤ 3 := by omega
            clear h520 hz519
            refine X.iconst 14 (zi204 13) rfl rfl (by decide) ?_
            refine X.goto 18 (zi204 14) rfl rfl ?_
            refine X.cut [] (zi204 18) rfl ?_
            refine X.retz (zi204 18) rfl t204 (by omega) ?_
            show X (EE s) ((d - 1) - 1) 242 9 [(0, zi a2)] [zi 1] m _
            refine X.retz (zi242 9) rfl t242 (by omega) ?_
            show X (EE s) (d - 1) 290 21 [(0, zi a1), (1, zi a2)] [zi 1] m _
            refine X.ifeq 28 24 (zi290 21) rfl rfl rfl (fun h523 => (by exfalso; omega)) (fun h523 => ?_)
            refine X.cut [] (zi290 24) rfl ?_
            refine X.iconst 25 (zi290 24) rfl rfl (by decide) ?_
            refine X.goto 29 (zi290 25) rfl rfl ?_
            refine X.retz (zi290 29) rfl t290 (by omega) ?_
            show X (EE s) d 295 5 [(0, zr 4 44), (1, zi a1), (2, zi a2)] [zi 1] m _
            refine X.ifeq 24 8 (zi295 5) rfl rfl rfl (fun h524 => (by exfalso; omega)) (fun h524 => ?_)
            refine X.aload_n 9 (zi295 8) rfl rfl rfl ?_
            refine X.getF 12 (zi295 9) rfl rfl (by decide) rfl rfl ?_
            refine X.bipush 14 (zi295 12) rfl rfl (by decide) ?_
            refine X.iload_n 15 (zi295 14) rfl rfl rfl ?_
            refine X.iload_n 16 (zi295 15) rfl rfl rfl ?_
            refine X.calls 19 [zi a1, zi a2] [zi 60, zr 4 45] [(0, zi a1), (1, zi a2)] (zi295 16) (by decide) rfl rfl (by omega) rfl rfl t291 (Nat.le_of_ble_eq_true rfl) (Nat.le_of_ble_eq_true rfl) rfl ?_
            refine c291_1 (B := B)  a1 a2 (by omega) (hJ.up (by omega)) (by omega) (by omega) (by omega) (fun v527 hv527 hFv527 => ?_)
            show X (EE s) d 295 19 [(0, zr 4 44), (1, zi a1), (2, zi a2)] [zi v527, zi 60, zr 4 45] m _
            refine X.iadd 20 (zi295 19) rfl rfl (by omega) ?_
            refine X.lald 21 (zi295 20) rfl rfl (by decide) rfl (by omega) ?_
            refine X.goto 27 (zi295 21) rfl rfl ?_
            refine X.cut [] (zi295 27) rfl ?_
            refine X.retl (zi295 27) rfl t295 ?_
            exact hQ (m 4 45 (60 + v527)) (by first | trivial | omega) (Eq.trans (if_neg h502c) (Eq.trans (if_pos h506c) (Eq.trans (if_neg h510) (Eq.trans (if_neg h516c) (Eq.trans (if_pos h520c) (Eq.trans (zn_eq hFv527.symm) rfl)))))) 
-- WorkMeter.reading
noncomputable def f147_1 (a1 a2 : Int) (m : zM) : Int :=
  if a1 < 0 then
  ((-1))
  else
  (if 7 ≤ a1 then
  ((-1))
  else
  (if a2 = (-1) then
  (zn (f71_1 0 a1 a2 m) fun v510 =>
  zn (w64 ((v510).tdiv (max 1 (m 0 10 1)))) fun z512 =>
  z512)
  else
  (if a2 < 0 then
  ((-1))
  else
  (if 4 ≤ a2 then
  ((-1))
  else
  (zn (f71_1 0 a1 a2 m) fun v523 =>
  zn (w64 ((v523).tdiv (max 1 (m 0 10 1)))) fun z525 =>
  z525)))))
-- WorkMeter.reading
theorem c147_1 {s : Nat × (Nat → Int32)} {S : zS} {m0 m : zM} {B : Int} {d : Nat} {Q : Option zV → zM → Prop} (a1 a2 : Int) (hd : 15 ≤ d) (hJ : J S m0 B m) (hB : B + 0 ≤ 1000000000) (ha1 : (-2147483648) ≤ a1 ∧ a1 ≤ 2147483647) (ha2 : (-2147483648) ≤ a2 ∧ a2 ≤ 2147483647) (hQ : ∀ (v : Int), (True) → f147_1 a1 a2 m = v → Q (some (zl v)) m) : X (EE s) d 147 0 [(0, zr 4 40), (1, zi a1), (2, zi a2)] [] m Q := by
  refine X.iload_n 1 (zi147 0) rfl rfl rfl ?_
  refine X.calls 4 [zi a1] [] [(0, zi a1)] (zi147 1) (by decide) rfl rfl (by omega) rfl rfl t145 (Nat.le_of_ble_eq_true rfl) (Nat.le_of_ble_eq_true rfl) rfl ?_
  refine X.iload_n 1 (zi145 0) rfl rfl rfl ?_
  refine X.iflt 14 4 (zi145 1) rfl rfl rfl (fun h501 => ?_) (fun h501 => ?_)
  · refine X.cut [] (zi145 14) rfl ?_
    refine X.iconst 15 (zi145 14) rfl rfl (by decide) ?_
    refine X.retz (zi145 15) rfl t145 (by omega) ?_
    show X (EE s) d 147 4 [(0, zr 4 40), (1, zi a1), (2, zi a2)] [zi 0] m _
    refine X.ifeq 14 7 (zi147 4) rfl rfl rfl (fun h502 => ?_) (fun h502 => (by exfalso; omega))
    refine X.cut [] (zi147 14) rfl ?_
    refine X.ldc2 17 (zi147 14) rfl rfl (by decide) ?_
    refine X.retl (zi147 17) rfl t147 ?_
    exact hQ (-1) (by first | trivial | omega) (Eq.trans (if_pos h501) rfl) 
  · refine X.iload_n 5 (zi145 4) rfl rfl rfl ?_
    refine X.bipush 7 (zi145 5) rfl rfl (by decide) ?_
    refine X.icmpge 14 10 (zi145 7) rfl rfl rfl (fun h503 => ?_) (fun h503 => ?_)
    · refine X.cut [] (zi145 14) rfl ?_
      refine X.iconst 15 (zi145 14) rfl rfl (by decide) ?_
      refine X.retz (zi145 15) rfl t145 (by omega) ?_
      show X (EE s) d 147 4 [(0, zr 4 40), (1, zi a1), (2, zi a2)] [zi 0] m _
      refine X.ifeq 14 7 (zi147 4) rfl rfl rfl (fun h504 => ?_) (fun h504 => (by exfalso; omega))
      refine X.cut [] (zi147 14) rfl ?_
      refine X.ldc2 17 (zi147 14) rfl rfl (by decide) ?_
      refine X.retl (zi147 17) rfl t147 ?_
      exact hQ (-1) (by first | trivial | omega) (Eq.trans (if_neg h501) (Eq.trans (if_pos h503) rfl)) 
    · refine X.iconst 11 (zi145 10) rfl rfl (by decide) ?_
      refine X.goto 15 (zi145 11) rfl rfl ?_
      refine X.cut [] (zi145 15) rfl ?_
      refine X.retz (zi145 15) rfl t145 (by omega) ?_
      show X (EE s) d 147 4 [(0, zr 4 40), (1, zi a1), (2, zi a2)] [zi 1] m _
      refine X.ifeq 14 7 (zi147 4) rfl rfl rfl (fun h505 => (by exfalso; omega)) (fun h505 => ?_)
      refine X.iload_n 8 (zi147 7) rfl rfl rfl ?_
      refine X.calls 11 [zi a2] [] [(0, zi a2)] (zi147 8) (by decide) rfl rfl (by omega) rfl rfl t146 (Nat.le_of_ble_eq_true rfl) (Nat.le_of_ble_eq_true rfl) rfl ?_
      refine X.iload_n 1 (zi146 0) rfl rfl rfl ?_
      refine X.iconst 2 (zi146 1) rfl rfl (by decide) ?_
      refine X.icmpeq 12 5 (zi146 2) rfl rfl rfl (fun h506 => ?_) (fun h506 => ?_)
      · refine X.cut [] (zi146 12) rfl ?_
        refine X.iconst 13 (zi146 12) rfl rfl (by decide) ?_
        refine X.goto 17 (zi146 13) rfl rfl ?_
        refine X.retz (zi146 17) rfl t146 (by omega) ?_
        show X (EE s) d 147 11 [(0, zr 4 40), (1, zi a1), (2, zi a2)] [zi 1] m _
        refine X.ifne 18 14 (zi147 11) rfl rfl rfl (fun h507 => ?_) (fun h507 => (by exfalso; omega))
        refine X.aload_n 19 (zi147 18) rfl rfl rfl ?_
        refine X.getF 22 (zi147 19) rfl rfl (by decide) rfl rfl ?_
        refine X.getR 25 (zi147 22) rfl rfl (by decide) rfl rfl ?_
        refine X.iload_n 26 (zi147 25) rfl rfl rfl ?_
        refine X.iload_n 27 (zi147 26) rfl rfl rfl ?_
        refine X.callv 30 [zi a1, zi a2] [] [(0, zr 0 23), (1, zi a1), (2, zi a2)] (zi147 27) rfl (by decide) rfl rfl (by omega) rfl rfl (by decide) rfl t71 (Nat.le_of_ble_eq_true rfl) (Nat.le_of_ble_eq_true rfl) rfl ?_
        refine c71_2 (B := B) 0 a1 a2 (by omega) (hJ.up (by omega)) (by omega) (by omega) (by omega) (fun v510 hv510 hFv510 => ?_)
        show X (EE s) d 147 30 [(0, zr 4 40), (1, zi a1), (2, zi a2)] [zl v510] m _
        refine X.aload_n 31 (zi147 30) rfl rfl rfl ?_
        refine X.getF 34 (zi147 31) rfl rfl (by decide) rfl rfl ?_
        refine X.getR 37 (zi147 34) rfl rfl (by decide) rfl rfl ?_
        refine X.callv 40 [] [zl v510] [(0, zr 0 9)] (zi147 37) rfl (by decide) rfl rfl (by omega) rfl rfl (by decide) rfl t48 (Nat.le_of_ble_eq_true rfl) (Nat.le_of_ble_eq_true rfl) rfl ?_
        refine X.iconst 1 (zi48 0) rfl rfl (by decide) ?_
        refine X.aload_n 2 (zi48 1) rfl rfl rfl ?_
        refine X.getR 5 (zi48 2) rfl rfl (by decide) rfl rfl ?_
        refine X.iconst 6 (zi48 5) rfl rfl (by decide) ?_
        refine X.iald 7 (zi48 6) rfl rfl (by decide) rfl (by omega) ?_
        have h511 := r10_0 hJ 0 (i := 1) (by omega)
        refine X.maxI 10 (zi48 7) rfl rfl (by omega) (Nat.le_of_ble_eq_true rfl) ?_
        refine X.reti (zi48 10) rfl t48 ?_
        show X (EE s) d 147 40 [(0, zr 4 40), (1, zi a1), (2, zi a2)] [zi (max 1 (m 0 10 1)), zl v510] m _
        refine X.i2l 41 (zi147 40) rfl rfl ?_
        refine X.ldivW 42 (zi147 41) rfl rfl (by omega) (fun z512 ez512 hz512 => ?_)
        refine X.retl (zi147 42) rfl t147 ?_
        exact hQ z512 (by first | trivial | omega) (Eq.trans (if_neg h501) (Eq.trans (if_neg h503) (Eq.trans (if_pos h506) (Eq.trans (zn_eq hFv510.symm) (Eq.trans (zn_eq ez512) rfl))))) 
      · refine X.iload_n 6 (zi146 5) rfl rfl rfl ?_
        refine X.calls 9 [zi a2] [] [(0, zi a2)] (zi146 6) (by decide) rfl rfl (by omega) rfl rfl t80 (Nat.le_of_ble_eq_true rfl) (Nat.le_of_ble_eq_true rfl) rfl ?_
        refine X.iload_n 1 (zi80 0) rfl rfl rfl ?_
        refine X.iflt 13 4 (zi80 1) rfl rfl rfl (fun h513 => ?_) (fun h513 => ?_)
        · refine X.cut [] (zi80 13) rfl ?_
          refine X.iconst 14 (zi80 13) rfl rfl (by decide) ?_
          refine X.retz (zi80 14) rfl t80 (by omega) ?_
          show X (EE s) (d - 1) 146 9 [(0, zi a2)] [zi 0] m _
          refine X.ifeq 16 12 (zi146 9) rfl rfl rfl (fun h514 => ?_) (fun h514 => (by exfalso; omega))
          refine X.cut [] (zi146 16) rfl ?_
          refine X.iconst 17 (zi146 16) rfl rfl (by decide) ?_
          refine X.retz (zi146 17) rfl t146 (by omega) ?_
          show X (EE s) d 147 11 [(0, zr 4 40), (1, zi a1), (2, zi a2)] [zi 0] m _
          refine X.ifne 18 14 (zi147 11) rfl rfl rfl (fun h515 => (by exfalso; omega)) (fun h515 => ?_)
          refine X.cut [] (zi147 14) rfl ?_
          refine X.ldc2 17 (zi147 14) rfl rfl (by decide) ?_
          refine X.retl (zi147 17) rfl t147 ?_
          exact hQ (-1) (by first | trivial | omega) (Eq.trans (if_neg h501) (Eq.trans (if_neg h503) (Eq.trans (if_neg h506) (Eq.trans (if_pos h513) rfl)))) 
        · refine X.iload_n 5 (zi80 4) rfl rfl rfl ?_
          refine X.iconst 6 (zi80 5) rfl rfl (by decide) ?_
          refine X.icmpge 13 9 (zi80 6) rfl rfl rfl (fun h516 => ?_) (fun h516 => ?_)
          · refine X.cut [] (zi80 13) rfl ?_
            refine X.iconst 14 (zi80 13) rfl rfl (by decide) ?_
            refine X.retz (zi80 14) rfl t80 (by omega) ?_
            show X (EE s) (d - 1) 146 9 [(0, zi a2)] [zi 0] m _
            refine X.ifeq 16 12 (zi146 9) rfl rfl rfl (fun h517 => ?_) (fun h517 => (by exfalso; omega))
            refine X.cut [] (zi146 16) rfl ?_
            refine X.iconst 17 (zi146 16) rfl rfl (by decide) ?_
            refine X.retz (zi146 17) rfl t146 (by omega) ?_
            show X (EE s) d 147 11 [(0, zr 4 40), (1, zi a1), (2, zi a2)] [zi 0] m _
            refine X.ifne 18 14 (zi147 11) rfl rfl rfl (fun h518 => (by exfalso; omega)) (fun h518 => ?_)
            refine X.cut [] (zi147 14) rfl ?_
            refine X.ldc2 17 (zi147 14) rfl rfl (by decide) ?_
            refine X.retl (zi147 17) rfl t147 ?_
            exact hQ (-1) (by first | trivial | omega) (Eq.trans (if_neg h501) (Eq.trans (if_neg h503) (Eq.trans (if_neg h506) (Eq.trans (if_neg h513) (Eq.trans (if_pos h516) rfl))))) 
          · refine X.iconst 10 (zi80 9) rfl rfl (by decide) ?_
            refine X.goto 14 (zi80 10) rfl rfl ?_
            refine X.cut [] (zi80 14) rfl ?_
            refine X.retz (zi80 14) rfl t80 (by omega) ?_
            show X (EE s) (d - 1) 146 9 [(0, zi a2)] [zi 1] m _
            refine X.ifeq 16 12 (zi146 9) rfl rfl rfl (fun h519 => (by exfalso; omega)) (fun h519 => ?_)
            refine X.cut [] (zi146 12) rfl ?_
            refine X.iconst 13 (zi146 12) rfl rfl (by decide) ?_
            refine X.goto 17 (zi146 13) rfl rfl ?_
            refine X.retz (zi146 17) rfl t146 (by omega) ?_
            show X (EE s) d 147 11 [(0, zr 4 40), (1, zi a1), (2, zi a2)] [zi 1] m _
            refine X.ifne 18 14 (zi147 11) rfl rfl rfl (fun h520 => ?_) (fun h520 => (by exfalso; omega))
            refine X.aload_n 19 (zi147 18) rfl rfl rfl ?_
            refine X.getF 22 (zi147 19) rfl rfl (by decide) rfl rfl ?_
            refine X.getR 25 (zi147 22) rfl rfl (by decide) rfl rfl ?_
            refine X.iload_n 26 (zi147 25) rfl rfl rfl ?_
            refine X.iload_n 27 (zi147 26) rfl rfl rfl ?_
            refine X.callv 30 [zi a1, zi a2] [] [(0, zr 0 23), (1, zi a1), (2, zi a2)] (zi147 27) rfl (by decide) rfl rfl (by omega) rfl rfl (by decide) rfl t71 (Nat.le_of_ble_eq_true rfl) (Nat.le_of_ble_eq_true rfl) rfl ?_
            refine c71_3 (B := B) 0 a1 a2 (by omega) (hJ.up (by omega)) (by omega) (by omega) (by omega) (fun v523 hv523 hFv523 => ?_)
            show X (EE s) d 147 30 [(0, zr 4 40), (1, zi a1), (2, zi a2)] [zl v523] m _
            refine X.aload_n 31 (zi147 30) rfl rfl rfl ?_
            refine X.getF 34 (zi147 31) rfl rfl (by decide) rfl rfl ?_
            refine X.getR 37 (zi147 34) rfl rfl (by decide) rfl rfl ?_
            refine X.callv 40 [] [zl v523] [(0, zr 0 9)] (zi147 37) rfl (by decide) rfl rfl (by omega) rfl rfl (by decide) rfl t48 (Nat.le_of_ble_eq_true rfl) (Nat.le_of_ble_eq_true rfl) rfl ?_
            refine X.iconst 1 (zi48 0) rfl rfl (by decide) ?_
            refine X.aload_n 2 (zi48 1) rfl rfl rfl ?_
            refine X.getR 5 (zi48 2) rfl rfl (by decide) rfl rfl ?_
            refine X.iconst 6 (zi48 5) rfl rfl (by decide) ?_
            refine X.iald 7 (zi48 6) rfl rfl (by decide) rfl (by omega) ?_
            have h524 := r10_0 hJ 0 (i := 1) (by omega)
            refine X.maxI 10 (zi48 7) rfl rfl (by omega) (Nat.le_of_ble_eq_true rfl) ?_
            refine X.reti (zi48 10) rfl t48 ?_
            show X (EE s) d 147 40 [(0, zr 4 40), (1, zi a1), (2, zi a2)] [zi (max 1 (m 0 10 1)), zl v523] m _
            refine X.i2l 41 (zi147 40) rfl rfl ?_
            refine X.ldivW 42 (zi147 41) rfl rfl (by omega) (fun z525 ez525 hz525 => ?_)
            refine X.retl (zi147 42) rfl t147 ?_
            exact hQ z525 (by first | trivial | omega) (Eq.trans (if_neg h501) (Eq.trans (if_neg h503) (Eq.trans (if_neg h506) (Eq.trans (if_neg h513) (Eq.trans (if_neg h516) (Eq.trans (zn_eq hFv523.symm) (Eq.trans (zn_eq ez525) rfl))))))) 
-- WorkMeterModel.reading
noncomputable def f296_1 (a1 a2 : Int) (m : zM) : Int :=
  if a1 < 0 then
  ((-1))
  else
  (if a1 ≤ 6 then
  (if a2 = (-1) then
  (zn (f291_1 a1 a2 m) fun v514 =>
  zn (w64 (((m 4 45 (60 + v514))).tdiv (m 4 45 5))) fun z516 =>
  z516)
  else
  (if a2 < 0 then
  ((-1))
  else
  (if a2 ≤ 3 then
  (zn (f291_1 a1 a2 m) fun v529 =>
  zn (w64 (((m 4 45 (60 + v529))).tdiv (m 4 45 5))) fun z531 =>
  z531)
  else
  ((-1)))))
  else
  ((-1)))
-- WorkMeterModel.reading
theorem c296_1 {s : Nat × (Nat → Int32)} {S : zS} {m0 m : zM} {B : Int} {d : Nat} {Q : Option zV → zM → Prop} (a1 a2 : Int) (hd : 14 ≤ d) (hJ : J S m0 B m) (hB : B + 0 ≤ 1000000000) (ha1 : (-2147483648) ≤ a1 ∧ a1 ≤ 2147483647) (ha2 : (-2147483648) ≤ a2 ∧ a2 ≤ 2147483647) (hQ : ∀ (v : Int), (True) → f296_1 a1 a2 m = v → Q (some (zl v)) m) : X (EE s) d 296 0 [(0, zr 4 44), (1, zi a1), (2, zi a2)] [] m Q := by
  refine X.iload_n 1 (zi296 0) rfl rfl rfl ?_
  refine X.iload_n 2 (zi296 1) rfl rfl rfl ?_
  refine X.calls 5 [zi a1, zi a2] [] [(0, zi a1), (1, zi a2)] (zi296 2) (by decide) rfl rfl (by omega) rfl rfl t290 (Nat.le_of_ble_eq_true rfl) (Nat.le_of_ble_eq_true rfl) rfl ?_
  refine X.iload_n 1 (zi290 0) rfl rfl rfl ?_
  refine X.i2l 2 (zi290 1) rfl rfl ?_
  refine X.lconst (y := 0) 3 (zi290 2) rfl rfl rfl ?_
  refine X.ldc2 6 (zi290 3) rfl rfl (by decide) ?_
  refine X.calls 9 [zl a1, zl 0, zl 6] [] [(0, zl a1), (2, zl 0), (4, zl 6)] (zi290 6) (by decide) rfl rfl (by omega) rfl rfl t204 (Nat.le_of_ble_eq_true rfl) (Nat.le_of_ble_eq_true rfl) rfl ?_
  refine X.lload_n 1 (zi204 0) rfl rfl rfl ?_
  refine X.lload_n 2 (zi204 1) rfl rfl rfl ?_
  refine X.lcmp 3 (zi204 2) rfl rfl (fun z501 hz501 => ?_)
  refine X.iflt 17 6 (zi204 3) rfl rfl rfl (fun h502 => ?_) (fun h502 => ?_)
  · have h502c : a1 < 0 := by omega
    clear h502 hz501
    refine X.cut [] (zi204 17) rfl ?_
    refine X.iconst 18 (zi204 17) rfl rfl (by decide) ?_
    refine X.retz (zi204 18) rfl t204 (by omega) ?_
    show X (EE s) (d - 1) 290 9 [(0, zi a1), (1, zi a2)] [zi 0] m _
    refine X.ifeq 28 12 (zi290 9) rfl rfl rfl (fun h503 => ?_) (fun h503 => (by exfalso; omega))
    refine X.cut [] (zi290 28) rfl ?_
    refine X.iconst 29 (zi290 28) rfl rfl (by decide) ?_
    refine X.retz (zi290 29) rfl t290 (by omega) ?_
    show X (EE s) d 296 5 [(0, zr 4 44), (1, zi a1), (2, zi a2)] [zi 0] m _
    refine X.ifeq 31 8 (zi296 5) rfl rfl rfl (fun h504 => ?_) (fun h504 => (by exfalso; omega))
    refine X.cut [] (zi296 31) rfl ?_
    refine X.ldc2 34 (zi296 31) rfl rfl (by decide) ?_
    refine X.retl (zi296 34) rfl t296 ?_
    exact hQ (-1) (by first | trivial | omega) (Eq.trans (if_pos h502c) rfl) 
  · have h502c : ¬ a1 < 0 := by omega
    clear h502 hz501
    refine X.lload_n 7 (zi204 6) rfl rfl rfl ?_
    refine X.lload 9 (zi204 7) rfl rfl rfl ?_
    refine X.lcmp 10 (zi204 9) rfl rfl (fun z505 hz505 => ?_)
    refine X.ifgt 17 13 (zi204 10) rfl rfl rfl (fun h506 => ?_) (fun h506 => ?_)
    · have h506c : ¬ a1 ≤ 6 := by omega
      clear h506 hz505
      refine X.cut [] (zi204 17) rfl ?_
      refine X.iconst 18 (zi204 17) rfl rfl (by decide) ?_
      refine X.retz (zi204 18) rfl t204 (by omega) ?_
      show X (EE s) (d - 1) 290 9 [(0, zi a1), (1, zi a2)] [zi 0] m _
      refine X.ifeq 28 12 (zi290 9) rfl rfl rfl (fun h507 => ?_) (fun h507 => (by exfalso; omega))
      refine X.cut [] (zi290 28) rfl ?_
      refine X.iconst 29 (zi290 28) rfl rfl (by decide) ?_
      refine X.retz (zi290 29) rfl t290 (by omega) ?_
      show X (EE s) d 296 5 [(0, zr 4 44), (1, zi a1), (2, zi a2)] [zi 0] m _
      refine X.ifeq 31 8 (zi296 5) rfl rfl rfl (fun h508 => ?_) (fun h508 => (by exfalso; omega))
      refine X.cut [] (zi296 31) rfl ?_
      refine X.ldc2 34 (zi296 31) rfl rfl (by decide) ?_
      refine X.retl (zi296 34) rfl t296 ?_
      exact hQ (-1) (by first | trivial | omega) (Eq.trans (if_neg h502c) (Eq.trans (if_neg h506c) rfl)) 
    · have h506c : a1 ≤ 6 := by omega
      clear h506 hz505
      refine X.iconst 14 (zi204 13) rfl rfl (by decide) ?_
      refine X.goto 18 (zi204 14) rfl rfl ?_
      refine X.cut [] (zi204 18) rfl ?_
      refine X.retz (zi204 18) rfl t204 (by omega) ?_
      show X (EE s) (d - 1) 290 9 [(0, zi a1), (1, zi a2)] [zi 1] m _
      refine X.ifeq 28 12 (zi290 9) rfl rfl rfl (fun h509 => (by exfalso; omega)) (fun h509 => ?_)
      refine X.iload_n 13 (zi290 12) rfl rfl rfl ?_
      refine X.iconst 14 (zi290 13) rfl rfl (by decide) ?_
      refine X.icmpeq 24 17 (zi290 14) rfl rfl rfl (fun h510 => ?_) (fun h510 => ?_)
      · refine X.cut [] (zi290 24) rfl ?_
        refine X.iconst 25 (zi290 24) rfl rfl (by decide) ?_
        refine X.goto 29 (zi290 25) rfl rfl ?_
        refine X.retz (zi290 29) rfl t290 (by omega) ?_
        show X (EE s) d 296 5 [(0, zr 4 44), (1, zi a1), (2, zi a2)] [zi 1] m _
        refine X.ifeq 31 8 (zi296 5) rfl rfl rfl (fun h511 => (by exfalso; omega)) (fun h511 => ?_)
        refine X.aload_n 9 (zi296 8) rfl rfl rfl ?_
        refine X.getF 12 (zi296 9) rfl rfl (by decide) rfl rfl ?_
        refine X.bipush 14 (zi296 12) rfl rfl (by decide) ?_
        refine X.iload_n 15 (zi296 14) rfl rfl rfl ?_
        refine X.iload_n 16 (zi296 15) rfl rfl rfl ?_
        refine X.calls 19 [zi a1, zi a2] [zi 60, zr 4 45] [(0, zi a1), (1, zi a2)] (zi296 16) (by decide) rfl rfl (by omega) rfl rfl t291 (Nat.le_of_ble_eq_true rfl) (Nat.le_of_ble_eq_true rfl) rfl ?_
        refine c291_1 (B := B)  a1 a2 (by omega) (hJ.up (by omega)) (by omega) (by omega) (by omega) (fun v514 hv514 hFv514 => ?_)
        show X (EE s) d 296 19 [(0, zr 4 44), (1, zi a1), (2, zi a2)] [zi v514, zi 60, zr 4 45] m _
        refine X.iadd 20 (zi296 19) rfl rfl (by omega) ?_
        refine X.lald 21 (zi296 20) rfl rfl (by decide) rfl (by omega) ?_
        refine X.aload_n 22 (zi296 21) rfl rfl rfl ?_
        refine X.getF 25 (zi296 22) rfl rfl (by decide) rfl rfl ?_
        refine X.iconst 26 (zi296 25) rfl rfl (by decide) ?_
        refine X.lald 27 (zi296 26) rfl rfl (by decide) rfl (by omega) ?_
        have h515 := r45_5 hJ 4
        refine X.ldivW 28 (zi296 27) rfl rfl (by omega) (fun z516 ez516 hz516 => ?_)
        refine X.goto 34 (zi296 28) rfl rfl ?_
        refine X.cut [] (zi296 34) rfl ?_
        refine X.retl (zi296 34) rfl t296 ?_
        exact hQ z516 (by first | trivial | omega) (Eq.trans (if_neg h502c) (Eq.trans (if_pos h506c) (Eq.trans (if_pos h510) (Eq.trans (zn_eq hFv514.symm) (Eq.trans (zn_eq ez516) rfl))))) 
      · refine X.iload_n 18 (zi290 17) rfl rfl rfl ?_
        refine X.calls 21 [zi a2] [] [(0, zi a2)] (zi290 18) (by decide) rfl rfl (by omega) rfl rfl t242 (Nat.le_of_ble_eq_true rfl) (Nat.le_of_ble_eq_true rfl) rfl ?_
        refine X.iload_n 1 (zi242 0) rfl rfl rfl ?_
        refine X.i2l 2 (zi242 1) rfl rfl ?_
        refine X.lconst (y := 0) 3 (zi242 2) rfl rfl rfl ?_
        refine X.ldc2 6 (zi242 3) rfl rfl (by decide) ?_
        refine X.calls 9 [zl a2, zl 0, zl 3] [] [(0, zl a2), (2, zl 0), (4, zl 3)] (zi242 6) (by decide) rfl rfl (by omega) rfl rfl t204 (Nat.le_of_ble_eq_true rfl) (Nat.le_of_ble_eq_true rfl) rfl ?_
        refine X.lload_n 1 (zi204 0) rfl rfl rfl ?_
        refine X.lload_n 2 (zi204 1) rfl rfl rfl ?_
        refine X.lcmp 3 (zi204 2) rfl rfl (fun z517 hz517 => ?_)
        refine X.iflt 17 6 (zi204 3) rfl rfl rfl (fun h518 => ?_) (fun h518 => ?_)
        · have h518c : a2 < 0 := by omega
          clear h518 hz517
          refine X.cut [] (zi204 17) rfl ?_
          refine X.iconst 18 (zi204 17) rfl rfl (by decide) ?_
          refine X.retz (zi204 18) rfl t204 (by omega) ?_
          show X (EE s) ((d - 1) - 1) 242 9 [(0, zi a2)] [zi 0] m _
          refine X.retz (zi242 9) rfl t242 (by omega) ?_
          show X (EE s) (d - 1) 290 21 [(0, zi a1), (1, zi a2)] [zi 0] m _
          refine X.ifeq 28 24 (zi290 21) rfl rfl rfl (fun h519 => ?_) (fun h519 => (by exfalso; omega))
          refine X.cut [] (zi290 28) rfl ?_
          refine X.iconst 29 (zi290 28) rfl rfl (by decide) ?_
          refine X.retz (zi290 29) rfl t290 (by omega) ?_
          show X (EE s) d 296 5 [(0, zr 4 44), (1, zi a1), (2, zi a2)] [zi 0] m _
          refine X.ifeq 31 8 (zi296 5) rfl rfl rfl (fun h520 => ?_) (fun h520 => (by exfalso; omega))
          refine X.cut [] (zi296 31) rfl ?_
          refine X.ldc2 34 (zi296 31) rfl rfl (by decide) ?_
          refine X.retl (zi296 34) rfl t296 ?_
          exact hQ (-1) (by first | trivial | omega) (Eq.trans (if_neg h502c) (Eq.trans (if_pos h506c) (Eq.trans (if_neg h510) (Eq.trans (if_pos h518c) rfl)))) 
        · have h518c : ¬ a2 < 0 := by omega
          clear h518 hz517
          refine X.lload_n 7 (zi204 6) rfl rfl rfl ?_
          refine X.lload 9 (zi204 7) rfl rfl rfl ?_
          refine X.lcmp 10 (zi204 9) rfl rfl (fun z521 hz521 => ?_)
          refine X.ifgt 17 13 (zi204 10) rfl rfl rfl (fun h522 => ?_) (fun h522 => ?_)
          · have h522c : ¬ a2 ≤ 3 := by omega
            clear h522 hz521
            refine X.cut [] (zi204 17) rfl ?_
            refine X.iconst 18 (zi204 17) rfl rfl (by decide) ?_
            refine X.retz (zi204 18) rfl t204 (by omega) ?_
            show X (EE s) ((d - 1) - 1) 242 9 [(0, zi a2)] [zi 0] m _
            refine X.retz (zi242 9) rfl t242 (by omega) ?_
            show X (EE s) (d - 1) 290 21 [(0, zi a1), (1, zi a2)] [zi 0] m _
            refine X.ifeq 28 24 (zi290 21) rfl rfl rfl (fun h523 => ?_) (fun h523 => (by exfalso; omega))
            refine X.cut [] (zi290 28) rfl ?_
            refine X.iconst 29 (zi290 28) rfl rfl (by decide) ?_
            refine X.retz (zi290 29) rfl t290 (by omega) ?_
            show X (EE s) d 296 5 [(0, zr 4 44), (1, zi a1), (2, zi a2)] [zi 0] m _
            refine X.ifeq 31 8 (zi296 5) rfl rfl rfl (fun h524 => ?_) (fun h524 => (by exfalso; omega))
            refine X.cut [] (zi296 31) rfl ?_
            refine X.ldc2 34 (zi296 31) rfl rfl (by decide) ?_
            refine X.retl (zi296 34) rfl t296 ?_
            exact hQ (-1) (by first | trivial | omega) (Eq.trans (if_neg h502c) (Eq.trans (if_pos h506c) (Eq.trans (if_neg h510) (Eq.trans (if_neg h518c) (Eq.trans (if_neg h522c) rfl))))) 
          · have h522c : a2 ≤ 3 := by omega
            clear h522 hz521
            refine X.iconst 14 (zi204 13) rfl rfl (by decide) ?_
            refine X.goto 18 (zi204 14) rfl rfl ?_
            refine X.cut [] (zi204 18) rfl ?_
            refine X.retz (zi204 18) rfl t204 (by omega) ?_
            show X (EE s) ((d - 1) - 1) 242 9 [(0, zi a2)] [zi 1] m _
            refine X.retz (zi242 9) rfl t242 (by omega) ?_
            show X (EE s) (d - 1) 290 21 [(0, zi a1), (1, zi a2)] [zi 1] m _
            refine X.ifeq 28 24 (zi290 21) rfl rfl rfl (fun h525 => (by exfalso; omega)) (fun h525 => ?_)
            refine X.cut [] (zi290 24) rfl ?_
            refine X.iconst 25 (zi290 24) rfl rfl (by decide) ?_
            refine X.goto 29 (zi290 25) rfl rfl ?_
            refine X.retz (zi290 29) rfl t290 (by omega) ?_
            show X (EE s) d 296 5 [(0, zr 4 44), (1, zi a1), (2, zi a2)] [zi 1] m _
            refine X.ifeq 31 8 (zi296 5) rfl rfl rfl (fun h526 => (by exfalso; omega)) (fun h526 => ?_)
            refine X.aload_n 9 (zi296 8) rfl rfl rfl ?_
            refine X.getF 12 (zi296 9) rfl rfl (by decide) rfl rfl ?_
            refine X.bipush 14 (zi296 12) rfl rfl (by decide) ?_
            refine X.iload_n 15 (zi296 14) rfl rfl rfl ?_
            refine X.iload_n 16 (zi296 15) rfl rfl rfl ?_
            refine X.calls 19 [zi a1, zi a2] [zi 60, zr 4 45] [(0, zi a1), (1, zi a2)] (zi296 16) (by decide) rfl rfl (by omega) rfl rfl t291 (Nat.le_of_ble_eq_true rfl) (Nat.le_of_ble_eq_true rfl) rfl ?_
            refine c291_1 (B := B)  a1 a2 (by omega) (hJ.up (by omega)) (by omega) (by omega) (by omega) (fun v529 hv529 hFv529 => ?_)
            show X (EE s) d 296 19 [(0, zr 4 44), (1, zi a1), (2, zi a2)] [zi v529, zi 60, zr 4 45] m _
            refine X.iadd 20 (zi296 19) rfl rfl (by omega) ?_
            refine X.lald 21 (zi296 20) rfl rfl (by decide) rfl (by omega) ?_
            refine X.aload_n 22 (zi296 21) rfl rfl rfl ?_
            refine X.getF 25 (zi296 22) rfl rfl (by decide) rfl rfl ?_
            refine X.iconst 26 (zi296 25) rfl rfl (by decide) ?_
            refine X.lald 27 (zi296 26) rfl rfl (by decide) rfl (by omega) ?_
            have h530 := r45_5 hJ 4
            refine X.ldivW 28 (zi296 27) rfl rfl (by omega) (fun z531 ez531 hz531 => ?_)
            refine X.goto 34 (zi296 28) rfl rfl ?_
            refine X.cut [] (zi296 34) rfl ?_
            refine X.retl (zi296 34) rfl t296 ?_
            exact hQ z531 (by first | trivial | omega) (Eq.trans (if_neg h502c) (Eq.trans (if_pos h506c) (Eq.trans (if_neg h510) (Eq.trans (if_neg h518c) (Eq.trans (if_pos h522c) (Eq.trans (zn_eq hFv529.symm) (Eq.trans (zn_eq ez531) rfl))))))) 
-- WorkMeter.tariffAt
noncomputable def f148_1 (a1 : Int) (m : zM) : Int :=
  if a1 < 0 then
  ((-1))
  else
  (if 2000000000 < a1 then
  ((-1))
  else
  (zn (f27_1 0 a1 m) fun v508 =>
  v508))
-- WorkMeter.tariffAt
theorem c148_1 {s : Nat × (Nat → Int32)} {S : zS} {m0 m : zM} {B : Int} {d : Nat} {Q : Option zV → zM → Prop} (a1 : Int) (hd : 16 ≤ d) (hJ : J S m0 B m) (hB : B + 0 ≤ 1000000000) (ha1 : (-2147483648) ≤ a1 ∧ a1 ≤ 2147483647) (hQ : ∀ (v : Int), ((-1) ≤ v ∧ v ≤ 3) → f148_1 a1 m = v → Q (some (zi v)) m) : X (EE s) d 148 0 [(0, zr 4 40), (1, zi a1)] [] m Q := by
  refine X.iload_n 1 (zi148 0) rfl rfl rfl ?_
  refine X.calls 4 [zi a1] [] [(0, zi a1)] (zi148 1) (by decide) rfl rfl (by omega) rfl rfl t128 (Nat.le_of_ble_eq_true rfl) (Nat.le_of_ble_eq_true rfl) rfl ?_
  refine X.iload_n 1 (zi128 0) rfl rfl rfl ?_
  refine X.iflt 14 4 (zi128 1) rfl rfl rfl (fun h501 => ?_) (fun h501 => ?_)
  · refine X.cut [] (zi128 14) rfl ?_
    refine X.iconst 15 (zi128 14) rfl rfl (by decide) ?_
    refine X.retz (zi128 15) rfl t128 (by omega) ?_
    show X (EE s) d 148 4 [(0, zr 4 40), (1, zi a1)] [zi 0] m _
    refine X.ifeq 21 7 (zi148 4) rfl rfl rfl (fun h502 => ?_) (fun h502 => (by exfalso; omega))
    refine X.cut [] (zi148 21) rfl ?_
    refine X.iconst 22 (zi148 21) rfl rfl (by decide) ?_
    refine X.reti (zi148 22) rfl t148 ?_
    exact hQ (-1) (by first | trivial | omega) (Eq.trans (if_pos h501) rfl) 
  · refine X.iload_n 5 (zi128 4) rfl rfl rfl ?_
    refine X.ldc 7 (zi128 5) rfl rfl (by decide) ?_
    refine X.icmpgt 14 10 (zi128 7) rfl rfl rfl (fun h503 => ?_) (fun h503 => ?_)
    · refine X.cut [] (zi128 14) rfl ?_
      refine X.iconst 15 (zi128 14) rfl rfl (by decide) ?_
      refine X.retz (zi128 15) rfl t128 (by omega) ?_
      show X (EE s) d 148 4 [(0, zr 4 40), (1, zi a1)] [zi 0] m _
      refine X.ifeq 21 7 (zi148 4) rfl rfl rfl (fun h504 => ?_) (fun h504 => (by exfalso; omega))
      refine X.cut [] (zi148 21) rfl ?_
      refine X.iconst 22 (zi148 21) rfl rfl (by decide) ?_
      refine X.reti (zi148 22) rfl t148 ?_
      exact hQ (-1) (by first | trivial | omega) (Eq.trans (if_neg h501) (Eq.trans (if_pos h503) rfl)) 
    · refine X.iconst 11 (zi128 10) rfl rfl (by decide) ?_
      refine X.goto 15 (zi128 11) rfl rfl ?_
      refine X.cut [] (zi128 15) rfl ?_
      refine X.retz (zi128 15) rfl t128 (by omega) ?_
      show X (EE s) d 148 4 [(0, zr 4 40), (1, zi a1)] [zi 1] m _
      refine X.ifeq 21 7 (zi148 4) rfl rfl rfl (fun h505 => (by exfalso; omega)) (fun h505 => ?_)
      refine X.aload_n 8 (zi148 7) rfl rfl rfl ?_
      refine X.getF 11 (zi148 8) rfl rfl (by decide) rfl rfl ?_
      refine X.getR 14 (zi148 11) rfl rfl (by decide) rfl rfl ?_
      refine X.iload_n 15 (zi148 14) rfl rfl rfl ?_
      refine X.callv 18 [zi a1] [] [(0, zr 0 11), (1, zi a1)] (zi148 15) rfl (by decide) rfl rfl (by omega) rfl rfl (by decide) rfl t27 (Nat.le_of_ble_eq_true rfl) (Nat.le_of_ble_eq_true rfl) rfl ?_
      refine c27_1 (B := B) 0 a1 (by omega) (hJ.up (by omega)) (by omega) (by omega) (fun v508 hv508 hFv508 => ?_)
      show X (EE s) d 148 18 [(0, zr 4 40), (1, zi a1)] [zi v508] m _
      refine X.goto 22 (zi148 18) rfl rfl ?_
      refine X.cut [] (zi148 22) rfl ?_
      refine X.reti (zi148 22) rfl t148 ?_
      exact hQ v508 (by first | trivial | omega) (Eq.trans (if_neg h501) (Eq.trans (if_neg h503) (Eq.trans (zn_eq hFv508.symm) rfl))) 
-- WorkMeterModel.tariffAt
noncomputable def f250_1 (a1 : Int) (m : zM) : Int :=
  if a1 < 0 then
  ((-1))
  else
  (if a1 ≤ 2000000000 then
  (zn (f217_1 a1 m) fun v510 =>
  v510)
  else
  ((-1)))
-- WorkMeterModel.tariffAt
theorem c250_1 {s : Nat × (Nat → Int32)} {S : zS} {m0 m : zM} {B : Int} {d : Nat} {Q : Option zV → zM → Prop} (a1 : Int) (hd : 16 ≤ d) (hJ : J S m0 B m) (hB : B + 0 ≤ 1000000000) (ha1 : (-2147483648) ≤ a1 ∧ a1 ≤ 2147483647) (hQ : ∀ (v : Int), ((-1) ≤ v ∧ v ≤ 3) → f250_1 a1 m = v → Q (some (zi v)) m) : X (EE s) d 250 0 [(0, zr 4 44), (1, zi a1)] [] m Q := by
  refine X.iload_n 1 (zi250 0) rfl rfl rfl ?_
  refine X.i2l 2 (zi250 1) rfl rfl ?_
  refine X.lconst (y := 0) 3 (zi250 2) rfl rfl rfl ?_
  refine X.ldc2 6 (zi250 3) rfl rfl (by decide) ?_
  refine X.calls 9 [zl a1, zl 0, zl 2000000000] [] [(0, zl a1), (2, zl 0), (4, zl 2000000000)] (zi250 6) (by decide) rfl rfl (by omega) rfl rfl t204 (Nat.le_of_ble_eq_true rfl) (Nat.le_of_ble_eq_true rfl) rfl ?_
  refine X.lload_n 1 (zi204 0) rfl rfl rfl ?_
  refine X.lload_n 2 (zi204 1) rfl rfl rfl ?_
  refine X.lcmp 3 (zi204 2) rfl rfl (fun z501 hz501 => ?_)
  refine X.iflt 17 6 (zi204 3) rfl rfl rfl (fun h502 => ?_) (fun h502 => ?_)
  · have h502c : a1 < 0 := by omega
    clear h502 hz501
    refine X.cut [] (zi204 17) rfl ?_
    refine X.iconst 18 (zi204 17) rfl rfl (by decide) ?_
    refine X.retz (zi204 18) rfl t204 (by omega) ?_
    show X (EE s) d 250 9 [(0, zr 4 44), (1, zi a1)] [zi 0] m _
    refine X.ifeq 20 12 (zi250 9) rfl rfl rfl (fun h503 => ?_) (fun h503 => (by exfalso; omega))
    refine X.cut [] (zi250 20) rfl ?_
    refine X.iconst 21 (zi250 20) rfl rfl (by decide) ?_
    refine X.reti (zi250 21) rfl t250 ?_
    exact hQ (-1) (by first | trivial | omega) (Eq.trans (if_pos h502c) rfl) 
  · have h502c : ¬ a1 < 0 := by omega
    clear h502 hz501
    refine X.lload_n 7 (zi204 6) rfl rfl rfl ?_
    refine X.lload 9 (zi204 7) rfl rfl rfl ?_
    refine X.lcmp 10 (zi204 9) rfl rfl (fun z504 hz504 => ?_)
    refine X.ifgt 17 13 (zi204 10) rfl rfl rfl (fun h505 => ?_) (fun h505 => ?_)
    · have h505c : ¬ a1 ≤ 2000000000 := by omega
      clear h505 hz504
      refine X.cut [] (zi204 17) rfl ?_
      refine X.iconst 18 (zi204 17) rfl rfl (by decide) ?_
      refine X.retz (zi204 18) rfl t204 (by omega) ?_
      show X (EE s) d 250 9 [(0, zr 4 44), (1, zi a1)] [zi 0] m _
      refine X.ifeq 20 12 (zi250 9) rfl rfl rfl (fun h506 => ?_) (fun h506 => (by exfalso; omega))
      refine X.cut [] (zi250 20) rfl ?_
      refine X.iconst 21 (zi250 20) rfl rfl (by decide) ?_
      refine X.reti (zi250 21) rfl t250 ?_
      exact hQ (-1) (by first | trivial | omega) (Eq.trans (if_neg h502c) (Eq.trans (if_neg h505c) rfl)) 
    · have h505c : a1 ≤ 2000000000 := by omega
      clear h505 hz504
      refine X.iconst 14 (zi204 13) rfl rfl (by decide) ?_
      refine X.goto 18 (zi204 14) rfl rfl ?_
      refine X.cut [] (zi204 18) rfl ?_
      refine X.retz (zi204 18) rfl t204 (by omega) ?_
      show X (EE s) d 250 9 [(0, zr 4 44), (1, zi a1)] [zi 1] m _
      refine X.ifeq 20 12 (zi250 9) rfl rfl rfl (fun h507 => (by exfalso; omega)) (fun h507 => ?_)
      refine X.aload_n 13 (zi250 12) rfl rfl rfl ?_
      refine X.iload_n 14 (zi250 13) rfl rfl rfl ?_
      refine X.callv 17 [zi a1] [] [(0, zr 4 44), (1, zi a1)] (zi250 14) rfl (by decide) rfl rfl (by omega) rfl rfl (by decide) rfl t217 (Nat.le_of_ble_eq_true rfl) (Nat.le_of_ble_eq_true rfl) rfl ?_
      refine c217_1 (B := B)  a1 (by omega) (hJ.up (by omega)) (by omega) (by omega) (fun v510 hv510 hFv510 => ?_)
      show X (EE s) d 250 17 [(0, zr 4 44), (1, zi a1)] [zi v510] m _
      refine X.goto 21 (zi250 17) rfl rfl ?_
      refine X.cut [] (zi250 21) rfl ?_
      refine X.reti (zi250 21) rfl t250 ?_
      exact hQ v510 (by first | trivial | omega) (Eq.trans (if_neg h502c) (Eq.trans (if_pos h505c) (Eq.trans (zn_eq hFv510.symm) rfl))) 
-- WorkMeter.tableOf
noncomputable def f149_1 (a1 : Int) (m : zM) : Int :=
  if a1 < 0 then
  ((-1))
  else
  (if 23148 < a1 then
  ((-1))
  else
  (zn (f28_1 0 a1 m) fun v508 =>
  v508))
-- WorkMeter.tableOf
theorem c149_1 {s : Nat × (Nat → Int32)} {S : zS} {m0 m : zM} {B : Int} {d : Nat} {Q : Option zV → zM → Prop} (a1 : Int) (hd : 15 ≤ d) (hJ : J S m0 B m) (hB : B + 0 ≤ 1000000000) (ha1 : (-2147483648) ≤ a1 ∧ a1 ≤ 2147483647) (hQ : ∀ (v : Int), ((-1) ≤ v ∧ v ≤ 7) → f149_1 a1 m = v → Q (some (zi v)) m) : X (EE s) d 149 0 [(0, zr 4 40), (1, zi a1)] [] m Q := by
  refine X.iload_n 1 (zi149 0) rfl rfl rfl ?_
  refine X.calls 4 [zi a1] [] [(0, zi a1)] (zi149 1) (by decide) rfl rfl (by omega) rfl rfl t150 (Nat.le_of_ble_eq_true rfl) (Nat.le_of_ble_eq_true rfl) rfl ?_
  refine X.iload_n 1 (zi150 0) rfl rfl rfl ?_
  refine X.iflt 15 4 (zi150 1) rfl rfl rfl (fun h501 => ?_) (fun h501 => ?_)
  · refine X.cut [] (zi150 15) rfl ?_
    refine X.iconst 16 (zi150 15) rfl rfl (by decide) ?_
    refine X.retz (zi150 16) rfl t150 (by omega) ?_
    show X (EE s) d 149 4 [(0, zr 4 40), (1, zi a1)] [zi 0] m _
    refine X.ifeq 21 7 (zi149 4) rfl rfl rfl (fun h502 => ?_) (fun h502 => (by exfalso; omega))
    refine X.cut [] (zi149 21) rfl ?_
    refine X.iconst 22 (zi149 21) rfl rfl (by decide) ?_
    refine X.reti (zi149 22) rfl t149 ?_
    exact hQ (-1) (by first | trivial | omega) (Eq.trans (if_pos h501) rfl) 
  · refine X.iload_n 5 (zi150 4) rfl rfl rfl ?_
    refine X.sipush 8 (zi150 5) rfl rfl (by decide) ?_
    refine X.icmpgt 15 11 (zi150 8) rfl rfl rfl (fun h503 => ?_) (fun h503 => ?_)
    · refine X.cut [] (zi150 15) rfl ?_
      refine X.iconst 16 (zi150 15) rfl rfl (by decide) ?_
      refine X.retz (zi150 16) rfl t150 (by omega) ?_
      show X (EE s) d 149 4 [(0, zr 4 40), (1, zi a1)] [zi 0] m _
      refine X.ifeq 21 7 (zi149 4) rfl rfl rfl (fun h504 => ?_) (fun h504 => (by exfalso; omega))
      refine X.cut [] (zi149 21) rfl ?_
      refine X.iconst 22 (zi149 21) rfl rfl (by decide) ?_
      refine X.reti (zi149 22) rfl t149 ?_
      exact hQ (-1) (by first | trivial | omega) (Eq.trans (if_neg h501) (Eq.trans (if_pos h503) rfl)) 
    · refine X.iconst 12 (zi150 11) rfl rfl (by decide) ?_
      refine X.goto 16 (zi150 12) rfl rfl ?_
      refine X.cut [] (zi150 16) rfl ?_
      refine X.retz (zi150 16) rfl t150 (by omega) ?_
      show X (EE s) d 149 4 [(0, zr 4 40), (1, zi a1)] [zi 1] m _
      refine X.ifeq 21 7 (zi149 4) rfl rfl rfl (fun h505 => (by exfalso; omega)) (fun h505 => ?_)
      refine X.aload_n 8 (zi149 7) rfl rfl rfl ?_
      refine X.getF 11 (zi149 8) rfl rfl (by decide) rfl rfl ?_
      refine X.getR 14 (zi149 11) rfl rfl (by decide) rfl rfl ?_
      refine X.iload_n 15 (zi149 14) rfl rfl rfl ?_
      refine X.callv 18 [zi a1] [] [(0, zr 0 11), (1, zi a1)] (zi149 15) rfl (by decide) rfl rfl (by omega) rfl rfl (by decide) rfl t28 (Nat.le_of_ble_eq_true rfl) (Nat.le_of_ble_eq_true rfl) rfl ?_
      refine c28_1 (B := B) 0 a1 (by omega) (hJ.up (by omega)) (by omega) (by omega) (fun v508 hv508 hFv508 => ?_)
      show X (EE s) d 149 18 [(0, zr 4 40), (1, zi a1)] [zi v508] m _
      refine X.goto 22 (zi149 18) rfl rfl ?_
      refine X.cut [] (zi149 22) rfl ?_
      refine X.reti (zi149 22) rfl t149 ?_
      exact hQ v508 (by first | trivial | omega) (Eq.trans (if_neg h501) (Eq.trans (if_neg h503) (Eq.trans (zn_eq hFv508.symm) rfl))) 
-- WorkMeterModel.tableOf
noncomputable def f251_1 (a1 : Int) (m : zM) : Int :=
  if a1 < 0 then
  ((-1))
  else
  (if a1 ≤ 23148 then
  (zn (f218_1 a1 m) fun v510 =>
  v510)
  else
  ((-1)))
-- WorkMeterModel.tableOf
theorem c251_1 {s : Nat × (Nat → Int32)} {S : zS} {m0 m : zM} {B : Int} {d : Nat} {Q : Option zV → zM → Prop} (a1 : Int) (hd : 15 ≤ d) (hJ : J S m0 B m) (hB : B + 0 ≤ 1000000000) (ha1 : (-2147483648) ≤ a1 ∧ a1 ≤ 2147483647) (hQ : ∀ (v : Int), ((-1) ≤ v ∧ v ≤ 7) → f251_1 a1 m = v → Q (some (zi v)) m) : X (EE s) d 251 0 [(0, zr 4 44), (1, zi a1)] [] m Q := by
  refine X.iload_n 1 (zi251 0) rfl rfl rfl ?_
  refine X.i2l 2 (zi251 1) rfl rfl ?_
  refine X.lconst (y := 0) 3 (zi251 2) rfl rfl rfl ?_
  refine X.ldc2 6 (zi251 3) rfl rfl (by decide) ?_
  refine X.calls 9 [zl a1, zl 0, zl 23148] [] [(0, zl a1), (2, zl 0), (4, zl 23148)] (zi251 6) (by decide) rfl rfl (by omega) rfl rfl t204 (Nat.le_of_ble_eq_true rfl) (Nat.le_of_ble_eq_true rfl) rfl ?_
  refine X.lload_n 1 (zi204 0) rfl rfl rfl ?_
  refine X.lload_n 2 (zi204 1) rfl rfl rfl ?_
  refine X.lcmp 3 (zi204 2) rfl rfl (fun z501 hz501 => ?_)
  refine X.iflt 17 6 (zi204 3) rfl rfl rfl (fun h502 => ?_) (fun h502 => ?_)
  · have h502c : a1 < 0 := by omega
    clear h502 hz501
    refine X.cut [] (zi204 17) rfl ?_
    refine X.iconst 18 (zi204 17) rfl rfl (by decide) ?_
    refine X.retz (zi204 18) rfl t204 (by omega) ?_
    show X (EE s) d 251 9 [(0, zr 4 44), (1, zi a1)] [zi 0] m _
    refine X.ifeq 20 12 (zi251 9) rfl rfl rfl (fun h503 => ?_) (fun h503 => (by exfalso; omega))
    refine X.cut [] (zi251 20) rfl ?_
    refine X.iconst 21 (zi251 20) rfl rfl (by decide) ?_
    refine X.reti (zi251 21) rfl t251 ?_
    exact hQ (-1) (by first | trivial | omega) (Eq.trans (if_pos h502c) rfl) 
  · have h502c : ¬ a1 < 0 := by omega
    clear h502 hz501
    refine X.lload_n 7 (zi204 6) rfl rfl rfl ?_
    refine X.lload 9 (zi204 7) rfl rfl rfl ?_
    refine X.lcmp 10 (zi204 9) rfl rfl (fun z504 hz504 => ?_)
    refine X.ifgt 17 13 (zi204 10) rfl rfl rfl (fun h505 => ?_) (fun h505 => ?_)
    · have h505c : ¬ a1 ≤ 23148 := by omega
      clear h505 hz504
      refine X.cut [] (zi204 17) rfl ?_
      refine X.iconst 18 (zi204 17) rfl rfl (by decide) ?_
      refine X.retz (zi204 18) rfl t204 (by omega) ?_
      show X (EE s) d 251 9 [(0, zr 4 44), (1, zi a1)] [zi 0] m _
      refine X.ifeq 20 12 (zi251 9) rfl rfl rfl (fun h506 => ?_) (fun h506 => (by exfalso; omega))
      refine X.cut [] (zi251 20) rfl ?_
      refine X.iconst 21 (zi251 20) rfl rfl (by decide) ?_
      refine X.reti (zi251 21) rfl t251 ?_
      exact hQ (-1) (by first | trivial | omega) (Eq.trans (if_neg h502c) (Eq.trans (if_neg h505c) rfl)) 
    · have h505c : a1 ≤ 23148 := by omega
      clear h505 hz504
      refine X.iconst 14 (zi204 13) rfl rfl (by decide) ?_
      refine X.goto 18 (zi204 14) rfl rfl ?_
      refine X.cut [] (zi204 18) rfl ?_
      refine X.retz (zi204 18) rfl t204 (by omega) ?_
      show X (EE s) d 251 9 [(0, zr 4 44), (1, zi a1)] [zi 1] m _
      refine X.ifeq 20 12 (zi251 9) rfl rfl rfl (fun h507 => (by exfalso; omega)) (fun h507 => ?_)
      refine X.aload_n 13 (zi251 12) rfl rfl rfl ?_
      refine X.iload_n 14 (zi251 13) rfl rfl rfl ?_
      refine X.callv 17 [zi a1] [] [(0, zr 4 44), (1, zi a1)] (zi251 14) rfl (by decide) rfl rfl (by omega) rfl rfl (by decide) rfl t218 (Nat.le_of_ble_eq_true rfl) (Nat.le_of_ble_eq_true rfl) rfl ?_
      refine c218_1 (B := B)  a1 (by omega) (hJ.up (by omega)) (by omega) (by omega) (fun v510 hv510 hFv510 => ?_)
      show X (EE s) d 251 17 [(0, zr 4 44), (1, zi a1)] [zi v510] m _
      refine X.goto 21 (zi251 17) rfl rfl ?_
      refine X.cut [] (zi251 21) rfl ?_
      refine X.reti (zi251 21) rfl t251 ?_
      exact hQ v510 (by first | trivial | omega) (Eq.trans (if_neg h502c) (Eq.trans (if_pos h505c) (Eq.trans (zn_eq hFv510.symm) rfl))) 
-- WorkMeter.switching
noncomputable def f151_1 (a1 a2 a3 : Int) (m : zM) : Int :=
  if a1 < 0 then
  ((-1))
  else
  (if 8 ≤ a1 then
  ((-1))
  else
  (if a2 = (-1) then
  ((m 0 12 a1))
  else
  (if a2 < 0 then
  ((-1))
  else
  (if (m 0 12 a1) ≤ a2 then
  ((-1))
  else
  (if a3 < 0 then
  ((-1))
  else
  (if a3 ≤ 1 then
  (zn (if a3 = 0 then
  ((m 0 13 ((a1 * 6) + a2)))
  else
  ((m 0 14 ((a1 * 6) + a2)))) fun v515 =>
  v515)
  else
  ((-1))))))))
end
section
-- WorkMeter.switching
theorem c151_1 {s : Nat × (Nat → Int32)} {S : zS} {m0 m : zM} {B : Int} {d : Nat} {Q : Option zV → zM → Prop} (a1 a2 a3 : Int) (hd : 13 ≤ d) (hJ : J S m0 B m) (hB : B + 0 ≤ 1000000000) (ha1 : (-2147483648) ≤ a1 ∧ a1 ≤ 2147483647) (ha2 : (-2147483648) ≤ a2 ∧ a2 ≤ 2147483647) (ha3 : (-2147483648) ≤ a3 ∧ a3 ≤ 2147483647) (hQ : ∀ (v : Int), ((-1) ≤ v ∧ v ≤ 86399) → f151_1 a1 a2 a3 m = v → Q (some (zi v)) m) : X (EE s) d 151 0 [(0, zr 4 40), (1, zi a1), (2, zi a2), (3, zi a3)] [] m Q := by
  refine X.iload_n 1 (zi151 0) rfl rfl rfl ?_
  refine X.calls 4 [zi a1] [] [(0, zi a1)] (zi151 1) (by decide) rfl rfl (by omega) rfl rfl t79 (Nat.le_of_ble_eq_true rfl) (Nat.le_of_ble_eq_true rfl) rfl ?_
  refine X.iload_n 1 (zi79 0) rfl rfl rfl ?_
  refine X.iflt 14 4 (zi79 1) rfl rfl rfl (fun h501 => ?_) (fun h501 => ?_)
  · refine X.cut [] (zi79 14) rfl ?_
    refine X.iconst 15 (zi79 14) rfl rfl (by decide) ?_
    refine X.retz (zi79 15) rfl t79 (by omega) ?_
    show X (EE s) d 151 4 [(0, zr 4 40), (1, zi a1), (2, zi a2), (3, zi a3)] [zi 0] m _
    refine X.ifne 9 7 (zi151 4) rfl rfl rfl (fun h502 => (by exfalso; omega)) (fun h502 => ?_)
    refine X.iconst 8 (zi151 7) rfl rfl (by decide) ?_
    refine X.reti (zi151 8) rfl t151 ?_
    exact hQ (-1) (by first | trivial | omega) (Eq.trans (if_pos h501) rfl) 
  · refine X.iload_n 5 (zi79 4) rfl rfl rfl ?_
    refine X.bipush 7 (zi79 5) rfl rfl (by decide) ?_
    refine X.icmpge 14 10 (zi79 7) rfl rfl rfl (fun h503 => ?_) (fun h503 => ?_)
    · refine X.cut [] (zi79 14) rfl ?_
      refine X.iconst 15 (zi79 14) rfl rfl (by decide) ?_
      refine X.retz (zi79 15) rfl t79 (by omega) ?_
      show X (EE s) d 151 4 [(0, zr 4 40), (1, zi a1), (2, zi a2), (3, zi a3)] [zi 0] m _
      refine X.ifne 9 7 (zi151 4) rfl rfl rfl (fun h504 => (by exfalso; omega)) (fun h504 => ?_)
      refine X.iconst 8 (zi151 7) rfl rfl (by decide) ?_
      refine X.reti (zi151 8) rfl t151 ?_
      exact hQ (-1) (by first | trivial | omega) (Eq.trans (if_neg h501) (Eq.trans (if_pos h503) rfl)) 
    · refine X.iconst 11 (zi79 10) rfl rfl (by decide) ?_
      refine X.goto 15 (zi79 11) rfl rfl ?_
      refine X.cut [] (zi79 15) rfl ?_
      refine X.retz (zi79 15) rfl t79 (by omega) ?_
      show X (EE s) d 151 4 [(0, zr 4 40), (1, zi a1), (2, zi a2), (3, zi a3)] [zi 1] m _
      refine X.ifne 9 7 (zi151 4) rfl rfl rfl (fun h505 => ?_) (fun h505 => (by exfalso; omega))
      refine X.aload_n 10 (zi151 9) rfl rfl rfl ?_
      refine X.getF 13 (zi151 10) rfl rfl (by decide) rfl rfl ?_
      refine X.getR 16 (zi151 13) rfl rfl (by decide) rfl rfl ?_
      refine X.getR 19 (zi151 16) rfl rfl (by decide) rfl rfl ?_
      refine X.iload_n 20 (zi151 19) rfl rfl rfl ?_
      refine X.iald 21 (zi151 20) rfl rfl (by decide) rfl (by omega) ?_
      have h506 := r12_0 hJ 0 (i := a1) (by omega)
      refine X.istore 23 [(0, zr 4 40), (1, zi a1), (2, zi a2), (3, zi a3), (4, zi (m 0 12 a1))] (zi151 21) rfl rfl rfl ?_
      refine X.iload_n 24 (zi151 23) rfl rfl rfl ?_
      refine X.iconst 25 (zi151 24) rfl rfl (by decide) ?_
      refine X.icmpne 31 28 (zi151 25) rfl rfl rfl (fun h507 => ?_) (fun h507 => ?_)
      · refine X.iload_n 32 (zi151 31) rfl rfl rfl ?_
        refine X.iflt 50 35 (zi151 32) rfl rfl rfl (fun h508 => ?_) (fun h508 => ?_)
        · refine X.cut [] (zi151 50) rfl ?_
          refine X.iconst 51 (zi151 50) rfl rfl (by decide) ?_
          refine X.reti (zi151 51) rfl t151 ?_
          exact hQ (-1) (by first | trivial | omega) (Eq.trans (if_neg h501) (Eq.trans (if_neg h503) (Eq.trans (if_neg h507) (Eq.trans (if_pos h508) rfl)))) 
        · refine X.iload_n 36 (zi151 35) rfl rfl rfl ?_
          refine X.iload 38 (zi151 36) rfl rfl rfl ?_
          refine X.icmpge 50 41 (zi151 38) rfl rfl rfl (fun h509 => ?_) (fun h509 => ?_)
          · refine X.cut [] (zi151 50) rfl ?_
            refine X.iconst 51 (zi151 50) rfl rfl (by decide) ?_
            refine X.reti (zi151 51) rfl t151 ?_
            exact hQ (-1) (by first | trivial | omega) (Eq.trans (if_neg h501) (Eq.trans (if_neg h503) (Eq.trans (if_neg h507) (Eq.trans (if_neg h508) (Eq.trans (if_pos h509) rfl))))) 
          · refine X.iload_n 42 (zi151 41) rfl rfl rfl ?_
            refine X.iflt 50 45 (zi151 42) rfl rfl rfl (fun h510 => ?_) (fun h510 => ?_)
            · refine X.cut [] (zi151 50) rfl ?_
              refine X.iconst 51 (zi151 50) rfl rfl (by decide) ?_
              refine X.reti (zi151 51) rfl t151 ?_
              exact hQ (-1) (by first | trivial | omega) (Eq.trans (if_neg h501) (Eq.trans (if_neg h503) (Eq.trans (if_neg h507) (Eq.trans (if_neg h508) (Eq.trans (if_neg h509) (Eq.trans (if_pos h510) rfl)))))) 
            · refine X.iload_n 46 (zi151 45) rfl rfl rfl ?_
              refine X.iconst 47 (zi151 46) rfl rfl (by decide) ?_
              refine X.icmple 52 50 (zi151 47) rfl rfl rfl (fun h511 => ?_) (fun h511 => ?_)
              · refine X.cut [(0, zr 4 40), (1, zi a1), (2, zi a2), (3, zi a3)] (zi151 52) rfl ?_
                refine X.iload_n 53 (zi151 52) rfl rfl rfl ?_
                refine X.bipush 55 (zi151 53) rfl rfl (by decide) ?_
                refine X.imul 56 (zi151 55) rfl rfl (by omega) ?_
                refine X.iload_n 57 (zi151 56) rfl rfl rfl ?_
                refine X.iadd 58 (zi151 57) rfl rfl (by omega) ?_
                refine X.istore 60 [(0, zr 4 40), (1, zi a1), (2, zi a2), (3, zi a3), (5, zi ((a1 * 6) + a2))] (zi151 58) rfl rfl rfl ?_
                refine X.iload_n 61 (zi151 60) rfl rfl rfl ?_
                have hK518 : ∀ (v : Int) , (0 ≤ v ∧ v ≤ 86399) → (if a3 = 0 then
                    ((m 0 13 ((a1 * 6) + a2)))
                    else
                    ((m 0 14 ((a1 * 6) + a2)))) = v → X (EE s) d 151 93 [] [zi v] m Q := by
                  intro v515 hv515 hT519
                  refine X.reti (zi151 93) rfl t151 ?_
                  exact hQ v515 (by first | trivial | omega) (Eq.trans (if_neg h501) (Eq.trans (if_neg h503) (Eq.trans (if_neg h507) (Eq.trans (if_neg h508) (Eq.trans (if_neg h509) (Eq.trans (if_neg h510) (Eq.trans (if_pos h511) (Eq.trans (zn_eq hT519.symm) rfl)))))))) 
                refine X.ifne 80 64 (zi151 61) rfl rfl rfl (fun h512 => ?_) (fun h512 => ?_)
                · refine X.cut [(0, zr 4 40), (5, zi ((a1 * 6) + a2))] (zi151 80) rfl ?_
                  refine X.aload_n 81 (zi151 80) rfl rfl rfl ?_
                  refine X.getF 84 (zi151 81) rfl rfl (by decide) rfl rfl ?_
                  refine X.getR 87 (zi151 84) rfl rfl (by decide) rfl rfl ?_
                  refine X.getR 90 (zi151 87) rfl rfl (by decide) rfl rfl ?_
                  refine X.iload 92 (zi151 90) rfl rfl rfl ?_
                  refine X.iald 93 (zi151 92) rfl rfl (by decide) rfl (by omega) ?_
                  have h513 := r14_0 hJ 0 (i := ((a1 * 6) + a2)) (by omega)
                  refine X.cut [] (zi151 93) rfl ?_
                  exact hK518 (m 0 14 ((a1 * 6) + a2)) (by first | trivial | omega) (Eq.trans (if_neg h512) rfl)
                · refine X.aload_n 65 (zi151 64) rfl rfl rfl ?_
                  refine X.getF 68 (zi151 65) rfl rfl (by decide) rfl rfl ?_
                  refine X.getR 71 (zi151 68) rfl rfl (by decide) rfl rfl ?_
                  refine X.getR 74 (zi151 71) rfl rfl (by decide) rfl rfl ?_
                  refine X.iload 76 (zi151 74) rfl rfl rfl ?_
                  refine X.iald 77 (zi151 76) rfl rfl (by decide) rfl (by omega) ?_
                  have h514 := r13_0 hJ 0 (i := ((a1 * 6) + a2)) (by omega)
                  refine X.goto 93 (zi151 77) rfl rfl ?_
                  refine X.cut [] (zi151 93) rfl ?_
                  exact hK518 (m 0 13 ((a1 * 6) + a2)) (by first | trivial | omega) (Eq.trans (if_pos h512) rfl)
              · refine X.cut [] (zi151 50) rfl ?_
                refine X.iconst 51 (zi151 50) rfl rfl (by decide) ?_
                refine X.reti (zi151 51) rfl t151 ?_
                exact hQ (-1) (by first | trivial | omega) (Eq.trans (if_neg h501) (Eq.trans (if_neg h503) (Eq.trans (if_neg h507) (Eq.trans (if_neg h508) (Eq.trans (if_neg h509) (Eq.trans (if_neg h510) (Eq.trans (if_neg h511) rfl))))))) 
      · refine X.iload 30 (zi151 28) rfl rfl rfl ?_
        refine X.reti (zi151 30) rfl t151 ?_
        exact hQ (m 0 12 a1) (by first | trivial | omega) (Eq.trans (if_neg h501) (Eq.trans (if_neg h503) (Eq.trans (if_pos h507) rfl))) 
-- WorkMeterModel.switching
noncomputable def f252_1 (a1 a2 a3 : Int) (m : zM) : Int :=
  if a1 < 0 then
  ((-1))
  else
  (if a1 ≤ 7 then
  (if a2 = (-1) then
  ((m 4 45 (287 + a1)))
  else
  (if a2 < 0 then
  ((-1))
  else
  (if a2 ≤ ((m 4 45 (287 + a1)) - 1) then
  (if a3 < 0 then
  ((-1))
  else
  (if a3 ≤ 1 then
  (if a3 = 0 then
  ((m 4 45 ((295 + (6 * a1)) + a2)))
  else
  ((m 4 45 ((343 + (6 * a1)) + a2))))
  else
  ((-1))))
  else
  ((-1)))))
  else
  ((-1)))
-- WorkMeterModel.switching
theorem c252_1 {s : Nat × (Nat → Int32)} {S : zS} {m0 m : zM} {B : Int} {d : Nat} {Q : Option zV → zM → Prop} (a1 a2 a3 : Int) (hd : 13 ≤ d) (hJ : J S m0 B m) (hB : B + 0 ≤ 1000000000) (ha1 : (-2147483648) ≤ a1 ∧ a1 ≤ 2147483647) (ha2 : (-2147483648) ≤ a2 ∧ a2 ≤ 2147483647) (ha3 : (-2147483648) ≤ a3 ∧ a3 ≤ 2147483647) (hQ : ∀ (v : Int), ((-1) ≤ v ∧ v ≤ 86399) → f252_1 a1 a2 a3 m = v → Q (some (zi v)) m) : X (EE s) d 252 0 [(0, zr 4 44), (1, zi a1), (2, zi a2), (3, zi a3)] [] m Q := by
  refine X.iload_n 1 (zi252 0) rfl rfl rfl ?_
  refine X.calls 4 [zi a1] [] [(0, zi a1)] (zi252 1) (by decide) rfl rfl (by omega) rfl rfl t241 (Nat.le_of_ble_eq_true rfl) (Nat.le_of_ble_eq_true rfl) rfl ?_
  refine X.iload_n 1 (zi241 0) rfl rfl rfl ?_
  refine X.i2l 2 (zi241 1) rfl rfl ?_
  refine X.lconst (y := 0) 3 (zi241 2) rfl rfl rfl ?_
  refine X.ldc2 6 (zi241 3) rfl rfl (by decide) ?_
  refine X.calls 9 [zl a1, zl 0, zl 7] [] [(0, zl a1), (2, zl 0), (4, zl 7)] (zi241 6) (by decide) rfl rfl (by omega) rfl rfl t204 (Nat.le_of_ble_eq_true rfl) (Nat.le_of_ble_eq_true rfl) rfl ?_
  refine X.lload_n 1 (zi204 0) rfl rfl rfl ?_
  refine X.lload_n 2 (zi204 1) rfl rfl rfl ?_
  refine X.lcmp 3 (zi204 2) rfl rfl (fun z501 hz501 => ?_)
  refine X.iflt 17 6 (zi204 3) rfl rfl rfl (fun h502 => ?_) (fun h502 => ?_)
  · have h502c : a1 < 0 := by omega
    clear h502 hz501
    refine X.cut [] (zi204 17) rfl ?_
    refine X.iconst 18 (zi204 17) rfl rfl (by decide) ?_
    refine X.retz (zi204 18) rfl t204 (by omega) ?_
    show X (EE s) (d - 1) 241 9 [(0, zi a1)] [zi 0] m _
    refine X.retz (zi241 9) rfl t241 (by omega) ?_
    show X (EE s) d 252 4 [(0, zr 4 44), (1, zi a1), (2, zi a2), (3, zi a3)] [zi 0] m _
    refine X.ifne 9 7 (zi252 4) rfl rfl rfl (fun h503 => (by exfalso; omega)) (fun h503 => ?_)
    refine X.iconst 8 (zi252 7) rfl rfl (by decide) ?_
    refine X.reti (zi252 8) rfl t252 ?_
    exact hQ (-1) (by first | trivial | omega) (Eq.trans (if_pos h502c) rfl) 
  · have h502c : ¬ a1 < 0 := by omega
    clear h502 hz501
    refine X.lload_n 7 (zi204 6) rfl rfl rfl ?_
    refine X.lload 9 (zi204 7) rfl rfl rfl ?_
    refine X.lcmp 10 (zi204 9) rfl rfl (fun z504 hz504 => ?_)
    refine X.ifgt 17 13 (zi204 10) rfl rfl rfl (fun h505 => ?_) (fun h505 => ?_)
    · have h505c : ¬ a1 ≤ 7 := by omega
      clear h505 hz504
      refine X.cut [] (zi204 17) rfl ?_
      refine X.iconst 18 (zi204 17) rfl rfl (by decide) ?_
      refine X.retz (zi204 18) rfl t204 (by omega) ?_
      show X (EE s) (d - 1) 241 9 [(0, zi a1)] [zi 0] m _
      refine X.retz (zi241 9) rfl t241 (by omega) ?_
      show X (EE s) d 252 4 [(0, zr 4 44), (1, zi a1), (2, zi a2), (3, zi a3)] [zi 0] m _
      refine X.ifne 9 7 (zi252 4) rfl rfl rfl (fun h506 => (by exfalso; omega)) (fun h506 => ?_)
      refine X.iconst 8 (zi252 7) rfl rfl (by decide) ?_
      refine X.reti (zi252 8) rfl t252 ?_
      exact hQ (-1) (by first | trivial | omega) (Eq.trans (if_neg h502c) (Eq.trans (if_neg h505c) rfl)) 
    · have h505c : a1 ≤ 7 := by omega
      clear h505 hz504
      refine X.iconst 14 (zi204 13) rfl rfl (by decide) ?_
      refine X.goto 18 (zi204 14) rfl rfl ?_
      refine X.cut [] (zi204 18) rfl ?_
      refine X.retz (zi204 18) rfl t204 (by omega) ?_
      show X (EE s) (d - 1) 241 9 [(0, zi a1)] [zi 1] m _
      refine X.retz (zi241 9) rfl t241 (by omega) ?_
      show X (EE s) d 252 4 [(0, zr 4 44), (1, zi a1), (2, zi a2), (3, zi a3)] [zi 1] m _
      refine X.ifne 9 7 (zi252 4) rfl rfl rfl (fun h507 => ?_) (fun h507 => (by exfalso; omega))
      refine X.iload_n 10 (zi252 9) rfl rfl rfl ?_
      refine X.iconst 11 (zi252 10) rfl rfl (by decide) ?_
      refine X.icmpne 26 14 (zi252 11) rfl rfl rfl (fun h508 => ?_) (fun h508 => ?_)
      · refine X.iload_n 27 (zi252 26) rfl rfl rfl ?_
        refine X.i2l 28 (zi252 27) rfl rfl ?_
        refine X.lconst (y := 0) 29 (zi252 28) rfl rfl rfl ?_
        refine X.aload_n 30 (zi252 29) rfl rfl rfl ?_
        refine X.getF 33 (zi252 30) rfl rfl (by decide) rfl rfl ?_
        refine X.sipush 36 (zi252 33) rfl rfl (by decide) ?_
        refine X.iload_n 37 (zi252 36) rfl rfl rfl ?_
        refine X.iadd 38 (zi252 37) rfl rfl (by omega) ?_
        refine X.lald 39 (zi252 38) rfl rfl (by decide) rfl (by omega) ?_
        have h509 := r45_287 hJ 4 (i := (287 + a1)) (by omega)
        refine X.lconst (y := 1) 40 (zi252 39) rfl rfl rfl ?_
        refine X.lsub 41 (zi252 40) rfl rfl (by omega) ?_
        refine X.calls 44 [zl a2, zl 0, zl ((m 4 45 (287 + a1)) - 1)] [] [(0, zl a2), (2, zl 0), (4, zl ((m 4 45 (287 + a1)) - 1))] (zi252 41) (by decide) rfl rfl (by omega) rfl rfl t204 (Nat.le_of_ble_eq_true rfl) (Nat.le_of_ble_eq_true rfl) rfl ?_
        refine X.lload_n 1 (zi204 0) rfl rfl rfl ?_
        refine X.lload_n 2 (zi204 1) rfl rfl rfl ?_
        refine X.lcmp 3 (zi204 2) rfl rfl (fun z510 hz510 => ?_)
        refine X.iflt 17 6 (zi204 3) rfl rfl rfl (fun h511 => ?_) (fun h511 => ?_)
        · have h511c : a2 < 0 := by omega
          clear h511 hz510
          refine X.cut [] (zi204 17) rfl ?_
          refine X.iconst 18 (zi204 17) rfl rfl (by decide) ?_
          refine X.retz (zi204 18) rfl t204 (by omega) ?_
          show X (EE s) d 252 44 [(0, zr 4 44), (1, zi a1), (2, zi a2), (3, zi a3)] [zi 0] m _
          refine X.ifeq 57 47 (zi252 44) rfl rfl rfl (fun h512 => ?_) (fun h512 => (by exfalso; omega))
          refine X.cut [] (zi252 57) rfl ?_
          refine X.iconst 58 (zi252 57) rfl rfl (by decide) ?_
          refine X.reti (zi252 58) rfl t252 ?_
          exact hQ (-1) (by first | trivial | omega) (Eq.trans (if_neg h502c) (Eq.trans (if_pos h505c) (Eq.trans (if_neg h508) (Eq.trans (if_pos h511c) rfl)))) 
        · have h511c : ¬ a2 < 0 := by omega
          clear h511 hz510
          refine X.lload_n 7 (zi204 6) rfl rfl rfl ?_
          refine X.lload 9 (zi204 7) rfl rfl rfl ?_
          refine X.lcmp 10 (zi204 9) rfl rfl (fun z513 hz513 => ?_)
          refine X.ifgt 17 13 (zi204 10) rfl rfl rfl (fun h514 => ?_) (fun h514 => ?_)
          · have h514c : ¬ a2 ≤ ((m 4 45 (287 + a1)) - 1) := by omega
            clear h514 hz513
            refine X.cut [] (zi204 17) rfl ?_
            refine X.iconst 18 (zi204 17) rfl rfl (by decide) ?_
            refine X.retz (zi204 18) rfl t204 (by omega) ?_
            show X (EE s) d 252 44 [(0, zr 4 44), (1, zi a1), (2, zi a2), (3, zi a3)] [zi 0] m _
            refine X.ifeq 57 47 (zi252 44) rfl rfl rfl (fun h515 => ?_) (fun h515 => (by exfalso; omega))
            refine X.cut [] (zi252 57) rfl ?_
            refine X.iconst 58 (zi252 57) rfl rfl (by decide) ?_
            refine X.reti (zi252 58) rfl t252 ?_
            exact hQ (-1) (by first | trivial | omega) (Eq.trans (if_neg h502c) (Eq.trans (if_pos h505c) (Eq.trans (if_neg h508) (Eq.trans (if_neg h511c) (Eq.trans (if_neg h514c) rfl))))) 
          · have h514c : a2 ≤ ((m 4 45 (287 + a1)) - 1) := by omega
            clear h514 hz513
            refine X.iconst 14 (zi204 13) rfl rfl (by decide) ?_
            refine X.goto 18 (zi204 14) rfl rfl ?_
            refine X.cut [] (zi204 18) rfl ?_
            refine X.retz (zi204 18) rfl t204 (by omega) ?_
            show X (EE s) d 252 44 [(0, zr 4 44), (1, zi a1), (2, zi a2), (3, zi a3)] [zi 1] m _
            refine X.ifeq 57 47 (zi252 44) rfl rfl rfl (fun h516 => (by exfalso; omega)) (fun h516 => ?_)
            refine X.iload_n 48 (zi252 47) rfl rfl rfl ?_
            refine X.i2l 49 (zi252 48) rfl rfl ?_
            refine X.lconst (y := 0) 50 (zi252 49) rfl rfl rfl ?_
            refine X.lconst (y := 1) 51 (zi252 50) rfl rfl rfl ?_
            refine X.calls 54 [zl a3, zl 0, zl 1] [] [(0, zl a3), (2, zl 0), (4, zl 1)] (zi252 51) (by decide) rfl rfl (by omega) rfl rfl t204 (Nat.le_of_ble_eq_true rfl) (Nat.le_of_ble_eq_true rfl) rfl ?_
            refine X.lload_n 1 (zi204 0) rfl rfl rfl ?_
            refine X.lload_n 2 (zi204 1) rfl rfl rfl ?_
            refine X.lcmp 3 (zi204 2) rfl rfl (fun z517 hz517 => ?_)
            refine X.iflt 17 6 (zi204 3) rfl rfl rfl (fun h518 => ?_) (fun h518 => ?_)
            · have h518c : a3 < 0 := by omega
              clear h518 hz517
              refine X.cut [] (zi204 17) rfl ?_
              refine X.iconst 18 (zi204 17) rfl rfl (by decide) ?_
              refine X.retz (zi204 18) rfl t204 (by omega) ?_
              show X (EE s) d 252 54 [(0, zr 4 44), (1, zi a1), (2, zi a2), (3, zi a3)] [zi 0] m _
              refine X.ifne 59 57 (zi252 54) rfl rfl rfl (fun h519 => (by exfalso; omega)) (fun h519 => ?_)
              refine X.cut [] (zi252 57) rfl ?_
              refine X.iconst 58 (zi252 57) rfl rfl (by decide) ?_
              refine X.reti (zi252 58) rfl t252 ?_
              exact hQ (-1) (by first | trivial | omega) (Eq.trans (if_neg h502c) (Eq.trans (if_pos h505c) (Eq.trans (if_neg h508) (Eq.trans (if_neg h511c) (Eq.trans (if_pos h514c) (Eq.trans (if_pos h518c) rfl)))))) 
            · have h518c : ¬ a3 < 0 := by omega
              clear h518 hz517
              refine X.lload_n 7 (zi204 6) rfl rfl rfl ?_
              refine X.lload 9 (zi204 7) rfl rfl rfl ?_
              refine X.lcmp 10 (zi204 9) rfl rfl (fun z520 hz520 => ?_)
              refine X.ifgt 17 13 (zi204 10) rfl rfl rfl (fun h521 => ?_) (fun h521 => ?_)
              · have h521c : ¬ a3 ≤ 1 := by omega
                clear h521 hz520
                refine X.cut [] (zi204 17) rfl ?_
                refine X.iconst 18 (zi204 17) rfl rfl (by decide) ?_
                refine X.retz (zi204 18) rfl t204 (by omega) ?_
                show X (EE s) d 252 54 [(0, zr 4 44), (1, zi a1), (2, zi a2), (3, zi a3)] [zi 0] m _
                refine X.ifne 59 57 (zi252 54) rfl rfl rfl (fun h522 => (by exfalso; omega)) (fun h522 => ?_)
                refine X.cut [] (zi252 57) rfl ?_
                refine X.iconst 58 (zi252 57) rfl rfl (by decide) ?_
                refine X.reti (zi252 58) rfl t252 ?_
                exact hQ (-1) (by first | trivial | omega) (Eq.trans (if_neg h502c) (Eq.trans (if_pos h505c) (Eq.trans (if_neg h508) (Eq.trans (if_neg h511c) (Eq.trans (if_pos h514c) (Eq.trans (if_neg h518c) (Eq.trans (if_neg h521c) rfl))))))) 
              · have h521c : a3 ≤ 1 := by omega
                clear h521 hz520
                refine X.iconst 14 (zi204 13) rfl rfl (by decide) ?_
                refine X.goto 18 (zi204 14) rfl rfl ?_
                refine X.cut [] (zi204 18) rfl ?_
                refine X.retz (zi204 18) rfl t204 (by omega) ?_
                show X (EE s) d 252 54 [(0, zr 4 44), (1, zi a1), (2, zi a2), (3, zi a3)] [zi 1] m _
                refine X.ifne 59 57 (zi252 54) rfl rfl rfl (fun h523 => ?_) (fun h523 => (by exfalso; omega))
                refine X.aload_n 60 (zi252 59) rfl rfl rfl ?_
                refine X.getF 63 (zi252 60) rfl rfl (by decide) rfl rfl ?_
                refine X.iload_n 64 (zi252 63) rfl rfl rfl ?_
                refine X.ifne 73 67 (zi252 64) rfl rfl rfl (fun h524 => ?_) (fun h524 => ?_)
                · refine X.cut [(1, zi a1), (2, zi a2)] (zi252 73) rfl ?_
                  refine X.sipush 76 (zi252 73) rfl rfl (by decide) ?_
                  refine X.bipush 78 (zi252 76) rfl rfl (by decide) ?_
                  refine X.iload_n 79 (zi252 78) rfl rfl rfl ?_
                  refine X.imul 80 (zi252 79) rfl rfl (by omega) ?_
                  refine X.iadd 81 (zi252 80) rfl rfl (by omega) ?_
                  refine X.iload_n 82 (zi252 81) rfl rfl rfl ?_
                  refine X.iadd 83 (zi252 82) rfl rfl (by omega) ?_
                  refine X.lald 84 (zi252 83) rfl rfl (by decide) rfl (by omega) ?_
                  have h525 := r45_343 hJ 4 (i := ((343 + (6 * a1)) + a2)) (by omega)
                  refine X.l2i 85 (zi252 84) rfl rfl (by omega) ?_
                  refine X.reti (zi252 85) rfl t252 ?_
                  exact hQ (m 4 45 ((343 + (6 * a1)) + a2)) (by first | trivial | omega) (Eq.trans (if_neg h502c) (Eq.trans (if_pos h505c) (Eq.trans (if_neg h508) (Eq.trans (if_neg h511c) (Eq.trans (if_pos h514c) (Eq.trans (if_neg h518c) (Eq.trans (if_pos h521c) (Eq.trans (if_neg h524) rfl)))))))) 
                · refine X.sipush 70 (zi252 67) rfl rfl (by decide) ?_
                  refine X.goto 76 (zi252 70) rfl rfl ?_
                  refine X.cut [(1, zi a1), (2, zi a2)] (zi252 76) rfl ?_
                  refine X.bipush 78 (zi252 76) rfl rfl (by decide) ?_
                  refine X.iload_n 79 (zi252 78) rfl rfl rfl ?_
                  refine X.imul 80 (zi252 79) rfl rfl (by omega) ?_
                  refine X.iadd 81 (zi252 80) rfl rfl (by omega) ?_
                  refine X.iload_n 82 (zi252 81) rfl rfl rfl ?_
                  refine X.iadd 83 (zi252 82) rfl rfl (by omega) ?_
                  refine X.lald 84 (zi252 83) rfl rfl (by decide) rfl (by omega) ?_
                  have h526 := r45_295 hJ 4 (i := ((295 + (6 * a1)) + a2)) (by omega)
                  refine X.l2i 85 (zi252 84) rfl rfl (by omega) ?_
                  refine X.reti (zi252 85) rfl t252 ?_
                  exact hQ (m 4 45 ((295 + (6 * a1)) + a2)) (by first | trivial | omega) (Eq.trans (if_neg h502c) (Eq.trans (if_pos h505c) (Eq.trans (if_neg h508) (Eq.trans (if_neg h511c) (Eq.trans (if_pos h514c) (Eq.trans (if_neg h518c) (Eq.trans (if_pos h521c) (Eq.trans (if_pos h524) rfl)))))))) 
      · refine X.aload_n 15 (zi252 14) rfl rfl rfl ?_
        refine X.getF 18 (zi252 15) rfl rfl (by decide) rfl rfl ?_
        refine X.sipush 21 (zi252 18) rfl rfl (by decide) ?_
        refine X.iload_n 22 (zi252 21) rfl rfl rfl ?_
        refine X.iadd 23 (zi252 22) rfl rfl (by omega) ?_
        refine X.lald 24 (zi252 23) rfl rfl (by decide) rfl (by omega) ?_
        have h527 := r45_287 hJ 4 (i := (287 + a1)) (by omega)
        refine X.l2i 25 (zi252 24) rfl rfl (by omega) ?_
        refine X.reti (zi252 25) rfl t252 ?_
        exact hQ (m 4 45 (287 + a1)) (by first | trivial | omega) (Eq.trans (if_neg h502c) (Eq.trans (if_pos h505c) (Eq.trans (if_pos h508) rfl))) 
noncomputable def fl153_36_1_b (self : Int → Int → Int) (k59 : Int → Int → Int) (k76 : Int) (g0 : Nat) (y2 y3 : Int) (m : zM) (y4 y5 : Int) : Int :=
  if 105 ≤ y5 then
  (k76)
  else
  (if y2 < y4 then
  (k76)
  else
  (zn (f27_1 g0 y4 m) fun v514 =>
  if v514 = y3 then
  (zn (f37_1 g0 y4 m) fun v518 =>
  self v518 (y5 + 1))
  else
  (k59 y4 y5)))
noncomputable def fl153_36_1 (k59 : Int → Int → Int) (k76 : Int) (g0 : Nat) (y2 y3 : Int) (m : zM) : Nat → Int → Int → Int
  | 0 => fun y4 y5 => 0
  | n + 1 => fl153_36_1_b (fl153_36_1 k59 k76 g0 y2 y3 m n) k59 k76 g0 y2 y3 m
theorem l153_36_1 {s : Nat × (Nat → Int32)} {S : zS} {m0 : zM} {m : zM} {B : Int} {d : Nat} {Q : Option zV → zM → Prop} {R0 : Int} {k59 : Int → Int → Int} {k76 : Int} (g0 : Nat) (y2 y3 : Int) (hd : 16 ≤ d) (hJ : J S m0 B m) (hB9 : B ≤ 1000000000) (hy2 : 1295999 ≤ y2 ∧ y2 ≤ 2000000000) (hy3 : 0 ≤ y3 ∧ y3 ≤ 3)
    (K59 : ∀ (x4 x5 : Int) , (0 ≤ x4 ∧ x4 ≤ 2000000000) → (0 ≤ x5 ∧ x5 ≤ 104) → R0 = k59 x4 x5 → X (EE s) d 153 59 [(0, zr g0 11), (2, zi y2), (3, zi y3), (4, zi x4), (5, zi x5)] [] m Q)
    (K76 : R0 = k76 → X (EE s) d 153 76 [] [] m Q) :
    ∀ (n : Nat) (y4 y5 : Int) , (0 ≤ y4 ∧ y4 ≤ 2000246400) → (0 ≤ y5 ∧ y5 ≤ 105) → 105 - y5 < (n : Int) → R0 = fl153_36_1 k59 k76 g0 y2 y3 m n y4 y5 → X (EE s) d 153 36 [(0, zr g0 11), (2, zi y2), (3, zi y3), (4, zi y4), (5, zi y5)] [] m Q := by
  intro n
  induction n with
  | zero =>
    intro y4 y5 hy4 hy5 hn hR
    exfalso
    omega
  | succ n ih =>
    intro y4 y5 hy4 hy5 hn hR
    replace hR : R0 = fl153_36_1_b (fl153_36_1 k59 k76 g0 y2 y3 m n) k59 k76 g0 y2 y3 m y4 y5 := hR
    refine X.iload 38 (zi153 36) rfl rfl rfl ?_
    refine X.bipush 40 (zi153 38) rfl rfl (by decide) ?_
    refine X.icmpge 76 43 (zi153 40) rfl rfl rfl (fun h510 => ?_) (fun h510 => ?_)
    · refine X.cut [] (zi153 76) rfl ?_
      exact K76   (Eq.trans hR (Eq.trans (if_pos h510) rfl))
    · refine X.iload 45 (zi153 43) rfl rfl rfl ?_
      refine X.iload_n 46 (zi153 45) rfl rfl rfl ?_
      refine X.icmpgt 76 49 (zi153 46) rfl rfl rfl (fun h511 => ?_) (fun h511 => ?_)
      · refine X.cut [] (zi153 76) rfl ?_
        exact K76   (Eq.trans hR (Eq.trans (if_neg h510) (Eq.trans (if_pos h511) rfl)))
      · refine X.aload_n 50 (zi153 49) rfl rfl rfl ?_
        refine X.iload 52 (zi153 50) rfl rfl rfl ?_
        refine X.callv 55 [zi y4] [] [(0, zr g0 11), (1, zi y4)] (zi153 52) rfl (by decide) rfl rfl (by omega) rfl rfl (by decide) rfl t27 (Nat.le_of_ble_eq_true rfl) (Nat.le_of_ble_eq_true rfl) rfl ?_
        refine c27_1 (B := B) g0 y4 (by omega) (hJ.up (by omega)) (by omega) (by omega) (fun v514 hv514 hFv514 => ?_)
        show X (EE s) d 153 55 [(0, zr g0 11), (2, zi y2), (3, zi y3), (4, zi y4), (5, zi y5)] [zi v514] m _
        refine X.iload_n 56 (zi153 55) rfl rfl rfl ?_
        refine X.icmpeq 62 59 (zi153 56) rfl rfl rfl (fun h515 => ?_) (fun h515 => ?_)
        · refine X.aload_n 63 (zi153 62) rfl rfl rfl ?_
          refine X.iload 65 (zi153 63) rfl rfl rfl ?_
          refine X.callv 68 [zi y4] [] [(0, zr g0 11), (1, zi y4)] (zi153 65) rfl (by decide) rfl rfl (by omega) rfl rfl (by decide) rfl t37 (Nat.le_of_ble_eq_true rfl) (Nat.le_of_ble_eq_true rfl) rfl ?_
          refine c37_1 (B := B) g0 y4 (by omega) (hJ.up (by omega)) (by omega) (by omega) (fun v518 hv518 hFv518 hqv518_0 => ?_)
          show X (EE s) d 153 68 [(0, zr g0 11), (2, zi y2), (3, zi y3), (4, zi y4), (5, zi y5)] [zi v518] m _
          refine X.istore 70 [(0, zr g0 11), (2, zi y2), (3, zi y3), (4, zi v518), (5, zi y5)] (zi153 68) rfl rfl rfl ?_
          refine X.iinc 73 [(0, zr g0 11), (2, zi y2), (3, zi y3), (4, zi v518), (5, zi (y5 + 1))] (zi153 70) rfl rfl rfl (by omega) rfl ?_
          refine X.goto 36 (zi153 73) rfl rfl ?_
          exact ih v518 (y5 + 1) (by omega) (by omega) (by omega) (Eq.trans hR (Eq.trans (if_neg h510) (Eq.trans (if_neg h511) (Eq.trans (zn_eq hFv514.symm) (Eq.trans (if_pos h515) (Eq.trans (zn_eq hFv518.symm) rfl))))))
        · exact K59 y4 y5 (by first | trivial | omega) (by first | trivial | omega) (Eq.trans hR (Eq.trans (if_neg h510) (Eq.trans (if_neg h511) (Eq.trans (zn_eq hFv514.symm) (Eq.trans (if_neg h515) rfl)))))
-- WorkMeter$Calendar.changeAfter
noncomputable def f153_1 (g0 : Nat) (a1 : Int) (m : zM) : Int :=
  zn (f27_1 g0 a1 m) fun v503 =>
  zn (f37_1 g0 a1 m) fun v506 =>
  fl153_36_1 (fun y507 y508 =>
  y507) ((-1)) g0 (min (((((a1 / 86400) + 14) + 1) * 86400) - 1) 2000000000) v503 m (zfu 106) v506 0
-- WorkMeter$Calendar.changeAfter
theorem c153_1 {s : Nat × (Nat → Int32)} {S : zS} {m0 m : zM} {B : Int} {d : Nat} {Q : Option zV → zM → Prop} (g0 : Nat) (a1 : Int) (hd : 16 ≤ d) (hJ : J S m0 B m) (hB : B + 0 ≤ 1000000000) (ha1 : 0 ≤ a1 ∧ a1 ≤ 2000000000) (hQ : ∀ (v : Int), ((-1) ≤ v ∧ v ≤ 2000000000) → f153_1 g0 a1 m = v → Q (some (zi v)) m) : X (EE s) d 153 0 [(0, zr g0 11), (1, zi a1)] [] m Q := by
  refine X.iload_n 1 (zi153 0) rfl rfl rfl ?_
  refine X.ldc 3 (zi153 1) rfl rfl (by decide) ?_
  refine X.idiv 4 (zi153 3) rfl rfl (by omega) ?_
  refine X.bipush 6 (zi153 4) rfl rfl (by decide) ?_
  refine X.iadd 7 (zi153 6) rfl rfl (by omega) ?_
  refine X.iconst 8 (zi153 7) rfl rfl (by decide) ?_
  refine X.iadd 9 (zi153 8) rfl rfl (by omega) ?_
  refine X.ldc 11 (zi153 9) rfl rfl (by decide) ?_
  refine X.imul 12 (zi153 11) rfl rfl (by omega) ?_
  refine X.iconst 13 (zi153 12) rfl rfl (by decide) ?_
  refine X.isub 14 (zi153 13) rfl rfl (by omega) ?_
  refine X.ldc 16 (zi153 14) rfl rfl (by decide) ?_
  refine X.minI 19 (zi153 16) rfl rfl (by omega) (Nat.le_of_ble_eq_true rfl) ?_
  refine X.istore_n 20 [(0, zr g0 11), (1, zi a1), (2, zi (min (((((a1 / 86400) + 14) + 1) * 86400) - 1) 2000000000))] (zi153 19) rfl rfl rfl ?_
  refine X.aload_n 21 (zi153 20) rfl rfl rfl ?_
  refine X.iload_n 22 (zi153 21) rfl rfl rfl ?_
  refine X.callv 25 [zi a1] [] [(0, zr g0 11), (1, zi a1)] (zi153 22) rfl (by decide) rfl rfl (by omega) rfl rfl (by decide) rfl t27 (Nat.le_of_ble_eq_true rfl) (Nat.le_of_ble_eq_true rfl) rfl ?_
  refine c27_1 (B := B) g0 a1 (by omega) (hJ.up (by omega)) (by omega) (by omega) (fun v503 hv503 hFv503 => ?_)
  show X (EE s) d 153 25 [(0, zr g0 11), (1, zi a1), (2, zi (min (((((a1 / 86400) + 14) + 1) * 86400) - 1) 2000000000))] [zi v503] m _
  refine X.istore_n 26 [(0, zr g0 11), (1, zi a1), (2, zi (min (((((a1 / 86400) + 14) + 1) * 86400) - 1) 2000000000)), (3, zi v503)] (zi153 25) rfl rfl rfl ?_
  refine X.aload_n 27 (zi153 26) rfl rfl rfl ?_
  refine X.iload_n 28 (zi153 27) rfl rfl rfl ?_
  refine X.callv 31 [zi a1] [] [(0, zr g0 11), (1, zi a1)] (zi153 28) rfl (by decide) rfl rfl (by omega) rfl rfl (by decide) rfl t37 (Nat.le_of_ble_eq_true rfl) (Nat.le_of_ble_eq_true rfl) rfl ?_
  refine c37_1 (B := B) g0 a1 (by omega) (hJ.up (by omega)) (by omega) (by omega) (fun v506 hv506 hFv506 hqv506_0 => ?_)
  show X (EE s) d 153 31 [(0, zr g0 11), (1, zi a1), (2, zi (min (((((a1 / 86400) + 14) + 1) * 86400) - 1) 2000000000)), (3, zi v503)] [zi v506] m _
  refine X.istore 33 [(0, zr g0 11), (1, zi a1), (2, zi (min (((((a1 / 86400) + 14) + 1) * 86400) - 1) 2000000000)), (3, zi v503), (4, zi v506)] (zi153 31) rfl rfl rfl ?_
  refine X.iconst 34 (zi153 33) rfl rfl (by decide) ?_
  refine X.istore 36 [(0, zr g0 11), (1, zi a1), (2, zi (min (((((a1 / 86400) + 14) + 1) * 86400) - 1) 2000000000)), (3, zi v503), (4, zi v506), (5, zi 0)] (zi153 34) rfl rfl rfl ?_
  refine X.cut [(0, zr g0 11), (2, zi (min (((((a1 / 86400) + 14) + 1) * 86400) - 1) 2000000000)), (3, zi v503), (4, zi v506), (5, zi 0)] (zi153 36) rfl ?_
  have hz106 := zfu_eq 106
  refine l153_36_1 (s := s) (m := m) (B := B) (d := d) (R0 := (f153_1 g0 a1 m)) g0 (min (((((a1 / 86400) + 14) + 1) * 86400) - 1) 2000000000) v503  (by omega) (hJ.up (by omega)) (by omega) (by omega) (by omega) (fun y507 y508 hby507 hby508 hR512 => ?_) (fun  hR516 => ?_) (zfu 106) v506 0 (by omega) (by omega) (by omega) (Eq.trans (zn_eq hFv503.symm) (Eq.trans (zn_eq hFv506.symm) rfl))
  · refine X.iload 61 (zi153 59) rfl rfl rfl ?_
    refine X.reti (zi153 61) rfl t153 ?_
    exact hQ y507 (by first | trivial | omega) (Eq.trans hR512 rfl) 
  · refine X.iconst 77 (zi153 76) rfl rfl (by decide) ?_
    refine X.reti (zi153 77) rfl t153 ?_
    exact hQ (-1) (by first | trivial | omega) (Eq.trans hR516 rfl) 
-- WorkMeter.next
noncomputable def f152_1 (a1 : Int) (m : zM) : Int :=
  if a1 < 0 then
  ((-1))
  else
  (if a1 ≤ 1 then
  (zn (f153_1 0 (m 0 8 9) m) fun v506 =>
  if v506 = (-1) then
  (v506)
  else
  (if a1 = 0 then
  (v506)
  else
  (zn (f27_1 0 v506 m) fun v511 =>
  v511)))
  else
  ((-1)))
-- WorkMeter.next
theorem c152_1 {s : Nat × (Nat → Int32)} {S : zS} {m0 m : zM} {B : Int} {d : Nat} {Q : Option zV → zM → Prop} (a1 : Int) (hd : 17 ≤ d) (hJ : J S m0 B m) (hB : B + 0 ≤ 1000000000) (ha1 : (-2147483648) ≤ a1 ∧ a1 ≤ 2147483647) (hQ : ∀ (v : Int), ((-1) ≤ v ∧ v ≤ 2000000000) → f152_1 a1 m = v → Q (some (zi v)) m) : X (EE s) d 152 0 [(0, zr 4 40), (1, zi a1)] [] m Q := by
  refine X.iload_n 1 (zi152 0) rfl rfl rfl ?_
  refine X.iflt 9 4 (zi152 1) rfl rfl rfl (fun h501 => ?_) (fun h501 => ?_)
  · refine X.cut [] (zi152 9) rfl ?_
    refine X.iconst 10 (zi152 9) rfl rfl (by decide) ?_
    refine X.reti (zi152 10) rfl t152 ?_
    exact hQ (-1) (by first | trivial | omega) (Eq.trans (if_pos h501) rfl) 
  · refine X.iload_n 5 (zi152 4) rfl rfl rfl ?_
    refine X.iconst 6 (zi152 5) rfl rfl (by decide) ?_
    refine X.icmple 11 9 (zi152 6) rfl rfl rfl (fun h502 => ?_) (fun h502 => ?_)
    · refine X.aload_n 12 (zi152 11) rfl rfl rfl ?_
      refine X.getF 15 (zi152 12) rfl rfl (by decide) rfl rfl ?_
      refine X.getR 18 (zi152 15) rfl rfl (by decide) rfl rfl ?_
      refine X.aload_n 19 (zi152 18) rfl rfl rfl ?_
      refine X.getF 22 (zi152 19) rfl rfl (by decide) rfl rfl ?_
      refine X.getI 25 9 (zi152 22) rfl rfl (by decide) rfl rfl rfl ?_
      have h503 := r8_9 hJ 0
      refine X.callv 28 [zi (m 0 8 9)] [] [(0, zr 0 11), (1, zi (m 0 8 9))] (zi152 25) rfl (by decide) rfl rfl (by omega) rfl rfl (by decide) rfl t153 (Nat.le_of_ble_eq_true rfl) (Nat.le_of_ble_eq_true rfl) rfl ?_
      refine c153_1 (B := B) 0 (m 0 8 9) (by omega) (hJ.up (by omega)) (by omega) (by omega) (fun v506 hv506 hFv506 => ?_)
      show X (EE s) d 152 28 [(0, zr 4 40), (1, zi a1)] [zi v506] m _
      refine X.istore_n 29 [(0, zr 4 40), (1, zi a1), (2, zi v506)] (zi152 28) rfl rfl rfl ?_
      refine X.iload_n 30 (zi152 29) rfl rfl rfl ?_
      refine X.iconst 31 (zi152 30) rfl rfl (by decide) ?_
      refine X.icmpeq 38 34 (zi152 31) rfl rfl rfl (fun h507 => ?_) (fun h507 => ?_)
      · refine X.cut [(2, zi v506)] (zi152 38) rfl ?_
        refine X.iload_n 39 (zi152 38) rfl rfl rfl ?_
        refine X.reti (zi152 39) rfl t152 ?_
        exact hQ v506 (by first | trivial | omega) (Eq.trans (if_neg h501) (Eq.trans (if_pos h502) (Eq.trans (zn_eq hFv506.symm) (Eq.trans (if_pos h507) rfl)))) 
      · refine X.iload_n 35 (zi152 34) rfl rfl rfl ?_
        refine X.ifne 40 38 (zi152 35) rfl rfl rfl (fun h508 => ?_) (fun h508 => ?_)
        · refine X.cut [(0, zr 4 40), (2, zi v506)] (zi152 40) rfl ?_
          refine X.aload_n 41 (zi152 40) rfl rfl rfl ?_
          refine X.getF 44 (zi152 41) rfl rfl (by decide) rfl rfl ?_
          refine X.getR 47 (zi152 44) rfl rfl (by decide) rfl rfl ?_
          refine X.iload_n 48 (zi152 47) rfl rfl rfl ?_
          refine X.callv 51 [zi v506] [] [(0, zr 0 11), (1, zi v506)] (zi152 48) rfl (by decide) rfl rfl (by omega) rfl rfl (by decide) rfl t27 (Nat.le_of_ble_eq_true rfl) (Nat.le_of_ble_eq_true rfl) rfl ?_
          refine c27_1 (B := B) 0 v506 (by omega) (hJ.up (by omega)) (by omega) (by omega) (fun v511 hv511 hFv511 => ?_)
          show X (EE s) d 152 51 [(0, zr 4 40), (2, zi v506)] [zi v511] m _
          refine X.reti (zi152 51) rfl t152 ?_
          exact hQ v511 (by first | trivial | omega) (Eq.trans (if_neg h501) (Eq.trans (if_pos h502) (Eq.trans (zn_eq hFv506.symm) (Eq.trans (if_neg h507) (Eq.trans (if_neg h508) (Eq.trans (zn_eq hFv511.symm) rfl)))))) 
        · refine X.cut [(2, zi v506)] (zi152 38) rfl ?_
          refine X.iload_n 39 (zi152 38) rfl rfl rfl ?_
          refine X.reti (zi152 39) rfl t152 ?_
          exact hQ v506 (by first | trivial | omega) (Eq.trans (if_neg h501) (Eq.trans (if_pos h502) (Eq.trans (zn_eq hFv506.symm) (Eq.trans (if_neg h507) (Eq.trans (if_pos h508) rfl))))) 
    · refine X.cut [] (zi152 9) rfl ?_
      refine X.iconst 10 (zi152 9) rfl rfl (by decide) ?_
      refine X.reti (zi152 10) rfl t152 ?_
      exact hQ (-1) (by first | trivial | omega) (Eq.trans (if_neg h501) (Eq.trans (if_neg h502) rfl)) 
-- WorkMeterModel.tableAt
theorem c218_2 {s : Nat × (Nat → Int32)} {S : zS} {m0 m : zM} {B : Int} {d : Nat} {Q : Option zV → zM → Prop} (a1 : Int) (hd : 14 ≤ d) (hJ : J S m0 B m) (hB : B + 0 ≤ 1000000000) (ha1 : 0 ≤ a1 ∧ a1 ≤ 23150) (hQ : ∀ (v : Int), (0 ≤ v ∧ v ≤ 7) → f218_1 a1 m = v → Q (some (zi v)) m) : X (EE s) d 218 0 [(0, zr 4 44), (1, zi a1)] [] m Q := by
  refine X.iload_n 1 (zi218 0) rfl rfl rfl ?_
  refine X.sipush 4 (zi218 1) rfl rfl (by decide) ?_
  refine X.irem 5 (zi218 4) rfl rfl (by omega) ?_
  refine X.istore_n 6 [(0, zr 4 44), (1, zi a1), (2, zi (a1 % 365))] (zi218 5) rfl rfl rfl ?_
  refine X.aload_n 7 (zi218 6) rfl rfl rfl ?_
  refine X.getF 10 (zi218 7) rfl rfl (by decide) rfl rfl ?_
  refine X.sipush 13 (zi218 10) rfl rfl (by decide) ?_
  refine X.iload_n 14 (zi218 13) rfl rfl rfl ?_
  refine X.iadd 15 (zi218 14) rfl rfl (by omega) ?_
  refine X.lald 16 (zi218 15) rfl rfl (by decide) rfl (by omega) ?_
  have h501 := r45_423 hJ 4 (i := (423 + (a1 % 365))) (by omega)
  refine X.ldc2 19 (zi218 16) rfl rfl (by decide) ?_
  refine X.lcmp 20 (zi218 19) rfl rfl (fun z502 hz502 => ?_)
  refine X.ifeq 35 23 (zi218 20) rfl rfl rfl (fun h503 => ?_) (fun h503 => ?_)
  · have h503c : (m 4 45 (423 + (a1 % 365))) = (-1) := by omega
    clear h503 hz502
    refine X.aload_n 36 (zi218 35) rfl rfl rfl ?_
    refine X.getF 39 (zi218 36) rfl rfl (by decide) rfl rfl ?_
    refine X.sipush 42 (zi218 39) rfl rfl (by decide) ?_
    refine X.bipush 44 (zi218 42) rfl rfl (by decide) ?_
    refine X.aload_n 45 (zi218 44) rfl rfl rfl ?_
    refine X.iload_n 46 (zi218 45) rfl rfl rfl ?_
    refine X.callv 49 [zi (a1 % 365)] [zi 7, zi 395, zr 4 45] [(0, zr 4 44), (1, zi (a1 % 365))] (zi218 46) rfl (by decide) rfl rfl (by omega) rfl rfl (by decide) rfl t219 (Nat.le_of_ble_eq_true rfl) (Nat.le_of_ble_eq_true rfl) rfl ?_
    refine c219_1 (B := B)  (a1 % 365) (by omega) (hJ.up (by omega)) (by omega) (by omega) (fun v506 hv506 hFv506 => ?_)
    show X (EE s) d 218 49 [(0, zr 4 44), (1, zi a1), (2, zi (a1 % 365))] [zi v506, zi 7, zi 395, zr 4 45] m _
    refine X.imul 50 (zi218 49) rfl rfl (by omega) ?_
    refine X.iadd 51 (zi218 50) rfl rfl (by omega) ?_
    refine X.iload_n 52 (zi218 51) rfl rfl rfl ?_
    refine X.bipush 54 (zi218 52) rfl rfl (by decide) ?_
    refine X.irem 55 (zi218 54) rfl rfl (by omega) ?_
    refine X.iadd 56 (zi218 55) rfl rfl (by omega) ?_
    refine X.lald 57 (zi218 56) rfl rfl (by decide) rfl (by omega) ?_
    have h507 := r45_395 hJ 4 (i := ((395 + (7 * v506)) + (a1 % 7))) (by omega)
    refine X.l2i 58 (zi218 57) rfl rfl (by omega) ?_
    refine X.reti (zi218 58) rfl t218 ?_
    exact hQ (m 4 45 ((395 + (7 * v506)) + (a1 % 7))) (by first | trivial | omega) (Eq.trans (if_pos h503c) (Eq.trans (zn_eq hFv506.symm) rfl)) 
  · have h503c : ¬ (m 4 45 (423 + (a1 % 365))) = (-1) := by omega
    clear h503 hz502
    refine X.aload_n 24 (zi218 23) rfl rfl rfl ?_
    refine X.getF 27 (zi218 24) rfl rfl (by decide) rfl rfl ?_
    refine X.sipush 30 (zi218 27) rfl rfl (by decide) ?_
    refine X.iload_n 31 (zi218 30) rfl rfl rfl ?_
    refine X.iadd 32 (zi218 31) rfl rfl (by omega) ?_
    refine X.lald 33 (zi218 32) rfl rfl (by decide) rfl (by omega) ?_
    refine X.l2i 34 (zi218 33) rfl rfl (by omega) ?_
    refine X.reti (zi218 34) rfl t218 ?_
    exact hQ (m 4 45 (423 + (a1 % 365))) (by first | trivial | omega) (Eq.trans (if_neg h503c) rfl) 
noncomputable def fl255_45_1_b (self : Int → Int) (k136 : Int → Int → Int) (k146 : Int) (y1 y2 y3 : Int) (m : zM) (y4 : Int) : Int :=
  if y4 < (m 4 45 (287 + y3)) then
  (zn (if 0 ≤ y4 then
  ((m 4 45 ((295 + (6 * y3)) + y4)))
  else
  (0)) fun v530 =>
  if ((y2 * 86400) + v530) ≤ (m 4 45 0) then
  (self (y4 + 1))
  else
  (if ((y2 * 86400) + v530) ≤ 2000000000 then
  (zn (f217_1 ((y2 * 86400) + v530) m) fun v542 =>
  zn (f217_1 (((y2 * 86400) + v530) - 1) m) fun v545 =>
  if v542 = v545 then
  (self (y4 + 1))
  else
  (k136 y4 ((y2 * 86400) + v530)))
  else
  (self (y4 + 1))))
  else
  (k146)
noncomputable def fl255_45_1 (k136 : Int → Int → Int) (k146 : Int) (y1 y2 y3 : Int) (m : zM) : Nat → Int → Int
  | 0 => fun y4 => 0
  | n + 1 => fl255_45_1_b (fl255_45_1 k136 k146 y1 y2 y3 m n) k136 k146 y1 y2 y3 m
theorem l255_45_1 {s : Nat × (Nat → Int32)} {S : zS} {m0 : zM} {m : zM} {B : Int} {d : Nat} {Q : Option zV → zM → Prop} {R0 : Int} {k136 : Int → Int → Int} {k146 : Int} (y1 y2 y3 : Int) (hd : 16 ≤ d) (hJ : J S m0 B m) (hB9 : B ≤ 1000000000) (hy1 : 0 ≤ y1 ∧ y1 ≤ 23148) (hy2 : 0 ≤ y2 ∧ y2 ≤ 23162) (hy3 : 0 ≤ y3 ∧ y3 ≤ 7)
    (K136 : ∀ (x4 x5 : Int) , ((-1) ≤ x4 ∧ x4 ≤ 5) → (1 ≤ x5 ∧ x5 ≤ 2000000000) → R0 = k136 x4 x5 → X (EE s) d 255 136 [(0, zr 4 44), (1, zi y1), (2, zi y2), (3, zi y3), (4, zi x4), (5, zl x5)] [] m Q)
    (K146 : R0 = k146 → X (EE s) d 255 146 [(0, zr 4 44), (1, zi y1), (2, zi y2)] [] m Q) :
    ∀ (n : Nat) (y4 : Int) , ((-1) ≤ y4 ∧ y4 ≤ 6) → 6 - y4 < (n : Int) → R0 = fl255_45_1 k136 k146 y1 y2 y3 m n y4 → X (EE s) d 255 45 [(0, zr 4 44), (1, zi y1), (2, zi y2), (3, zi y3), (4, zi y4)] [] m Q := by
  intro n
  induction n with
  | zero =>
    intro y4 hy4 hn hR
    exfalso
    omega
  | succ n ih =>
    intro y4 hy4 hn hR
    replace hR : R0 = fl255_45_1_b (fl255_45_1 k136 k146 y1 y2 y3 m n) k136 k146 y1 y2 y3 m y4 := hR
    refine X.iload 47 (zi255 45) rfl rfl rfl ?_
    refine X.i2l 48 (zi255 47) rfl rfl ?_
    refine X.aload_n 49 (zi255 48) rfl rfl rfl ?_
    refine X.getF 52 (zi255 49) rfl rfl (by decide) rfl rfl ?_
    refine X.sipush 55 (zi255 52) rfl rfl (by decide) ?_
    refine X.iload_n 56 (zi255 55) rfl rfl rfl ?_
    refine X.iadd 57 (zi255 56) rfl rfl (by omega) ?_
    refine X.lald 58 (zi255 57) rfl rfl (by decide) rfl (by omega) ?_
    have h525 := r45_287 hJ 4 (i := (287 + y3)) (by omega)
    refine X.lcmp 59 (zi255 58) rfl rfl (fun z526 hz526 => ?_)
    refine X.ifge 146 62 (zi255 59) rfl rfl rfl (fun h527 => ?_) (fun h527 => ?_)
    · have h527c : ¬ y4 < (m 4 45 (287 + y3)) := by omega
      clear h527 hz526
      refine X.cut [(0, zr 4 44), (1, zi y1), (2, zi y2)] (zi255 146) rfl ?_
      exact K146   (Eq.trans hR (Eq.trans (if_neg h527c) rfl))
    · have h527c : y4 < (m 4 45 (287 + y3)) := by omega
      clear h527 hz526
      refine X.iload_n 63 (zi255 62) rfl rfl rfl ?_
      refine X.i2l 64 (zi255 63) rfl rfl ?_
      refine X.ldc2 67 (zi255 64) rfl rfl (by decide) ?_
      refine X.lmul 68 (zi255 67) rfl rfl (by omega) ?_
      refine X.iload 70 (zi255 68) rfl rfl rfl ?_
      have hK533 : ∀ (v : Int) , (0 ≤ v ∧ v ≤ 86399) → (if 0 ≤ y4 then
          ((m 4 45 ((295 + (6 * y3)) + y4)))
          else
          (0)) = v → X (EE s) d 255 93 [(0, zr 4 44), (1, zi y1), (2, zi y2), (3, zi y3), (4, zi y4)] [zl v, zl (y2 * 86400)] m Q := by
        intro v530 hv530 hT534
        refine X.ladd 94 (zi255 93) rfl rfl (by omega) ?_
        refine X.lstore 96 [(0, zr 4 44), (1, zi y1), (2, zi y2), (3, zi y3), (4, zi y4), (5, zl ((y2 * 86400) + v530))] (zi255 94) rfl rfl rfl ?_
        refine X.lload 98 (zi255 96) rfl rfl rfl ?_
        refine X.aload_n 99 (zi255 98) rfl rfl rfl ?_
        refine X.getF 102 (zi255 99) rfl rfl (by decide) rfl rfl ?_
        refine X.iconst 103 (zi255 102) rfl rfl (by decide) ?_
        refine X.lald 104 (zi255 103) rfl rfl (by decide) rfl (by omega) ?_
        have h535 := r45_0 hJ 4
        refine X.lcmp 105 (zi255 104) rfl rfl (fun z536 hz536 => ?_)
        refine X.ifle 140 108 (zi255 105) rfl rfl rfl (fun h537 => ?_) (fun h537 => ?_)
        · have h537c : ((y2 * 86400) + v530) ≤ (m 4 45 0) := by omega
          clear h537 hz536
          refine X.cut [(0, zr 4 44), (1, zi y1), (2, zi y2), (3, zi y3), (4, zi y4)] (zi255 140) rfl ?_
          refine X.iinc 143 [(0, zr 4 44), (1, zi y1), (2, zi y2), (3, zi y3), (4, zi (y4 + 1))] (zi255 140) rfl rfl rfl (by omega) rfl ?_
          refine X.goto 45 (zi255 143) rfl rfl ?_
          exact ih (y4 + 1) (by omega) (by omega) (Eq.trans hR (Eq.trans (if_pos h527c) (Eq.trans (zn_eq hT534.symm) (Eq.trans (if_pos h537c) rfl))))
        · have h537c : ¬ ((y2 * 86400) + v530) ≤ (m 4 45 0) := by omega
          clear h537 hz536
          refine X.lload 110 (zi255 108) rfl rfl rfl ?_
          refine X.ldc2 113 (zi255 110) rfl rfl (by decide) ?_
          refine X.lcmp 114 (zi255 113) rfl rfl (fun z538 hz538 => ?_)
          refine X.ifgt 140 117 (zi255 114) rfl rfl rfl (fun h539 => ?_) (fun h539 => ?_)
          · have h539c : ¬ ((y2 * 86400) + v530) ≤ 2000000000 := by omega
            clear h539 hz538
            refine X.cut [(0, zr 4 44), (1, zi y1), (2, zi y2), (3, zi y3), (4, zi y4)] (zi255 140) rfl ?_
            refine X.iinc 143 [(0, zr 4 44), (1, zi y1), (2, zi y2), (3, zi y3), (4, zi (y4 + 1))] (zi255 140) rfl rfl rfl (by omega) rfl ?_
            refine X.goto 45 (zi255 143) rfl rfl ?_
            exact ih (y4 + 1) (by omega) (by omega) (Eq.trans hR (Eq.trans (if_pos h527c) (Eq.trans (zn_eq hT534.symm) (Eq.trans (if_neg h537c) (Eq.trans (if_neg h539c) rfl)))))
          · have h539c : ((y2 * 86400) + v530) ≤ 2000000000 := by omega
            clear h539 hz538
            refine X.aload_n 118 (zi255 117) rfl rfl rfl ?_
            refine X.lload 120 (zi255 118) rfl rfl rfl ?_
            refine X.l2i 121 (zi255 120) rfl rfl (by omega) ?_
            refine X.callv 124 [zi ((y2 * 86400) + v530)] [] [(0, zr 4 44), (1, zi ((y2 * 86400) + v530))] (zi255 121) rfl (by decide) rfl rfl (by omega) rfl rfl (by decide) rfl t217 (Nat.le_of_ble_eq_true rfl) (Nat.le_of_ble_eq_true rfl) rfl ?_
            refine c217_1 (B := B)  ((y2 * 86400) + v530) (by omega) (hJ.up (by omega)) (by omega) (by omega) (fun v542 hv542 hFv542 => ?_)
            show X (EE s) d 255 124 [(0, zr 4 44), (1, zi y1), (2, zi y2), (3, zi y3), (4, zi y4), (5, zl ((y2 * 86400) + v530))] [zi v542] m _
            refine X.aload_n 125 (zi255 124) rfl rfl rfl ?_
            refine X.lload 127 (zi255 125) rfl rfl rfl ?_
            refine X.l2i 128 (zi255 127) rfl rfl (by omega) ?_
            refine X.iconst 129 (zi255 128) rfl rfl (by decide) ?_
            refine X.isub 130 (zi255 129) rfl rfl (by omega) ?_
            refine X.callv 133 [zi (((y2 * 86400) + v530) - 1)] [zi v542] [(0, zr 4 44), (1, zi (((y2 * 86400) + v530) - 1))] (zi255 130) rfl (by decide) rfl rfl (by omega) rfl rfl (by decide) rfl t217 (Nat.le_of_ble_eq_true rfl) (Nat.le_of_ble_eq_true rfl) rfl ?_
            refine c217_1 (B := B)  (((y2 * 86400) + v530) - 1) (by omega) (hJ.up (by omega)) (by omega) (by omega) (fun v545 hv545 hFv545 => ?_)
            show X (EE s) d 255 133 [(0, zr 4 44), (1, zi y1), (2, zi y2), (3, zi y3), (4, zi y4), (5, zl ((y2 * 86400) + v530))] [zi v545, zi v542] m _
            refine X.icmpeq 140 136 (zi255 133) rfl rfl rfl (fun h546 => ?_) (fun h546 => ?_)
            · refine X.cut [(0, zr 4 44), (1, zi y1), (2, zi y2), (3, zi y3), (4, zi y4)] (zi255 140) rfl ?_
              refine X.iinc 143 [(0, zr 4 44), (1, zi y1), (2, zi y2), (3, zi y3), (4, zi (y4 + 1))] (zi255 140) rfl rfl rfl (by omega) rfl ?_
              refine X.goto 45 (zi255 143) rfl rfl ?_
              exact ih (y4 + 1) (by omega) (by omega) (Eq.trans hR (Eq.trans (if_pos h527c) (Eq.trans (zn_eq hT534.symm) (Eq.trans (if_neg h537c) (Eq.trans (if_pos h539c) (Eq.trans (zn_eq hFv542.symm) (Eq.trans (zn_eq hFv545.symm) (Eq.trans (if_pos h546) rfl))))))))
            · exact K136 y4 ((y2 * 86400) + v530) (by first | trivial | omega) (by first | trivial | omega) (Eq.trans hR (Eq.trans (if_pos h527c) (Eq.trans (zn_eq hT534.symm) (Eq.trans (if_neg h537c) (Eq.trans (if_pos h539c) (Eq.trans (zn_eq hFv542.symm) (Eq.trans (zn_eq hFv545.symm) (Eq.trans (if_neg h546) rfl))))))))
      refine X.ifge 77 73 (zi255 70) rfl rfl rfl (fun h528 => ?_) (fun h528 => ?_)
      · refine X.aload_n 78 (zi255 77) rfl rfl rfl ?_
        refine X.getF 81 (zi255 78) rfl rfl (by decide) rfl rfl ?_
        refine X.sipush 84 (zi255 81) rfl rfl (by decide) ?_
        refine X.bipush 86 (zi255 84) rfl rfl (by decide) ?_
        refine X.iload_n 87 (zi255 86) rfl rfl rfl ?_
        refine X.imul 88 (zi255 87) rfl rfl (by omega) ?_
        refine X.iadd 89 (zi255 88) rfl rfl (by omega) ?_
        refine X.iload 91 (zi255 89) rfl rfl rfl ?_
        refine X.iadd 92 (zi255 91) rfl rfl (by omega) ?_
        refine X.lald 93 (zi255 92) rfl rfl (by decide) rfl (by omega) ?_
        have h529 := r45_295 hJ 4 (i := ((295 + (6 * y3)) + y4)) (by omega)
        exact hK533 (m 4 45 ((295 + (6 * y3)) + y4)) (by first | trivial | omega) (Eq.trans (if_pos h528) rfl)
      · refine X.lconst (y := 0) 74 (zi255 73) rfl rfl rfl ?_
        refine X.goto 93 (zi255 74) rfl rfl ?_
        exact hK533 0 (by first | trivial | omega) (Eq.trans (if_neg h528) rfl)
-- WorkMeterModel.tableAt
theorem c218_3 {s : Nat × (Nat → Int32)} {S : zS} {m0 m : zM} {B : Int} {d : Nat} {Q : Option zV → zM → Prop} (a1 : Int) (hd : 14 ≤ d) (hJ : J S m0 B m) (hB : B + 0 ≤ 1000000000) (ha1 : 0 ≤ a1 ∧ a1 ≤ 23150) (hQ : ∀ (v : Int), (0 ≤ v ∧ v ≤ 7) → f218_1 a1 m = v → Q (some (zi v)) m) : X (EE s) d 218 0 [(0, zr 4 44), (1, zi a1)] [] m Q := by
  refine X.iload_n 1 (zi218 0) rfl rfl rfl ?_
  refine X.sipush 4 (zi218 1) rfl rfl (by decide) ?_
  refine X.irem 5 (zi218 4) rfl rfl (by omega) ?_
  refine X.istore_n 6 [(0, zr 4 44), (1, zi a1), (2, zi (a1 % 365))] (zi218 5) rfl rfl rfl ?_
  refine X.aload_n 7 (zi218 6) rfl rfl rfl ?_
  refine X.getF 10 (zi218 7) rfl rfl (by decide) rfl rfl ?_
  refine X.sipush 13 (zi218 10) rfl rfl (by decide) ?_
  refine X.iload_n 14 (zi218 13) rfl rfl rfl ?_
  refine X.iadd 15 (zi218 14) rfl rfl (by omega) ?_
  refine X.lald 16 (zi218 15) rfl rfl (by decide) rfl (by omega) ?_
  have h501 := r45_423 hJ 4 (i := (423 + (a1 % 365))) (by omega)
  refine X.ldc2 19 (zi218 16) rfl rfl (by decide) ?_
  refine X.lcmp 20 (zi218 19) rfl rfl (fun z502 hz502 => ?_)
  refine X.ifeq 35 23 (zi218 20) rfl rfl rfl (fun h503 => ?_) (fun h503 => ?_)
  · have h503c : (m 4 45 (423 + (a1 % 365))) = (-1) := by omega
    clear h503 hz502
    refine X.aload_n 36 (zi218 35) rfl rfl rfl ?_
    refine X.getF 39 (zi218 36) rfl rfl (by decide) rfl rfl ?_
    refine X.sipush 42 (zi218 39) rfl rfl (by decide) ?_
    refine X.bipush 44 (zi218 42) rfl rfl (by decide) ?_
    refine X.aload_n 45 (zi218 44) rfl rfl rfl ?_
    refine X.iload_n 46 (zi218 45) rfl rfl rfl ?_
    refine X.callv 49 [zi (a1 % 365)] [zi 7, zi 395, zr 4 45] [(0, zr 4 44), (1, zi (a1 % 365))] (zi218 46) rfl (by decide) rfl rfl (by omega) rfl rfl (by decide) rfl t219 (Nat.le_of_ble_eq_true rfl) (Nat.le_of_ble_eq_true rfl) rfl ?_
    refine c219_1 (B := B)  (a1 % 365) (by omega) (hJ.up (by omega)) (by omega) (by omega) (fun v506 hv506 hFv506 => ?_)
    show X (EE s) d 218 49 [(0, zr 4 44), (1, zi a1), (2, zi (a1 % 365))] [zi v506, zi 7, zi 395, zr 4 45] m _
    refine X.imul 50 (zi218 49) rfl rfl (by omega) ?_
    refine X.iadd 51 (zi218 50) rfl rfl (by omega) ?_
    refine X.iload_n 52 (zi218 51) rfl rfl rfl ?_
    refine X.bipush 54 (zi218 52) rfl rfl (by decide) ?_
    refine X.irem 55 (zi218 54) rfl rfl (by omega) ?_
    refine X.iadd 56 (zi218 55) rfl rfl (by omega) ?_
    refine X.lald 57 (zi218 56) rfl rfl (by decide) rfl (by omega) ?_
    have h507 := r45_395 hJ 4 (i := ((395 + (7 * v506)) + (a1 % 7))) (by omega)
    refine X.l2i 58 (zi218 57) rfl rfl (by omega) ?_
    refine X.reti (zi218 58) rfl t218 ?_
    exact hQ (m 4 45 ((395 + (7 * v506)) + (a1 % 7))) (by first | trivial | omega) (Eq.trans (if_pos h503c) (Eq.trans (zn_eq hFv506.symm) rfl)) 
  · have h503c : ¬ (m 4 45 (423 + (a1 % 365))) = (-1) := by omega
    clear h503 hz502
    refine X.aload_n 24 (zi218 23) rfl rfl rfl ?_
    refine X.getF 27 (zi218 24) rfl rfl (by decide) rfl rfl ?_
    refine X.sipush 30 (zi218 27) rfl rfl (by decide) ?_
    refine X.iload_n 31 (zi218 30) rfl rfl rfl ?_
    refine X.iadd 32 (zi218 31) rfl rfl (by omega) ?_
    refine X.lald 33 (zi218 32) rfl rfl (by decide) rfl (by omega) ?_
    refine X.l2i 34 (zi218 33) rfl rfl (by omega) ?_
    refine X.reti (zi218 34) rfl t218 ?_
    exact hQ (m 4 45 (423 + (a1 % 365))) (by first | trivial | omega) (Eq.trans (if_neg h503c) rfl) 
noncomputable def fl255_13_1_b (self : Int → Int) (k34 : Int → Int) (k136 : Int → Int → Int → Int → Int) (k152 : Int) (y1 : Int) (m : zM) (y2 : Int) : Int :=
  if (y1 + 14) < y2 then
  (k152)
  else
  (if (y2 * 86400) ≤ 2000000000 then
  (zn (f218_1 y2 m) fun v522 =>
  fl255_45_1 (fun y523 y524 =>
  k136 y2 v522 y523 y524) (self (y2 + 1)) y1 y2 v522 m (zfu 8) (-1))
  else
  (k34 y2))
noncomputable def fl255_13_1 (k34 : Int → Int) (k136 : Int → Int → Int → Int → Int) (k152 : Int) (y1 : Int) (m : zM) : Nat → Int → Int
  | 0 => fun y2 => 0
  | n + 1 => fl255_13_1_b (fl255_13_1 k34 k136 k152 y1 m n) k34 k136 k152 y1 m
theorem l255_13_1 {s : Nat × (Nat → Int32)} {S : zS} {m0 : zM} {m : zM} {B : Int} {d : Nat} {Q : Option zV → zM → Prop} {R0 : Int} {k34 : Int → Int} {k136 : Int → Int → Int → Int → Int} {k152 : Int} (y1 : Int) (hd : 16 ≤ d) (hJ : J S m0 B m) (hB9 : B ≤ 1000000000) (hy1 : 0 ≤ y1 ∧ y1 ≤ 23148)
    (K34 : ∀ (x2 : Int) , (0 ≤ x2 ∧ x2 ≤ 23162) → R0 = k34 x2 → X (EE s) d 255 34 [(0, zr 4 44), (1, zi y1), (2, zi x2)] [] m Q)
    (K136 : ∀ (x2 x3 x4 x5 : Int) , (0 ≤ x2 ∧ x2 ≤ 23162) → (0 ≤ x3 ∧ x3 ≤ 7) → ((-1) ≤ x4 ∧ x4 ≤ 5) → (1 ≤ x5 ∧ x5 ≤ 2000000000) → R0 = k136 x2 x3 x4 x5 → X (EE s) d 255 136 [(0, zr 4 44), (1, zi y1), (2, zi x2), (3, zi x3), (4, zi x4), (5, zl x5)] [] m Q)
    (K152 : R0 = k152 → X (EE s) d 255 152 [] [] m Q) :
    ∀ (n : Nat) (y2 : Int) , (0 ≤ y2 ∧ y2 ≤ 23163) → 23163 - y2 < (n : Int) → R0 = fl255_13_1 k34 k136 k152 y1 m n y2 → X (EE s) d 255 13 [(0, zr 4 44), (1, zi y1), (2, zi y2)] [] m Q := by
  intro n
  induction n with
  | zero =>
    intro y2 hy2 hn hR
    exfalso
    omega
  | succ n ih =>
    intro y2 hy2 hn hR
    replace hR : R0 = fl255_13_1_b (fl255_13_1 k34 k136 k152 y1 m n) k34 k136 k152 y1 m y2 := hR
    refine X.iload_n 14 (zi255 13) rfl rfl rfl ?_
    refine X.iload_n 15 (zi255 14) rfl rfl rfl ?_
    refine X.bipush 17 (zi255 15) rfl rfl (by decide) ?_
    refine X.iadd 18 (zi255 17) rfl rfl (by omega) ?_
    refine X.icmpgt 152 21 (zi255 18) rfl rfl rfl (fun h517 => ?_) (fun h517 => ?_)
    · refine X.cut [] (zi255 152) rfl ?_
      exact K152   (Eq.trans hR (Eq.trans (if_pos h517) rfl))
    · refine X.iload_n 22 (zi255 21) rfl rfl rfl ?_
      refine X.i2l 23 (zi255 22) rfl rfl ?_
      refine X.ldc2 26 (zi255 23) rfl rfl (by decide) ?_
      refine X.lmul 27 (zi255 26) rfl rfl (by omega) ?_
      refine X.ldc2 30 (zi255 27) rfl rfl (by decide) ?_
      refine X.lcmp 31 (zi255 30) rfl rfl (fun z518 hz518 => ?_)
      refine X.ifle 36 34 (zi255 31) rfl rfl rfl (fun h519 => ?_) (fun h519 => ?_)
      · have h519c : (y2 * 86400) ≤ 2000000000 := by omega
        clear h519 hz518
        refine X.aload_n 37 (zi255 36) rfl rfl rfl ?_
        refine X.iload_n 38 (zi255 37) rfl rfl rfl ?_
        refine X.callv 41 [zi y2] [] [(0, zr 4 44), (1, zi y2)] (zi255 38) rfl (by decide) rfl rfl (by omega) rfl rfl (by decide) rfl t218 (Nat.le_of_ble_eq_true rfl) (Nat.le_of_ble_eq_true rfl) rfl ?_
        refine c218_3 (B := B)  y2 (by omega) (hJ.up (by omega)) (by omega) (by omega) (fun v522 hv522 hFv522 => ?_)
        show X (EE s) d 255 41 [(0, zr 4 44), (1, zi y1), (2, zi y2)] [zi v522] m _
        refine X.istore_n 42 [(0, zr 4 44), (1, zi y1), (2, zi y2), (3, zi v522)] (zi255 41) rfl rfl rfl ?_
        refine X.iconst 43 (zi255 42) rfl rfl (by decide) ?_
        refine X.istore 45 [(0, zr 4 44), (1, zi y1), (2, zi y2), (3, zi v522), (4, zi (-1))] (zi255 43) rfl rfl rfl ?_
        have hz8 := zfu_eq 8
        refine l255_45_1 (s := s) (m := m) (B := B) (d := d)  y1 y2 v522  (by omega) (hJ.up (by omega)) (by omega) (by omega) (by omega) (by omega) (fun y523 y524 hby523 hby524 hR528 => ?_) (fun  hR532 => ?_) (zfu 8) (-1) (by omega) (by omega) (Eq.trans hR (Eq.trans (if_neg h517) (Eq.trans (if_pos h519c) (Eq.trans (zn_eq hFv522.symm) rfl))))
        · exact K136 y2 v522 y523 y524 (by first | trivial | omega) (by first | trivial | omega) (by first | trivial | omega) (by first | trivial | omega) (Eq.trans hR528 rfl)
        · refine X.iinc 149 [(0, zr 4 44), (1, zi y1), (2, zi (y2 + 1))] (zi255 146) rfl rfl rfl (by omega) rfl ?_
          refine X.goto 13 (zi255 149) rfl rfl ?_
          exact ih (y2 + 1) (by omega) (by omega) (Eq.trans hR532 rfl)
      · have h519c : ¬ (y2 * 86400) ≤ 2000000000 := by omega
        clear h519 hz518
        exact K34 y2 (by first | trivial | omega) (Eq.trans hR (Eq.trans (if_neg h517) (Eq.trans (if_neg h519c) rfl)))
-- WorkMeterModel.nextTime
noncomputable def f255_1 (m : zM) : Int :=
  fl255_13_1 (fun y502 =>
  (-1)) (fun y507 y508 y509 y510 =>
  y510) ((-1)) ((m 4 45 0) / 86400) m (zfu 23164) ((m 4 45 0) / 86400)
-- WorkMeterModel.nextTime
theorem c255_1 {s : Nat × (Nat → Int32)} {S : zS} {m0 m : zM} {B : Int} {d : Nat} {Q : Option zV → zM → Prop} (hd : 16 ≤ d) (hJ : J S m0 B m) (hB : B + 0 ≤ 1000000000) (hQ : ∀ (v : Int), ((-1) ≤ v ∧ v ≤ 2000000000) → f255_1 m = v → Q (some (zi v)) m) : X (EE s) d 255 0 [(0, zr 4 44)] [] m Q := by
  refine X.aload_n 1 (zi255 0) rfl rfl rfl ?_
  refine X.getF 4 (zi255 1) rfl rfl (by decide) rfl rfl ?_
  refine X.iconst 5 (zi255 4) rfl rfl (by decide) ?_
  refine X.lald 6 (zi255 5) rfl rfl (by decide) rfl (by omega) ?_
  have h501 := r45_0 hJ 4
  refine X.l2i 7 (zi255 6) rfl rfl (by omega) ?_
  refine X.ldc 9 (zi255 7) rfl rfl (by decide) ?_
  refine X.idiv 10 (zi255 9) rfl rfl (by omega) ?_
  refine X.istore_n 11 [(0, zr 4 44), (1, zi ((m 4 45 0) / 86400))] (zi255 10) rfl rfl rfl ?_
  refine X.iload_n 12 (zi255 11) rfl rfl rfl ?_
  refine X.istore_n 13 [(0, zr 4 44), (1, zi ((m 4 45 0) / 86400)), (2, zi ((m 4 45 0) / 86400))] (zi255 12) rfl rfl rfl ?_
  have hz23164 := zfu_eq 23164
  refine l255_13_1 (s := s) (m := m) (B := B) (d := d) (R0 := (f255_1 m))  ((m 4 45 0) / 86400)  (by omega) (hJ.up (by omega)) (by omega) (by omega) (fun y502 hby502 hR506 => ?_) (fun y507 y508 y509 y510 hby507 hby508 hby509 hby510 hR514 => ?_) (fun  hR518 => ?_) (zfu 23164) ((m 4 45 0) / 86400) (by omega) (by omega) rfl
  · refine X.iconst 35 (zi255 34) rfl rfl (by decide) ?_
    refine X.reti (zi255 35) rfl t255 ?_
    exact hQ (-1) (by first | trivial | omega) (Eq.trans hR506 rfl) 
  · refine X.lload 138 (zi255 136) rfl rfl rfl ?_
    refine X.l2i 139 (zi255 138) rfl rfl (by omega) ?_
    refine X.reti (zi255 139) rfl t255 ?_
    exact hQ y510 (by first | trivial | omega) (Eq.trans hR514 rfl) 
  · refine X.iconst 153 (zi255 152) rfl rfl (by decide) ?_
    refine X.reti (zi255 153) rfl t255 ?_
    exact hQ (-1) (by first | trivial | omega) (Eq.trans hR518 rfl) 
-- WorkMeterModel.next
noncomputable def f254_1 (a1 : Int) (m : zM) : Int :=
  zn (f255_1 m) fun v503 =>
  zn (if v503 = (-1) then
  ((-1))
  else
  (if a1 = 0 then
  (v503)
  else
  (if a1 = 1 then
  (zn (f217_1 v503 m) fun v509 =>
  v509)
  else
  ((-1))))) fun v510 =>
  v510
-- WorkMeterModel.next
theorem c254_1 {s : Nat × (Nat → Int32)} {S : zS} {m0 m : zM} {B : Int} {d : Nat} {Q : Option zV → zM → Prop} (a1 : Int) (hd : 17 ≤ d) (hJ : J S m0 B m) (hB : B + 0 ≤ 1000000000) (ha1 : (-2147483648) ≤ a1 ∧ a1 ≤ 2147483647) (hQ : ∀ (v : Int), ((-1) ≤ v ∧ v ≤ 2000000000) → f254_1 a1 m = v → Q (some (zi v)) m) : X (EE s) d 254 0 [(0, zr 4 44), (1, zi a1)] [] m Q := by
  refine X.aload_n 1 (zi254 0) rfl rfl rfl ?_
  refine X.callv 4 [] [] [(0, zr 4 44)] (zi254 1) rfl (by decide) rfl rfl (by omega) rfl rfl (by decide) rfl t255 (Nat.le_of_ble_eq_true rfl) (Nat.le_of_ble_eq_true rfl) rfl ?_
  refine c255_1 (B := B)   (by omega) (hJ.up (by omega)) (by omega)  (fun v503 hv503 hFv503 => ?_)
  show X (EE s) d 254 4 [(0, zr 4 44), (1, zi a1)] [zi v503] m _
  refine X.istore_n 5 [(0, zr 4 44), (1, zi a1), (2, zi v503)] (zi254 4) rfl rfl rfl ?_
  refine X.iload_n 6 (zi254 5) rfl rfl rfl ?_
  refine X.iconst 7 (zi254 6) rfl rfl (by decide) ?_
  have hK513 : ∀ (v : Int) , ((-1) ≤ v ∧ v ≤ 2000000000) → (if v503 = (-1) then
      ((-1))
      else
      (if a1 = 0 then
      (v503)
      else
      (if a1 = 1 then
      (zn (f217_1 v503 m) fun v509 =>
      v509)
      else
      ((-1))))) = v → X (EE s) d 254 36 [] [zi v] m Q := by
    intro v510 hv510 hT514
    refine X.reti (zi254 36) rfl t254 ?_
    exact hQ v510 (by first | trivial | omega) (Eq.trans (zn_eq hFv503.symm) (Eq.trans (zn_eq hT514.symm) rfl)) 
  refine X.icmpne 14 10 (zi254 7) rfl rfl rfl (fun h504 => ?_) (fun h504 => ?_)
  · refine X.iload_n 15 (zi254 14) rfl rfl rfl ?_
    refine X.ifne 22 18 (zi254 15) rfl rfl rfl (fun h505 => ?_) (fun h505 => ?_)
    · refine X.iload_n 23 (zi254 22) rfl rfl rfl ?_
      refine X.iconst 24 (zi254 23) rfl rfl (by decide) ?_
      refine X.icmpne 35 27 (zi254 24) rfl rfl rfl (fun h506 => ?_) (fun h506 => ?_)
      · refine X.cut [] (zi254 35) rfl ?_
        refine X.iconst 36 (zi254 35) rfl rfl (by decide) ?_
        exact hK513 (-1) (by first | trivial | omega) (Eq.trans (if_neg h504) (Eq.trans (if_neg h505) (Eq.trans (if_neg h506) rfl)))
      · refine X.aload_n 28 (zi254 27) rfl rfl rfl ?_
        refine X.iload_n 29 (zi254 28) rfl rfl rfl ?_
        refine X.callv 32 [zi v503] [] [(0, zr 4 44), (1, zi v503)] (zi254 29) rfl (by decide) rfl rfl (by omega) rfl rfl (by decide) rfl t217 (Nat.le_of_ble_eq_true rfl) (Nat.le_of_ble_eq_true rfl) rfl ?_
        refine c217_1 (B := B)  v503 (by omega) (hJ.up (by omega)) (by omega) (by omega) (fun v509 hv509 hFv509 => ?_)
        show X (EE s) d 254 32 [(0, zr 4 44), (1, zi a1), (2, zi v503)] [zi v509] m _
        refine X.goto 36 (zi254 32) rfl rfl ?_
        refine X.cut [] (zi254 36) rfl ?_
        exact hK513 v509 (by first | trivial | omega) (Eq.trans (if_neg h504) (Eq.trans (if_neg h505) (Eq.trans (if_pos h506) (Eq.trans (zn_eq hFv509.symm) rfl))))
    · refine X.iload_n 19 (zi254 18) rfl rfl rfl ?_
      refine X.goto 36 (zi254 19) rfl rfl ?_
      refine X.cut [] (zi254 36) rfl ?_
      exact hK513 v503 (by first | trivial | omega) (Eq.trans (if_neg h504) (Eq.trans (if_pos h505) rfl))
  · refine X.iconst 11 (zi254 10) rfl rfl (by decide) ?_
    refine X.goto 36 (zi254 11) rfl rfl ?_
    refine X.cut [] (zi254 36) rfl ?_
    exact hK513 (-1) (by first | trivial | omega) (Eq.trans (if_pos h504) rfl)
-- WorkMeter.marked
noncomputable def f154_1 (a1 a2 : Int) (m : zM) : Int :=
  if a1 < 0 then
  ((-1))
  else
  (if a1 < 5 then
  (if a2 = 0 then
  (zn (f40_1 0 a1 m) fun v506 =>
  zn (if v506 = 0 then
  (0)
  else
  (1)) fun v508 =>
  v508)
  else
  (if a2 = 1 then
  ((m 0 34 a1))
  else
  (if a2 = 2 then
  ((m 0 35 a1))
  else
  (if a2 = 3 then
  ((m 0 36 a1))
  else
  ((-1))))))
  else
  ((-1)))
-- WorkMeter.marked
theorem c154_1 {s : Nat × (Nat → Int32)} {S : zS} {m0 m : zM} {B : Int} {d : Nat} {Q : Option zV → zM → Prop} (a1 a2 : Int) (hd : 14 ≤ d) (hJ : J S m0 B m) (hB : B + 0 ≤ 1000000000) (ha1 : (-2147483648) ≤ a1 ∧ a1 ≤ 2147483647) (ha2 : (-2147483648) ≤ a2 ∧ a2 ≤ 2147483647) (hQ : ∀ (v : Int), ((-2147483648) ≤ v ∧ v ≤ 2147483647) → f154_1 a1 a2 m = v → Q (some (zi v)) m) : X (EE s) d 154 0 [(0, zr 4 40), (1, zi a1), (2, zi a2)] [] m Q := by
  refine X.iload_n 1 (zi154 0) rfl rfl rfl ?_
  refine X.iflt 9 4 (zi154 1) rfl rfl rfl (fun h501 => ?_) (fun h501 => ?_)
  · refine X.cut [] (zi154 9) rfl ?_
    refine X.iconst 10 (zi154 9) rfl rfl (by decide) ?_
    refine X.reti (zi154 10) rfl t154 ?_
    exact hQ (-1) (by first | trivial | omega) (Eq.trans (if_pos h501) rfl) 
  · refine X.iload_n 5 (zi154 4) rfl rfl rfl ?_
    refine X.iconst 6 (zi154 5) rfl rfl (by decide) ?_
    refine X.icmplt 11 9 (zi154 6) rfl rfl rfl (fun h502 => ?_) (fun h502 => ?_)
    · refine X.iload_n 12 (zi154 11) rfl rfl rfl ?_
      by_cases h503 : a2 = 0
      · refine X.tsIn 44 0 (zi154 12) rfl (by omega) rfl rfl ?_
        refine X.cut [(0, zr 4 40), (1, zi a1)] (zi154 44) rfl ?_
        refine X.aload_n 45 (zi154 44) rfl rfl rfl ?_
        refine X.getF 48 (zi154 45) rfl rfl (by decide) rfl rfl ?_
        refine X.getR 51 (zi154 48) rfl rfl (by decide) rfl rfl ?_
        refine X.iload_n 52 (zi154 51) rfl rfl rfl ?_
        refine X.callv 55 [zi a1] [] [(0, zr 0 33), (1, zi a1)] (zi154 52) rfl (by decide) rfl rfl (by omega) rfl rfl (by decide) rfl t40 (Nat.le_of_ble_eq_true rfl) (Nat.le_of_ble_eq_true rfl) rfl ?_
        refine c40_2 (B := B) 0 a1 (by omega) (hJ.up (by omega)) (by omega) (by omega) (fun v506 hv506 hFv506 => ?_)
        show X (EE s) d 154 55 [(0, zr 4 40), (1, zi a1)] [zi v506] m _
        have hK511 : ∀ (v : Int) , (0 ≤ v ∧ v ≤ 1) → (if v506 = 0 then
            (0)
            else
            (1)) = v → X (EE s) d 154 63 [] [zi v] m Q := by
          intro v508 hv508 hT512
          refine X.reti (zi154 63) rfl t154 ?_
          exact hQ v508 (by first | trivial | omega) (Eq.trans (if_neg h501) (Eq.trans (if_pos h502) (Eq.trans (if_pos h503) (Eq.trans (zn_eq hFv506.symm) (Eq.trans (zn_eq hT512.symm) rfl))))) 
        refine X.ifeq 62 58 (zi154 55) rfl rfl rfl (fun h507 => ?_) (fun h507 => ?_)
        · refine X.cut [] (zi154 62) rfl ?_
          refine X.iconst 63 (zi154 62) rfl rfl (by decide) ?_
          exact hK511 0 (by first | trivial | omega) (Eq.trans (if_pos h507) rfl)
        · refine X.iconst 59 (zi154 58) rfl rfl (by decide) ?_
          refine X.goto 63 (zi154 59) rfl rfl ?_
          refine X.cut [] (zi154 63) rfl ?_
          exact hK511 1 (by first | trivial | omega) (Eq.trans (if_neg h507) rfl)
      by_cases h513 : a2 = 1
      · refine X.tsIn 64 1 (zi154 12) rfl (by omega) rfl rfl ?_
        refine X.cut [(0, zr 4 40), (1, zi a1)] (zi154 64) rfl ?_
        refine X.aload_n 65 (zi154 64) rfl rfl rfl ?_
        refine X.getF 68 (zi154 65) rfl rfl (by decide) rfl rfl ?_
        refine X.getR 71 (zi154 68) rfl rfl (by decide) rfl rfl ?_
        refine X.getR 74 (zi154 71) rfl rfl (by decide) rfl rfl ?_
        refine X.iload_n 75 (zi154 74) rfl rfl rfl ?_
        refine X.ialdr 76 (zi154 75) rfl rfl (by decide) rfl (by omega) (fun h514 => ?_)
        refine X.reti (zi154 76) rfl t154 ?_
        exact hQ (m 0 34 a1) (by first | trivial | omega) (Eq.trans (if_neg h501) (Eq.trans (if_pos h502) (Eq.trans (if_neg h503) (Eq.trans (if_pos h513) rfl)))) 
      by_cases h515 : a2 = 2
      · refine X.tsIn 77 2 (zi154 12) rfl (by omega) rfl rfl ?_
        refine X.cut [(0, zr 4 40), (1, zi a1)] (zi154 77) rfl ?_
        refine X.aload_n 78 (zi154 77) rfl rfl rfl ?_
        refine X.getF 81 (zi154 78) rfl rfl (by decide) rfl rfl ?_
        refine X.getR 84 (zi154 81) rfl rfl (by decide) rfl rfl ?_
        refine X.getR 87 (zi154 84) rfl rfl (by decide) rfl rfl ?_
        refine X.iload_n 88 (zi154 87) rfl rfl rfl ?_
        refine X.ialdr 89 (zi154 88) rfl rfl (by decide) rfl (by omega) (fun h516 => ?_)
        refine X.reti (zi154 89) rfl t154 ?_
        exact hQ (m 0 35 a1) (by first | trivial | omega) (Eq.trans (if_neg h501) (Eq.trans (if_pos h502) (Eq.trans (if_neg h503) (Eq.trans (if_neg h513) (Eq.trans (if_pos h515) rfl))))) 
      by_cases h517 : a2 = 3
      · refine X.tsIn 90 3 (zi154 12) rfl (by omega) rfl rfl ?_
        refine X.cut [(0, zr 4 40), (1, zi a1)] (zi154 90) rfl ?_
        refine X.aload_n 91 (zi154 90) rfl rfl rfl ?_
        refine X.getF 94 (zi154 91) rfl rfl (by decide) rfl rfl ?_
        refine X.getR 97 (zi154 94) rfl rfl (by decide) rfl rfl ?_
        refine X.getR 100 (zi154 97) rfl rfl (by decide) rfl rfl ?_
        refine X.iload_n 101 (zi154 100) rfl rfl rfl ?_
        refine X.ialdr 102 (zi154 101) rfl rfl (by decide) rfl (by omega) (fun h518 => ?_)
        refine X.reti (zi154 102) rfl t154 ?_
        exact hQ (m 0 36 a1) (by first | trivial | omega) (Eq.trans (if_neg h501) (Eq.trans (if_pos h502) (Eq.trans (if_neg h503) (Eq.trans (if_neg h513) (Eq.trans (if_neg h515) (Eq.trans (if_pos h517) rfl)))))) 
      refine X.tsOut 103 (zi154 12) rfl (by omega) rfl ?_
      refine X.cut [] (zi154 103) rfl ?_
      refine X.iconst 104 (zi154 103) rfl rfl (by decide) ?_
      refine X.reti (zi154 104) rfl t154 ?_
      exact hQ (-1) (by first | trivial | omega) (Eq.trans (if_neg h501) (Eq.trans (if_pos h502) (Eq.trans (if_neg h503) (Eq.trans (if_neg h513) (Eq.trans (if_neg h515) (Eq.trans (if_neg h517) rfl)))))) 
    · refine X.cut [] (zi154 9) rfl ?_
      refine X.iconst 10 (zi154 9) rfl rfl (by decide) ?_
      refine X.reti (zi154 10) rfl t154 ?_
      exact hQ (-1) (by first | trivial | omega) (Eq.trans (if_neg h501) (Eq.trans (if_neg h502) rfl)) 
-- WorkMeterModel.marked
noncomputable def f297_1 (a1 a2 : Int) (m : zM) : Int :=
  if a1 < 0 then
  ((-1))
  else
  (if a1 ≤ 4 then
  (if a2 = 0 then
  (zn (w32 (m 4 45 (40 + a1))) fun z509 =>
  z509)
  else
  (if a2 = 1 then
  (zn (w32 (m 4 45 (45 + a1))) fun z511 =>
  z511)
  else
  (if a2 = 2 then
  (zn (w32 (m 4 45 (50 + a1))) fun z513 =>
  z513)
  else
  (if a2 = 3 then
  (zn (w32 (m 4 45 (55 + a1))) fun z515 =>
  z515)
  else
  ((-1))))))
  else
  ((-1)))
-- WorkMeterModel.marked
theorem c297_1 {s : Nat × (Nat → Int32)} {S : zS} {m0 m : zM} {B : Int} {d : Nat} {Q : Option zV → zM → Prop} (a1 a2 : Int) (hd : 13 ≤ d) (hJ : J S m0 B m) (hB : B + 0 ≤ 1000000000) (ha1 : (-2147483648) ≤ a1 ∧ a1 ≤ 2147483647) (ha2 : (-2147483648) ≤ a2 ∧ a2 ≤ 2147483647) (hQ : ∀ (v : Int), ((-2147483648) ≤ v ∧ v ≤ 2147483647) → f297_1 a1 a2 m = v → Q (some (zi v)) m) : X (EE s) d 297 0 [(0, zr 4 44), (1, zi a1), (2, zi a2)] [] m Q := by
  refine X.iload_n 1 (zi297 0) rfl rfl rfl ?_
  refine X.i2l 2 (zi297 1) rfl rfl ?_
  refine X.lconst (y := 0) 3 (zi297 2) rfl rfl rfl ?_
  refine X.ldc2 6 (zi297 3) rfl rfl (by decide) ?_
  refine X.calls 9 [zl a1, zl 0, zl 4] [] [(0, zl a1), (2, zl 0), (4, zl 4)] (zi297 6) (by decide) rfl rfl (by omega) rfl rfl t204 (Nat.le_of_ble_eq_true rfl) (Nat.le_of_ble_eq_true rfl) rfl ?_
  refine X.lload_n 1 (zi204 0) rfl rfl rfl ?_
  refine X.lload_n 2 (zi204 1) rfl rfl rfl ?_
  refine X.lcmp 3 (zi204 2) rfl rfl (fun z501 hz501 => ?_)
  refine X.iflt 17 6 (zi204 3) rfl rfl rfl (fun h502 => ?_) (fun h502 => ?_)
  · have h502c : a1 < 0 := by omega
    clear h502 hz501
    refine X.cut [] (zi204 17) rfl ?_
    refine X.iconst 18 (zi204 17) rfl rfl (by decide) ?_
    refine X.retz (zi204 18) rfl t204 (by omega) ?_
    show X (EE s) d 297 9 [(0, zr 4 44), (1, zi a1), (2, zi a2)] [zi 0] m _
    refine X.ifne 14 12 (zi297 9) rfl rfl rfl (fun h503 => (by exfalso; omega)) (fun h503 => ?_)
    refine X.iconst 13 (zi297 12) rfl rfl (by decide) ?_
    refine X.reti (zi297 13) rfl t297 ?_
    exact hQ (-1) (by first | trivial | omega) (Eq.trans (if_pos h502c) rfl) 
  · have h502c : ¬ a1 < 0 := by omega
    clear h502 hz501
    refine X.lload_n 7 (zi204 6) rfl rfl rfl ?_
    refine X.lload 9 (zi204 7) rfl rfl rfl ?_
    refine X.lcmp 10 (zi204 9) rfl rfl (fun z504 hz504 => ?_)
    refine X.ifgt 17 13 (zi204 10) rfl rfl rfl (fun h505 => ?_) (fun h505 => ?_)
    · have h505c : ¬ a1 ≤ 4 := by omega
      clear h505 hz504
      refine X.cut [] (zi204 17) rfl ?_
      refine X.iconst 18 (zi204 17) rfl rfl (by decide) ?_
      refine X.retz (zi204 18) rfl t204 (by omega) ?_
      show X (EE s) d 297 9 [(0, zr 4 44), (1, zi a1), (2, zi a2)] [zi 0] m _
      refine X.ifne 14 12 (zi297 9) rfl rfl rfl (fun h506 => (by exfalso; omega)) (fun h506 => ?_)
      refine X.iconst 13 (zi297 12) rfl rfl (by decide) ?_
      refine X.reti (zi297 13) rfl t297 ?_
      exact hQ (-1) (by first | trivial | omega) (Eq.trans (if_neg h502c) (Eq.trans (if_neg h505c) rfl)) 
    · have h505c : a1 ≤ 4 := by omega
      clear h505 hz504
      refine X.iconst 14 (zi204 13) rfl rfl (by decide) ?_
      refine X.goto 18 (zi204 14) rfl rfl ?_
      refine X.cut [] (zi204 18) rfl ?_
      refine X.retz (zi204 18) rfl t204 (by omega) ?_
      show X (EE s) d 297 9 [(0, zr 4 44), (1, zi a1), (2, zi a2)] [zi 1] m _
      refine X.ifne 14 12 (zi297 9) rfl rfl rfl (fun h507 => ?_) (fun h507 => (by exfalso; omega))
      refine X.iload_n 15 (zi297 14) rfl rfl rfl ?_
      by_cases h508 : a2 = 0
      · refine X.tsIn 44 0 (zi297 15) rfl (by omega) rfl rfl ?_
        refine X.cut [(0, zr 4 44), (1, zi a1)] (zi297 44) rfl ?_
        refine X.aload_n 45 (zi297 44) rfl rfl rfl ?_
        refine X.getF 48 (zi297 45) rfl rfl (by decide) rfl rfl ?_
        refine X.bipush 50 (zi297 48) rfl rfl (by decide) ?_
        refine X.iload_n 51 (zi297 50) rfl rfl rfl ?_
        refine X.iadd 52 (zi297 51) rfl rfl (by omega) ?_
        refine X.lald 53 (zi297 52) rfl rfl (by decide) rfl (by omega) ?_
        refine X.l2iW 54 (zi297 53) rfl rfl (fun z509 ez509 hz509 => ?_)
        refine X.reti (zi297 54) rfl t297 ?_
        exact hQ z509 (by first | trivial | omega) (Eq.trans (if_neg h502c) (Eq.trans (if_pos h505c) (Eq.trans (if_pos h508) (Eq.trans (zn_eq ez509) rfl)))) 
      by_cases h510 : a2 = 1
      · refine X.tsIn 55 1 (zi297 15) rfl (by omega) rfl rfl ?_
        refine X.cut [(0, zr 4 44), (1, zi a1)] (zi297 55) rfl ?_
        refine X.aload_n 56 (zi297 55) rfl rfl rfl ?_
        refine X.getF 59 (zi297 56) rfl rfl (by decide) rfl rfl ?_
        refine X.bipush 61 (zi297 59) rfl rfl (by decide) ?_
        refine X.iload_n 62 (zi297 61) rfl rfl rfl ?_
        refine X.iadd 63 (zi297 62) rfl rfl (by omega) ?_
        refine X.lald 64 (zi297 63) rfl rfl (by decide) rfl (by omega) ?_
        refine X.l2iW 65 (zi297 64) rfl rfl (fun z511 ez511 hz511 => ?_)
        refine X.reti (zi297 65) rfl t297 ?_
        exact hQ z511 (by first | trivial | omega) (Eq.trans (if_neg h502c) (Eq.trans (if_pos h505c) (Eq.trans (if_neg h508) (Eq.trans (if_pos h510) (Eq.trans (zn_eq ez511) rfl))))) 
      by_cases h512 : a2 = 2
      · refine X.tsIn 66 2 (zi297 15) rfl (by omega) rfl rfl ?_
        refine X.cut [(0, zr 4 44), (1, zi a1)] (zi297 66) rfl ?_
        refine X.aload_n 67 (zi297 66) rfl rfl rfl ?_
        refine X.getF 70 (zi297 67) rfl rfl (by decide) rfl rfl ?_
        refine X.bipush 72 (zi297 70) rfl rfl (by decide) ?_
        refine X.iload_n 73 (zi297 72) rfl rfl rfl ?_
        refine X.iadd 74 (zi297 73) rfl rfl (by omega) ?_
        refine X.lald 75 (zi297 74) rfl rfl (by decide) rfl (by omega) ?_
        refine X.l2iW 76 (zi297 75) rfl rfl (fun z513 ez513 hz513 => ?_)
        refine X.reti (zi297 76) rfl t297 ?_
        exact hQ z513 (by first | trivial | omega) (Eq.trans (if_neg h502c) (Eq.trans (if_pos h505c) (Eq.trans (if_neg h508) (Eq.trans (if_neg h510) (Eq.trans (if_pos h512) (Eq.trans (zn_eq ez513) rfl)))))) 
      by_cases h514 : a2 = 3
      · refine X.tsIn 77 3 (zi297 15) rfl (by omega) rfl rfl ?_
        refine X.cut [(0, zr 4 44), (1, zi a1)] (zi297 77) rfl ?_
        refine X.aload_n 78 (zi297 77) rfl rfl rfl ?_
        refine X.getF 81 (zi297 78) rfl rfl (by decide) rfl rfl ?_
        refine X.bipush 83 (zi297 81) rfl rfl (by decide) ?_
        refine X.iload_n 84 (zi297 83) rfl rfl rfl ?_
        refine X.iadd 85 (zi297 84) rfl rfl (by omega) ?_
        refine X.lald 86 (zi297 85) rfl rfl (by decide) rfl (by omega) ?_
        refine X.l2iW 87 (zi297 86) rfl rfl (fun z515 ez515 hz515 => ?_)
        refine X.reti (zi297 87) rfl t297 ?_
        exact hQ z515 (by first | trivial | omega) (Eq.trans (if_neg h502c) (Eq.trans (if_pos h505c) (Eq.trans (if_neg h508) (Eq.trans (if_neg h510) (Eq.trans (if_neg h512) (Eq.trans (if_pos h514) (Eq.trans (zn_eq ez515) rfl))))))) 
      refine X.tsOut 88 (zi297 15) rfl (by omega) rfl ?_
      refine X.cut [] (zi297 88) rfl ?_
      refine X.iconst 89 (zi297 88) rfl rfl (by decide) ?_
      refine X.reti (zi297 89) rfl t297 ?_
      exact hQ (-1) (by first | trivial | omega) (Eq.trans (if_neg h502c) (Eq.trans (if_pos h505c) (Eq.trans (if_neg h508) (Eq.trans (if_neg h510) (Eq.trans (if_neg h512) (Eq.trans (if_neg h514) rfl)))))) 
-- WorkMeter.load
noncomputable def f155_1 (a1 a2 : Int) (m : zM) : Int :=
  if a1 = (-1) then
  ((min (m 0 27 2) 64))
  else
  (if a1 < 0 then
  ((-1))
  else
  (if (min (m 0 27 2) 64) ≤ a1 then
  ((-1))
  else
  (if a2 < 0 then
  ((-1))
  else
  (if a2 < 6 then
  ((m 0 28 ((((((m 0 27 2) - 1) - a1) % 64) * 6) + a2)))
  else
  ((-1))))))
-- WorkMeter.load
theorem c155_1 {s : Nat × (Nat → Int32)} {S : zS} {m0 m : zM} {B : Int} {d : Nat} {Q : Option zV → zM → Prop} (a1 a2 : Int) (hd : 14 ≤ d) (hJ : J S m0 B m) (hB : B + 0 ≤ 1000000000) (ha1 : (-2147483648) ≤ a1 ∧ a1 ≤ 2147483647) (ha2 : (-2147483648) ≤ a2 ∧ a2 ≤ 2147483647) (hQ : ∀ (v : Int), (True) → f155_1 a1 a2 m = v → Q (some (zl v)) m) : X (EE s) d 155 0 [(0, zr 4 40), (1, zi a1), (2, zi a2)] [] m Q := by
  refine X.aload_n 1 (zi155 0) rfl rfl rfl ?_
  refine X.getF 4 (zi155 1) rfl rfl (by decide) rfl rfl ?_
  refine X.getR 7 (zi155 4) rfl rfl (by decide) rfl rfl ?_
  refine X.callv 10 [] [] [(0, zr 0 27)] (zi155 7) rfl (by decide) rfl rfl (by omega) rfl rfl (by decide) rfl t66 (Nat.le_of_ble_eq_true rfl) (Nat.le_of_ble_eq_true rfl) rfl ?_
  refine X.aload_n 1 (zi66 0) rfl rfl rfl ?_
  refine X.getI 4 2 (zi66 1) rfl rfl (by decide) rfl rfl rfl ?_
  have h501 := r27_2 hJ 0
  refine X.bipush 6 (zi66 4) rfl rfl (by decide) ?_
  refine X.minI 9 (zi66 6) rfl rfl (by omega) (Nat.le_of_ble_eq_true rfl) ?_
  refine X.reti (zi66 9) rfl t66 ?_
  show X (EE s) d 155 10 [(0, zr 4 40), (1, zi a1), (2, zi a2)] [zi (min (m 0 27 2) 64)] m _
  refine X.istore_n 11 [(0, zr 4 40), (1, zi a1), (2, zi a2), (3, zi (min (m 0 27 2) 64))] (zi155 10) rfl rfl rfl ?_
  refine X.iload_n 12 (zi155 11) rfl rfl rfl ?_
  refine X.iconst 13 (zi155 12) rfl rfl (by decide) ?_
  refine X.icmpne 19 16 (zi155 13) rfl rfl rfl (fun h502 => ?_) (fun h502 => ?_)
  · refine X.iload_n 20 (zi155 19) rfl rfl rfl ?_
    refine X.iflt 38 23 (zi155 20) rfl rfl rfl (fun h503 => ?_) (fun h503 => ?_)
    · refine X.cut [] (zi155 38) rfl ?_
      refine X.ldc2 41 (zi155 38) rfl rfl (by decide) ?_
      refine X.retl (zi155 41) rfl t155 ?_
      exact hQ (-1) (by first | trivial | omega) (Eq.trans (if_neg h502) (Eq.trans (if_pos h503) rfl)) 
    · refine X.iload_n 24 (zi155 23) rfl rfl rfl ?_
      refine X.iload_n 25 (zi155 24) rfl rfl rfl ?_
      refine X.icmpge 38 28 (zi155 25) rfl rfl rfl (fun h504 => ?_) (fun h504 => ?_)
      · refine X.cut [] (zi155 38) rfl ?_
        refine X.ldc2 41 (zi155 38) rfl rfl (by decide) ?_
        refine X.retl (zi155 41) rfl t155 ?_
        exact hQ (-1) (by first | trivial | omega) (Eq.trans (if_neg h502) (Eq.trans (if_neg h503) (Eq.trans (if_pos h504) rfl))) 
      · refine X.iload_n 29 (zi155 28) rfl rfl rfl ?_
        refine X.iflt 38 32 (zi155 29) rfl rfl rfl (fun h505 => ?_) (fun h505 => ?_)
        · refine X.cut [] (zi155 38) rfl ?_
          refine X.ldc2 41 (zi155 38) rfl rfl (by decide) ?_
          refine X.retl (zi155 41) rfl t155 ?_
          exact hQ (-1) (by first | trivial | omega) (Eq.trans (if_neg h502) (Eq.trans (if_neg h503) (Eq.trans (if_neg h504) (Eq.trans (if_pos h505) rfl)))) 
        · refine X.iload_n 33 (zi155 32) rfl rfl rfl ?_
          refine X.bipush 35 (zi155 33) rfl rfl (by decide) ?_
          refine X.icmplt 42 38 (zi155 35) rfl rfl rfl (fun h506 => ?_) (fun h506 => ?_)
          · refine X.cut [(0, zr 4 40), (1, zi a1), (2, zi a2)] (zi155 42) rfl ?_
            refine X.aload_n 43 (zi155 42) rfl rfl rfl ?_
            refine X.getF 46 (zi155 43) rfl rfl (by decide) rfl rfl ?_
            refine X.getR 49 (zi155 46) rfl rfl (by decide) rfl rfl ?_
            refine X.iload_n 50 (zi155 49) rfl rfl rfl ?_
            refine X.iload_n 51 (zi155 50) rfl rfl rfl ?_
            refine X.callv 54 [zi a1, zi a2] [] [(0, zr 0 27), (1, zi a1), (2, zi a2)] (zi155 51) rfl (by decide) rfl rfl (by omega) rfl rfl (by decide) rfl t67 (Nat.le_of_ble_eq_true rfl) (Nat.le_of_ble_eq_true rfl) rfl ?_
            refine X.aload_n 1 (zi67 0) rfl rfl rfl ?_
            refine X.getR 4 (zi67 1) rfl rfl (by decide) rfl rfl ?_
            refine X.aload_n 5 (zi67 4) rfl rfl rfl ?_
            refine X.getI 8 2 (zi67 5) rfl rfl (by decide) rfl rfl rfl ?_
            refine X.iconst 9 (zi67 8) rfl rfl (by decide) ?_
            refine X.isub 10 (zi67 9) rfl rfl (by omega) ?_
            refine X.iload_n 11 (zi67 10) rfl rfl rfl ?_
            refine X.isub 12 (zi67 11) rfl rfl (by omega) ?_
            refine X.bipush 14 (zi67 12) rfl rfl (by decide) ?_
            refine X.irem 15 (zi67 14) rfl rfl (by omega) ?_
            refine X.bipush 17 (zi67 15) rfl rfl (by decide) ?_
            refine X.imul 18 (zi67 17) rfl rfl (by omega) ?_
            refine X.iload_n 19 (zi67 18) rfl rfl rfl ?_
            refine X.iadd 20 (zi67 19) rfl rfl (by omega) ?_
            refine X.lald 21 (zi67 20) rfl rfl (by decide) rfl (by omega) ?_
            refine X.retl (zi67 21) rfl t67 ?_
            show X (EE s) d 155 54 [(0, zr 4 40), (1, zi a1), (2, zi a2)] [zl (m 0 28 ((((((m 0 27 2) - 1) - a1) % 64) * 6) + a2))] m _
            refine X.retl (zi155 54) rfl t155 ?_
            exact hQ (m 0 28 ((((((m 0 27 2) - 1) - a1) % 64) * 6) + a2)) (by first | trivial | omega) (Eq.trans (if_neg h502) (Eq.trans (if_neg h503) (Eq.trans (if_neg h504) (Eq.trans (if_neg h505) (Eq.trans (if_pos h506) rfl))))) 
          · refine X.cut [] (zi155 38) rfl ?_
            refine X.ldc2 41 (zi155 38) rfl rfl (by decide) ?_
            refine X.retl (zi155 41) rfl t155 ?_
            exact hQ (-1) (by first | trivial | omega) (Eq.trans (if_neg h502) (Eq.trans (if_neg h503) (Eq.trans (if_neg h504) (Eq.trans (if_neg h505) (Eq.trans (if_neg h506) rfl))))) 
  · refine X.iload_n 17 (zi155 16) rfl rfl rfl ?_
    refine X.i2l 18 (zi155 17) rfl rfl ?_
    refine X.retl (zi155 18) rfl t155 ?_
    exact hQ (min (m 0 27 2) 64) (by first | trivial | omega) (Eq.trans (if_pos h502) rfl) 
-- WorkMeterModel.line
theorem c234_7 {s : Nat × (Nat → Int32)} {S : zS} {m0 m : zM} {B : Int} {d : Nat} {Q : Option zV → zM → Prop} (a1 a2 : Int) (hd : 13 ≤ d) (hJ : J S m0 B m) (hB : B + 0 ≤ 1000000000) (ha1 : (-64) ≤ a1 ∧ a1 ≤ 63) (ha2 : 0 ≤ a2 ∧ a2 ≤ 5) (hQ : ∀ (v : Int), (True) → f234_1 a1 a2 m = v → Q (some (zl v)) m) : X (EE s) d 234 0 [(0, zr 4 44), (1, zi a1), (2, zi a2)] [] m Q := by
  refine X.aload_n 1 (zi234 0) rfl rfl rfl ?_
  refine X.getF 4 (zi234 1) rfl rfl (by decide) rfl rfl ?_
  refine X.sipush 7 (zi234 4) rfl rfl (by decide) ?_
  refine X.bipush 9 (zi234 7) rfl rfl (by decide) ?_
  refine X.iload_n 10 (zi234 9) rfl rfl rfl ?_
  refine X.imul 11 (zi234 10) rfl rfl (by omega) ?_
  refine X.iadd 12 (zi234 11) rfl rfl (by omega) ?_
  refine X.iload_n 13 (zi234 12) rfl rfl rfl ?_
  refine X.iadd 14 (zi234 13) rfl rfl (by omega) ?_
  refine X.lald 15 (zi234 14) rfl rfl (by decide) rfl (by omega) ?_
  refine X.retl (zi234 15) rfl t234 ?_
  exact hQ (m 4 45 ((788 + (6 * a1)) + a2)) (by first | trivial | omega) rfl 
-- WorkMeterModel.load
noncomputable def f298_1 (a1 a2 : Int) (m : zM) : Int :=
  if a1 = (-1) then
  (zn (f235_1 m) fun v527 =>
  v527)
  else
  (zn (f235_1 m) fun v504 =>
  if a1 < 0 then
  ((-1))
  else
  (if a1 ≤ (v504 - 1) then
  (if a2 < 0 then
  ((-1))
  else
  (if a2 ≤ 5 then
  (zn (f235_1 m) fun v521 =>
  zn (f234_1 ((v521 - 1) - a1) a2 m) fun v524 =>
  v524)
  else
  ((-1))))
  else
  ((-1))))
-- WorkMeterModel.load
theorem c298_1 {s : Nat × (Nat → Int32)} {S : zS} {m0 m : zM} {B : Int} {d : Nat} {Q : Option zV → zM → Prop} (a1 a2 : Int) (hd : 14 ≤ d) (hJ : J S m0 B m) (hB : B + 0 ≤ 1000000000) (ha1 : (-2147483648) ≤ a1 ∧ a1 ≤ 2147483647) (ha2 : (-2147483648) ≤ a2 ∧ a2 ≤ 2147483647) (hQ : ∀ (v : Int), (True) → f298_1 a1 a2 m = v → Q (some (zl v)) m) : X (EE s) d 298 0 [(0, zr 4 44), (1, zi a1), (2, zi a2)] [] m Q := by
  refine X.iload_n 1 (zi298 0) rfl rfl rfl ?_
  refine X.iconst 2 (zi298 1) rfl rfl (by decide) ?_
  refine X.icmpne 11 5 (zi298 2) rfl rfl rfl (fun h501 => ?_) (fun h501 => ?_)
  · refine X.iload_n 12 (zi298 11) rfl rfl rfl ?_
    refine X.i2l 13 (zi298 12) rfl rfl ?_
    refine X.lconst (y := 0) 14 (zi298 13) rfl rfl rfl ?_
    refine X.aload_n 15 (zi298 14) rfl rfl rfl ?_
    refine X.callv 18 [] [zl 0, zl a1] [(0, zr 4 44)] (zi298 15) rfl (by decide) rfl rfl (by omega) rfl rfl (by decide) rfl t235 (Nat.le_of_ble_eq_true rfl) (Nat.le_of_ble_eq_true rfl) rfl ?_
    refine c235_1 (B := B)   (by omega) (hJ.up (by omega)) (by omega)  (fun v504 hv504 hFv504 => ?_)
    show X (EE s) d 298 18 [(0, zr 4 44), (1, zi a1), (2, zi a2)] [zi v504, zl 0, zl a1] m _
    refine X.iconst 19 (zi298 18) rfl rfl (by decide) ?_
    refine X.isub 20 (zi298 19) rfl rfl (by omega) ?_
    refine X.i2l 21 (zi298 20) rfl rfl ?_
    refine X.calls 24 [zl a1, zl 0, zl (v504 - 1)] [] [(0, zl a1), (2, zl 0), (4, zl (v504 - 1))] (zi298 21) (by decide) rfl rfl (by omega) rfl rfl t204 (Nat.le_of_ble_eq_true rfl) (Nat.le_of_ble_eq_true rfl) rfl ?_
    refine X.lload_n 1 (zi204 0) rfl rfl rfl ?_
    refine X.lload_n 2 (zi204 1) rfl rfl rfl ?_
    refine X.lcmp 3 (zi204 2) rfl rfl (fun z505 hz505 => ?_)
    refine X.iflt 17 6 (zi204 3) rfl rfl rfl (fun h506 => ?_) (fun h506 => ?_)
    · have h506c : a1 < 0 := by omega
      clear h506 hz505
      refine X.cut [] (zi204 17) rfl ?_
      refine X.iconst 18 (zi204 17) rfl rfl (by decide) ?_
      refine X.retz (zi204 18) rfl t204 (by omega) ?_
      show X (EE s) d 298 24 [(0, zr 4 44), (1, zi a1), (2, zi a2)] [zi 0] m _
      refine X.ifeq 55 27 (zi298 24) rfl rfl rfl (fun h507 => ?_) (fun h507 => (by exfalso; omega))
      refine X.cut [] (zi298 55) rfl ?_
      refine X.ldc2 58 (zi298 55) rfl rfl (by decide) ?_
      refine X.retl (zi298 58) rfl t298 ?_
      exact hQ (-1) (by first | trivial | omega) (Eq.trans (if_neg h501) (Eq.trans (zn_eq hFv504.symm) (Eq.trans (if_pos h506c) rfl))) 
    · have h506c : ¬ a1 < 0 := by omega
      clear h506 hz505
      refine X.lload_n 7 (zi204 6) rfl rfl rfl ?_
      refine X.lload 9 (zi204 7) rfl rfl rfl ?_
      refine X.lcmp 10 (zi204 9) rfl rfl (fun z508 hz508 => ?_)
      refine X.ifgt 17 13 (zi204 10) rfl rfl rfl (fun h509 => ?_) (fun h509 => ?_)
      · have h509c : ¬ a1 ≤ (v504 - 1) := by omega
        clear h509 hz508
        refine X.cut [] (zi204 17) rfl ?_
        refine X.iconst 18 (zi204 17) rfl rfl (by decide) ?_
        refine X.retz (zi204 18) rfl t204 (by omega) ?_
        show X (EE s) d 298 24 [(0, zr 4 44), (1, zi a1), (2, zi a2)] [zi 0] m _
        refine X.ifeq 55 27 (zi298 24) rfl rfl rfl (fun h510 => ?_) (fun h510 => (by exfalso; omega))
        refine X.cut [] (zi298 55) rfl ?_
        refine X.ldc2 58 (zi298 55) rfl rfl (by decide) ?_
        refine X.retl (zi298 58) rfl t298 ?_
        exact hQ (-1) (by first | trivial | omega) (Eq.trans (if_neg h501) (Eq.trans (zn_eq hFv504.symm) (Eq.trans (if_neg h506c) (Eq.trans (if_neg h509c) rfl)))) 
      · have h509c : a1 ≤ (v504 - 1) := by omega
        clear h509 hz508
        refine X.iconst 14 (zi204 13) rfl rfl (by decide) ?_
        refine X.goto 18 (zi204 14) rfl rfl ?_
        refine X.cut [] (zi204 18) rfl ?_
        refine X.retz (zi204 18) rfl t204 (by omega) ?_
        show X (EE s) d 298 24 [(0, zr 4 44), (1, zi a1), (2, zi a2)] [zi 1] m _
        refine X.ifeq 55 27 (zi298 24) rfl rfl rfl (fun h511 => (by exfalso; omega)) (fun h511 => ?_)
        refine X.iload_n 28 (zi298 27) rfl rfl rfl ?_
        refine X.i2l 29 (zi298 28) rfl rfl ?_
        refine X.lconst (y := 0) 30 (zi298 29) rfl rfl rfl ?_
        refine X.ldc2 33 (zi298 30) rfl rfl (by decide) ?_
        refine X.calls 36 [zl a2, zl 0, zl 5] [] [(0, zl a2), (2, zl 0), (4, zl 5)] (zi298 33) (by decide) rfl rfl (by omega) rfl rfl t204 (Nat.le_of_ble_eq_true rfl) (Nat.le_of_ble_eq_true rfl) rfl ?_
        refine X.lload_n 1 (zi204 0) rfl rfl rfl ?_
        refine X.lload_n 2 (zi204 1) rfl rfl rfl ?_
        refine X.lcmp 3 (zi204 2) rfl rfl (fun z512 hz512 => ?_)
        refine X.iflt 17 6 (zi204 3) rfl rfl rfl (fun h513 => ?_) (fun h513 => ?_)
        · have h513c : a2 < 0 := by omega
          clear h513 hz512
          refine X.cut [] (zi204 17) rfl ?_
          refine X.iconst 18 (zi204 17) rfl rfl (by decide) ?_
          refine X.retz (zi204 18) rfl t204 (by omega) ?_
          show X (EE s) d 298 36 [(0, zr 4 44), (1, zi a1), (2, zi a2)] [zi 0] m _
          refine X.ifeq 55 39 (zi298 36) rfl rfl rfl (fun h514 => ?_) (fun h514 => (by exfalso; omega))
          refine X.cut [] (zi298 55) rfl ?_
          refine X.ldc2 58 (zi298 55) rfl rfl (by decide) ?_
          refine X.retl (zi298 58) rfl t298 ?_
          exact hQ (-1) (by first | trivial | omega) (Eq.trans (if_neg h501) (Eq.trans (zn_eq hFv504.symm) (Eq.trans (if_neg h506c) (Eq.trans (if_pos h509c) (Eq.trans (if_pos h513c) rfl))))) 
        · have h513c : ¬ a2 < 0 := by omega
          clear h513 hz512
          refine X.lload_n 7 (zi204 6) rfl rfl rfl ?_
          refine X.lload 9 (zi204 7) rfl rfl rfl ?_
          refine X.lcmp 10 (zi204 9) rfl rfl (fun z515 hz515 => ?_)
          refine X.ifgt 17 13 (zi204 10) rfl rfl rfl (fun h516 => ?_) (fun h516 => ?_)
          · have h516c : ¬ a2 ≤ 5 := by omega
            clear h516 hz515
            refine X.cut [] (zi204 17) rfl ?_
            refine X.iconst 18 (zi204 17) rfl rfl (by decide) ?_
            refine X.retz (zi204 18) rfl t204 (by omega) ?_
            show X (EE s) d 298 36 [(0, zr 4 44), (1, zi a1), (2, zi a2)] [zi 0] m _
            refine X.ifeq 55 39 (zi298 36) rfl rfl rfl (fun h517 => ?_) (fun h517 => (by exfalso; omega))
            refine X.cut [] (zi298 55) rfl ?_
            refine X.ldc2 58 (zi298 55) rfl rfl (by decide) ?_
            refine X.retl (zi298 58) rfl t298 ?_
            exact hQ (-1) (by first | trivial | omega) (Eq.trans (if_neg h501) (Eq.trans (zn_eq hFv504.symm) (Eq.trans (if_neg h506c) (Eq.trans (if_pos h509c) (Eq.trans (if_neg h513c) (Eq.trans (if_neg h516c) rfl)))))) 
          · have h516c : a2 ≤ 5 := by omega
            clear h516 hz515
            refine X.iconst 14 (zi204 13) rfl rfl (by decide) ?_
            refine X.goto 18 (zi204 14) rfl rfl ?_
            refine X.cut [] (zi204 18) rfl ?_
            refine X.retz (zi204 18) rfl t204 (by omega) ?_
            show X (EE s) d 298 36 [(0, zr 4 44), (1, zi a1), (2, zi a2)] [zi 1] m _
            refine X.ifeq 55 39 (zi298 36) rfl rfl rfl (fun h518 => (by exfalso; omega)) (fun h518 => ?_)
            refine X.aload_n 40 (zi298 39) rfl rfl rfl ?_
            refine X.aload_n 41 (zi298 40) rfl rfl rfl ?_
            refine X.callv 44 [] [zr 4 44] [(0, zr 4 44)] (zi298 41) rfl (by decide) rfl rfl (by omega) rfl rfl (by decide) rfl t235 (Nat.le_of_ble_eq_true rfl) (Nat.le_of_ble_eq_true rfl) rfl ?_
            refine c235_1 (B := B)   (by omega) (hJ.up (by omega)) (by omega)  (fun v521 hv521 hFv521 => ?_)
            show X (EE s) d 298 44 [(0, zr 4 44), (1, zi a1), (2, zi a2)] [zi v521, zr 4 44] m _
            refine X.iconst 45 (zi298 44) rfl rfl (by decide) ?_
            refine X.isub 46 (zi298 45) rfl rfl (by omega) ?_
            refine X.iload_n 47 (zi298 46) rfl rfl rfl ?_
            refine X.isub 48 (zi298 47) rfl rfl (by omega) ?_
            refine X.iload_n 49 (zi298 48) rfl rfl rfl ?_
            refine X.callv 52 [zi ((v521 - 1) - a1), zi a2] [] [(0, zr 4 44), (1, zi ((v521 - 1) - a1)), (2, zi a2)] (zi298 49) rfl (by decide) rfl rfl (by omega) rfl rfl (by decide) rfl t234 (Nat.le_of_ble_eq_true rfl) (Nat.le_of_ble_eq_true rfl) rfl ?_
            refine c234_7 (B := B)  ((v521 - 1) - a1) a2 (by omega) (hJ.up (by omega)) (by omega) (by omega) (by omega) (fun v524 hv524 hFv524 => ?_)
            show X (EE s) d 298 52 [(0, zr 4 44), (1, zi a1), (2, zi a2)] [zl v524] m _
            refine X.goto 58 (zi298 52) rfl rfl ?_
            refine X.cut [] (zi298 58) rfl ?_
            refine X.retl (zi298 58) rfl t298 ?_
            exact hQ v524 (by first | trivial | omega) (Eq.trans (if_neg h501) (Eq.trans (zn_eq hFv504.symm) (Eq.trans (if_neg h506c) (Eq.trans (if_pos h509c) (Eq.trans (if_neg h513c) (Eq.trans (if_pos h516c) (Eq.trans (zn_eq hFv521.symm) (Eq.trans (zn_eq hFv524.symm) rfl)))))))) 
  · refine X.aload_n 6 (zi298 5) rfl rfl rfl ?_
    refine X.callv 9 [] [] [(0, zr 4 44)] (zi298 6) rfl (by decide) rfl rfl (by omega) rfl rfl (by decide) rfl t235 (Nat.le_of_ble_eq_true rfl) (Nat.le_of_ble_eq_true rfl) rfl ?_
    refine c235_1 (B := B)   (by omega) (hJ.up (by omega)) (by omega)  (fun v527 hv527 hFv527 => ?_)
    show X (EE s) d 298 9 [(0, zr 4 44), (1, zi a1), (2, zi a2)] [zi v527] m _
    refine X.i2l 10 (zi298 9) rfl rfl ?_
    refine X.retl (zi298 10) rfl t298 ?_
    exact hQ v527 (by first | trivial | omega) (Eq.trans (if_pos h501) (Eq.trans (zn_eq hFv527.symm) rfl)) 
-- WorkMeter.block
noncomputable def f156_1 (a1 : Int) (m : zM) : Int :=
  if a1 = 0 then
  ((m 0 27 3))
  else
  (if a1 = 1 then
  ((m 0 27 4))
  else
  (if a1 = 2 then
  ((m 0 27 5))
  else
  (if a1 = 3 then
  ((m 0 27 6))
  else
  (if a1 = 4 then
  ((m 0 27 7))
  else
  (if a1 = 5 then
  (zn (f61_1 0 (max 1 (m 0 10 4)) m) fun v512 =>
  v512)
  else
  ((-1)))))))
-- WorkMeter.block
theorem c156_1 {s : Nat × (Nat → Int32)} {S : zS} {m0 m : zM} {B : Int} {d : Nat} {Q : Option zV → zM → Prop} (a1 : Int) (hd : 14 ≤ d) (hJ : J S m0 B m) (hB : B + 0 ≤ 1000000000) (ha1 : (-2147483648) ≤ a1 ∧ a1 ≤ 2147483647) (hQ : ∀ (v : Int), (True) → f156_1 a1 m = v → Q (some (zl v)) m) : X (EE s) d 156 0 [(0, zr 4 40), (1, zi a1)] [] m Q := by
  refine X.iload_n 1 (zi156 0) rfl rfl rfl ?_
  by_cases h501 : a1 = 0
  · refine X.tsIn 40 0 (zi156 1) rfl (by omega) rfl rfl ?_
    refine X.cut [(0, zr 4 40)] (zi156 40) rfl ?_
    refine X.aload_n 41 (zi156 40) rfl rfl rfl ?_
    refine X.getF 44 (zi156 41) rfl rfl (by decide) rfl rfl ?_
    refine X.getR 47 (zi156 44) rfl rfl (by decide) rfl rfl ?_
    refine X.getL 50 3 (zi156 47) rfl rfl (by decide) rfl rfl rfl ?_
    refine X.retl (zi156 50) rfl t156 ?_
    exact hQ (m 0 27 3) (by first | trivial | omega) (Eq.trans (if_pos h501) rfl) 
  by_cases h502 : a1 = 1
  · refine X.tsIn 51 1 (zi156 1) rfl (by omega) rfl rfl ?_
    refine X.cut [(0, zr 4 40)] (zi156 51) rfl ?_
    refine X.aload_n 52 (zi156 51) rfl rfl rfl ?_
    refine X.getF 55 (zi156 52) rfl rfl (by decide) rfl rfl ?_
    refine X.getR 58 (zi156 55) rfl rfl (by decide) rfl rfl ?_
    refine X.getL 61 4 (zi156 58) rfl rfl (by decide) rfl rfl rfl ?_
    refine X.retl (zi156 61) rfl t156 ?_
    exact hQ (m 0 27 4) (by first | trivial | omega) (Eq.trans (if_neg h501) (Eq.trans (if_pos h502) rfl)) 
  by_cases h503 : a1 = 2
  · refine X.tsIn 62 2 (zi156 1) rfl (by omega) rfl rfl ?_
    refine X.cut [(0, zr 4 40)] (zi156 62) rfl ?_
    refine X.aload_n 63 (zi156 62) rfl rfl rfl ?_
    refine X.getF 66 (zi156 63) rfl rfl (by decide) rfl rfl ?_
    refine X.getR 69 (zi156 66) rfl rfl (by decide) rfl rfl ?_
    refine X.getL 72 5 (zi156 69) rfl rfl (by decide) rfl rfl rfl ?_
    refine X.retl (zi156 72) rfl t156 ?_
    exact hQ (m 0 27 5) (by first | trivial | omega) (Eq.trans (if_neg h501) (Eq.trans (if_neg h502) (Eq.trans (if_pos h503) rfl))) 
  by_cases h504 : a1 = 3
  · refine X.tsIn 73 3 (zi156 1) rfl (by omega) rfl rfl ?_
    refine X.cut [(0, zr 4 40)] (zi156 73) rfl ?_
    refine X.aload_n 74 (zi156 73) rfl rfl rfl ?_
    refine X.getF 77 (zi156 74) rfl rfl (by decide) rfl rfl ?_
    refine X.getR 80 (zi156 77) rfl rfl (by decide) rfl rfl ?_
    refine X.getIr 83 6 (zi156 80) rfl rfl (by decide) rfl rfl rfl (fun h505 => ?_)
    refine X.i2l 84 (zi156 83) rfl rfl ?_
    refine X.retl (zi156 84) rfl t156 ?_
    exact hQ (m 0 27 6) (by first | trivial | omega) (Eq.trans (if_neg h501) (Eq.trans (if_neg h502) (Eq.trans (if_neg h503) (Eq.trans (if_pos h504) rfl)))) 
  by_cases h506 : a1 = 4
  · refine X.tsIn 85 4 (zi156 1) rfl (by omega) rfl rfl ?_
    refine X.cut [(0, zr 4 40)] (zi156 85) rfl ?_
    refine X.aload_n 86 (zi156 85) rfl rfl rfl ?_
    refine X.getF 89 (zi156 86) rfl rfl (by decide) rfl rfl ?_
    refine X.getR 92 (zi156 89) rfl rfl (by decide) rfl rfl ?_
    refine X.getIr 95 7 (zi156 92) rfl rfl (by decide) rfl rfl rfl (fun h507 => ?_)
    refine X.i2l 96 (zi156 95) rfl rfl ?_
    refine X.retl (zi156 96) rfl t156 ?_
    exact hQ (m 0 27 7) (by first | trivial | omega) (Eq.trans (if_neg h501) (Eq.trans (if_neg h502) (Eq.trans (if_neg h503) (Eq.trans (if_neg h504) (Eq.trans (if_pos h506) rfl))))) 
  by_cases h508 : a1 = 5
  · refine X.tsIn 97 5 (zi156 1) rfl (by omega) rfl rfl ?_
    refine X.cut [(0, zr 4 40)] (zi156 97) rfl ?_
    refine X.aload_n 98 (zi156 97) rfl rfl rfl ?_
    refine X.getF 101 (zi156 98) rfl rfl (by decide) rfl rfl ?_
    refine X.getR 104 (zi156 101) rfl rfl (by decide) rfl rfl ?_
    refine X.aload_n 105 (zi156 104) rfl rfl rfl ?_
    refine X.getF 108 (zi156 105) rfl rfl (by decide) rfl rfl ?_
    refine X.getR 111 (zi156 108) rfl rfl (by decide) rfl rfl ?_
    refine X.callv 114 [] [zr 0 27] [(0, zr 0 9)] (zi156 111) rfl (by decide) rfl rfl (by omega) rfl rfl (by decide) rfl t36 (Nat.le_of_ble_eq_true rfl) (Nat.le_of_ble_eq_true rfl) rfl ?_
    refine X.iconst 1 (zi36 0) rfl rfl (by decide) ?_
    refine X.aload_n 2 (zi36 1) rfl rfl rfl ?_
    refine X.getR 5 (zi36 2) rfl rfl (by decide) rfl rfl ?_
    refine X.iconst 6 (zi36 5) rfl rfl (by decide) ?_
    refine X.iald 7 (zi36 6) rfl rfl (by decide) rfl (by omega) ?_
    have h509 := r10_0 hJ 0 (i := 4) (by omega)
    refine X.maxI 10 (zi36 7) rfl rfl (by omega) (Nat.le_of_ble_eq_true rfl) ?_
    refine X.reti (zi36 10) rfl t36 ?_
    show X (EE s) d 156 114 [(0, zr 4 40)] [zi (max 1 (m 0 10 4)), zr 0 27] m _
    refine X.callv 117 [zi (max 1 (m 0 10 4))] [] [(0, zr 0 27), (1, zi (max 1 (m 0 10 4)))] (zi156 114) rfl (by decide) rfl rfl (by omega) rfl rfl (by decide) rfl t61 (Nat.le_of_ble_eq_true rfl) (Nat.le_of_ble_eq_true rfl) rfl ?_
    refine c61_1 (B := B) 0 (max 1 (m 0 10 4)) (by omega) (hJ.up (by omega)) (by omega) (by omega) (fun v512 hv512 hFv512 => ?_)
    show X (EE s) d 156 117 [(0, zr 4 40)] [zi v512] m _
    refine X.i2l 118 (zi156 117) rfl rfl ?_
    refine X.retl (zi156 118) rfl t156 ?_
    exact hQ v512 (by first | trivial | omega) (Eq.trans (if_neg h501) (Eq.trans (if_neg h502) (Eq.trans (if_neg h503) (Eq.trans (if_neg h504) (Eq.trans (if_neg h506) (Eq.trans (if_pos h508) (Eq.trans (zn_eq hFv512.symm) rfl))))))) 
  refine X.tsOut 119 (zi156 1) rfl (by omega) rfl ?_
  refine X.cut [] (zi156 119) rfl ?_
  refine X.ldc2 122 (zi156 119) rfl rfl (by decide) ?_
  refine X.retl (zi156 122) rfl t156 ?_
  exact hQ (-1) (by first | trivial | omega) (Eq.trans (if_neg h501) (Eq.trans (if_neg h502) (Eq.trans (if_neg h503) (Eq.trans (if_neg h504) (Eq.trans (if_neg h506) (Eq.trans (if_neg h508) rfl)))))) 
-- WorkMeterModel.block
noncomputable def f299_1 (a1 : Int) (m : zM) : Int :=
  if a1 = 0 then
  ((m 4 45 22))
  else
  (if a1 = 1 then
  ((m 4 45 23))
  else
  (if a1 = 2 then
  ((m 4 45 24))
  else
  (if a1 = 3 then
  ((m 4 45 25))
  else
  (if a1 = 4 then
  ((m 4 45 26))
  else
  (if a1 = 5 then
  (zn (if (m 4 45 26) ≤ 0 then
  (0)
  else
  (32)) fun v509 =>
  zn (zorL (m 4 45 27) v509) fun z514 =>
  zn (if (m 4 45 21) = 1 then
  (128)
  else
  (0)) fun v517 =>
  zn (zorL z514 v517) fun z522 =>
  z522)
  else
  ((-1)))))))
end
